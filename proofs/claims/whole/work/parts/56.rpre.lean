/-! reading only adds -/
def Pre (s s' : RS) : Prop := (∃ l, pW s' = pW s ++ l) ∧ (∃ l, pT s' = pT s ++ l) ∧ (∀ j, j < (pH s).length → (pH s')[j]? = (pH s)[j]?) ∧ (pH s).length ≤ (pH s').length
theorem Pre.rf {s : RS} : Pre s s := ⟨⟨[], by simp⟩, ⟨[], by simp⟩, fun _ _ => rfl, Nat.le_refl _⟩
theorem Pre.tr {s s1 s2 : RS} (h : Pre s s1) (h2 : Pre s1 s2) : Pre s s2 := by
  obtain ⟨⟨l1, a1⟩, ⟨l2, a2⟩, a3, a4⟩ := h
  obtain ⟨⟨m1, b1⟩, ⟨m2, b2⟩, b3, b4⟩ := h2
  exact ⟨⟨l1 ++ m1, by rw [b1, a1, List.append_assoc]⟩, ⟨l2 ++ m2, by rw [b2, a2, List.append_assoc]⟩, fun j hj => (b3 j (by omega)).trans (a3 j hj), by omega⟩
theorem Pre.of2 {s s1 : RS} (h : s1.2.2 = s.2.2) : Pre s s1 := by
  obtain ⟨n, X, l⟩ := s
  obtain ⟨n1, X1, l1⟩ := s1
  cases h
  exact Pre.rf
theorem Pre.W {s s1 : RS} (h : Pre s s1) : (pW s).length ≤ (pW s1).length := by obtain ⟨⟨l, e⟩, -⟩ := h; rw [e]; simp
theorem Pre.T {s s1 : RS} (h : Pre s s1) : (pT s).length ≤ (pT s1).length := by obtain ⟨-, ⟨l, e⟩, -⟩ := h; rw [e]; simp
theorem Pre.Tat {s s1 : RS} (h : Pre s s1) {t : Nat} {x : Tr} (hx : (pT s)[t]? = some x) : (pT s1)[t]? = some x := by
  obtain ⟨-, ⟨l, e⟩, -⟩ := h
  rw [e, List.getElem?_append_left (at_lt hx)]; exact hx
theorem Pre.set {s s1 : RS} (h : Pre s s1) {i : Nat} {x : Th} (hi : (pH s).length ≤ i) : Pre s (setH i x s1) := by
  refine ⟨h.1, h.2.1, fun j hj => ?_, ?_⟩
  · show ((pH s1).set i x)[j]? = _
    rw [List.getElem?_set_ne (by omega)]; exact h.2.2.1 j hj
  · show (pH s).length ≤ ((pH s1).set i x).length
    rw [List.length_set]; exact h.2.2.2
theorem Pre.new {s : RS} {k : Nat} : Pre s (newH k s) := by
  refine ⟨⟨[], by simp [newH, pW]⟩, ⟨[], by simp [newH, pT]⟩, fun j hj => ?_, ?_⟩
  · show (pH s ++ [_])[j]? = _
    rw [List.getElem?_append_left hj]
  · show (pH s).length ≤ (pH s ++ [_]).length
    simp
theorem rb_some {α β : Type} {r : Nat ⊕ α} {f : α → Nat ⊕ β} {b : β} (h : rb r f = .inr b) : ∃ a, r = .inr a ∧ f a = .inr b := by
  cases r with
  | inl e => cases h
  | inr a => exact ⟨a, rfl, h⟩
def RecPre (rec : Rec) : Prop := ∀ s v s', rec s = .inr (v, s') → Pre s s'
theorem rBy_2 {row : List Nat} : ∀ {n : Nat} {acc l : List Int64} {s s1 : RS}, rBy row n acc s = .inr (l, s1) → s1.2 = s.2
  | 0, acc, l, s, s1, h => by cases h; rfl
  | n + 1, acc, l, s, s1, h => by
    obtain ⟨q, hq, h2⟩ := rb_some (show rb (rByte row s) _ = _ from h)
    have := rBy_2 h2
    rw [(rByte_inr (b := q.1) (s1 := q.2) hq).1] at this
    exact this
theorem rItems_pre {rec : Rec} (hr : RecPre rec) : ∀ {n : Nat} {acc l : List Int64} {s s1 : RS}, rItems rec n acc s = .inr (l, s1) → Pre s s1
  | 0, acc, l, s, s1, h => by cases h; exact Pre.rf
  | n + 1, acc, l, s, s1, h => by
    obtain ⟨q, hq, h2⟩ := rb_some (show rb (rec s) _ = _ from h)
    exact (hr _ q.1 q.2 hq).tr (rItems_pre hr h2)
theorem rPairs_pre {row : List Nat} {rec : Rec} {mem : List Int64} (hr : RecPre rec) : ∀ {n : Nat} {ks vs : List Int64} {l : List Int64 × List Int64} {s s1 : RS}, rPairs row rec mem n ks vs s = .inr (l, s1) → Pre s s1
  | 0, ks, vs, l, s, s1, h => by cases h; exact Pre.rf
  | n + 1, ks, vs, l, s, s1, h => by
    obtain ⟨q, hq, h2⟩ := rb_some (show rb (rStr row s) _ = _ from h)
    have hp := Pre.of2 (rStr_2 (t := q.1) (s1 := q.2) hq).1
    split at h2
    · cases h2; exact hp
    · split at h2
      · cases h2
      · obtain ⟨z, hz, h3⟩ := rb_some h2
        exact (hp.tr (hr _ z.1 z.2 hz)).tr (rPairs_pre hr h3)
theorem rMem_2 {row : List Nat} : ∀ {n : Nat} {acc l : List Int64} {s s1 : RS}, rMem row n acc s = .inr (l, s1) → s1.2.2 = s.2.2
  | 0, acc, l, s, s1, h => by cases h; rfl
  | n + 1, acc, l, s, s1, h => by
    obtain ⟨q, hq, h2⟩ := rb_some (show rb (rStr row s) _ = _ from h)
    have hp := (rStr_2 (t := q.1) (s1 := q.2) hq).1
    split at h2
    · cases h2
    · rw [rMem_2 h2]; exact hp
theorem keepT_pre {np : Nat} {x : Tr} {s s1 : RS} {t : Nat} (h : keepT np x s = .inr (t, s1)) : Pre s s1 ∧ (pT s1)[t]? = some x := by
  unfold keepT at h
  split at h
  · cases h
  · split at h
    · rename_i h9
      cases h
      refine ⟨⟨⟨[], by simp [pW]⟩, ⟨[x], rfl⟩, fun _ _ => rfl, Nat.le_refl _⟩, ?_⟩
      show (pT s ++ [x])[(pT s).length]? = some x
      rw [List.getElem?_append_right (Nat.le_refl _), Nat.sub_self]; rfl
    · rename_i h9
      cases h
      have := tpos_le (pT s) x
      exact ⟨⟨⟨[], by simp [pW]⟩, ⟨[], by simp [pT]⟩, fun _ _ => rfl, Nat.le_refl _⟩, tpos_at (l := pT s) (by omega)⟩
theorem rTr_pre {row : List Nat} {al : List Int64} {n np : Nat} {s s1 : RS} {t : Nat} (h : rTr row al n np s = .inr (t, s1)) (hR : ∀ t ∈ pR s, t < (pT s).length) : Pre s s1 ∧ t < (pT s1).length := by
  by_cases h1 : n % 4 = 1
  · rw [rTr_k h1] at h
    obtain ⟨q, hq, h2⟩ := rb_some h
    cases h2
    unfold rKR at hq
    cases hj : (pR s)[n / 4]? with
    | none => rw [hj] at hq; cases hq
    | some t => rw [hj] at hq; cases hq; exact ⟨Pre.rf, hR _ (at_mem hj)⟩
  · by_cases h2 : n % 8 = 7 ∨ 3 < n / 16
    · rw [rTr_x h1 h2] at h; cases h
    · rw [rTr_m h1 h2] at h
      obtain ⟨q, hq, h3⟩ := rb_some h
      have hp := Pre.of2 (rStr_2 (t := q.1) (s1 := q.2) hq).1
      split at h3
      · cases h3
      · obtain ⟨z, hz, h4⟩ := rb_some h3
        have hp2 := Pre.of2 (rMem_2 (l := z.1) (s1 := z.2) hz)
        have hp3 := keepT_pre h4
        exact ⟨(hp.tr hp2).tr hp3.1, at_lt hp3.2⟩
theorem newH_len (k : Nat) (s : RS) : (pH (newH k s)).length = (pH s).length + 1 := by simp [newH, pH]
theorem newH_at (k : Nat) (s : RS) : (pH (newH k s))[(pH s).length]? = some (k, 0, 0, [], [], []) := by
  show (pH s ++ [_])[(pH s).length]? = _
  rw [List.getElem?_append_right (Nat.le_refl _), Nat.sub_self]; rfl
theorem rBody_pre {row : List Nat} {al : List Int64} {rec : Rec} (hr : RecPre rec) {k n np i : Nat} {s0 s s1 : RS} (hi : (pH s0).length ≤ i) (hs : Pre s0 s) (hR : ∀ t ∈ pR s, t < (pT s).length) (h : rBody row al rec k n np i s = .inr s1) : Pre s0 s1 := by
  unfold rBody at h
  split at h
  · unfold rDate at h
    split at h
    · cases h
    · obtain ⟨q, hq, h2⟩ := rb_some h
      cases h2
      exact (hs.tr (Pre.of2 (by rw [rEightF_2 (v := q.1) (s1 := q.2) hq]))).set hi
  · split at h
    · unfold rBytes at h
      split at h
      · cases h
      · obtain ⟨q, hq, h2⟩ := rb_some h
        cases h2
        exact (hs.tr (Pre.of2 (by rw [rBy_2 (l := q.1) (s1 := q.2) hq]))).set hi
    · split at h
      · unfold rArr at h
        split at h
        · cases h
        · obtain ⟨q, hq, h2⟩ := rb_some h
          obtain ⟨z, hz, h3⟩ := rb_some h2
          cases h3
          exact ((hs.tr (rPairs_pre hr (l := q.1) (s1 := q.2) hq)).tr (rItems_pre hr (l := z.1) (s1 := z.2) hz)).set hi
      · unfold rObj at h
        obtain ⟨q, hq, h2⟩ := rb_some h
        obtain ⟨z, hz, h3⟩ := rb_some h2
        have hp := (hs.tr (rTr_pre (t := q.1) (s1 := q.2) hq hR).1).tr (rItems_pre hr (l := z.1) (s1 := z.2) hz)
        split at h3
        · obtain ⟨y, hy, h4⟩ := rb_some h3
          cases h4
          exact (hp.tr (rPairs_pre hr (l := y.1) (s1 := y.2) hy)).set hi
        · cases h3
          exact hp.set hi
/-! contracts whose end speaks of what is given back too -/
def PR2 {β : Type} (on : Ky → Nat → Prop) (Ps : β → RS → Mm → Prop) (M : Mm) (r : Nat ⊕ (β × RS)) : Mm → Prop := fun M' => match r with
  | .inr q => EqF on M M' ∧ Ps q.1 q.2 M'
  | .inl f => EqF (fq on) M M' ∧ M'.1 (27, 0) 10 = nI f
def CR2 {β : Type} (G : Gd) (y : Mt) (d : Nat) (av : List Value) (M : Mm) (on : Ky → Nat → Prop) (Ps : β → RS → Mm → Prop) (val : β → Option Value) (r : Nat ⊕ (β × RS)) : Prop := Ce G y d av M (oR val r) (PR2 on Ps M r) (kR r)
def FR2 {β : Type} (G : Gd) (y : Mt) (d : Nat) (M0 : Mm) (on : Ky → Nat → Prop) (Ps : β → RS → Mm → Prop) (val : β → Option Value) (r : Nat ⊕ (β × RS)) (pc : Nat) (lv : List (Nat × Value)) (st : List Value) (M : Mm) : Prop := Fr G y d (kR r) (Ze G (oR val r) (PR2 on Ps M0 r) (kR r)) 0 pc lv st M
section XR2
variable {β : Type} {G : Gd} {y : Mt} {d : Nat} {pc n t : Nat} {lv lv' : List (Nat × Value)} {st : List Value} {M M0 : Mm} {on : Ky → Nat → Prop} {Ps : β → RS → Mm → Prop} {val : β → Option Value}
theorem CR.two {av : List Value} {Q : RS → Mm → Prop} {r : Nat ⊕ (β × RS)} (h : CR G y d av M on Q val r) : CR2 G y d av M on (fun _ => Q) val r := by
  cases r with
  | inl e => exact h
  | inr q => exact h
theorem CR2.weak {av : List Value} {Q : β → RS → Mm → Prop} {r : Nat ⊕ (β × RS)} (h : CR2 G y d av M on Q val r) (hw : ∀ b s M', r = .inr (b, s) → EqF on M M' → Q b s M' → Ps b s M') : CR2 G y d av M on Ps val r := by
  cases r with
  | inl e => exact h
  | inr q => exact Ce.mono h fun M' z => ⟨z.1, hw q.1 q.2 M' rfl z.1 z.2⟩
theorem CR2.onn {av : List Value} {on1 : Ky → Nat → Prop} {r : Nat ⊕ (β × RS)} (h : CR2 G y d av M on1 Ps val r) (hw : ∀ k j, on k j → on1 k j) : CR2 G y d av M on Ps val r := by
  cases r with
  | inl e => exact Ce.mono h fun M' z => ⟨z.1.sub fun k j y => ⟨hw k j y.1, y.2⟩, z.2⟩
  | inr q => exact Ce.mono h fun M' z => ⟨z.1.sub hw, z.2⟩
theorem r_call2 {γ : Type} {y2 : Mt} {d2 np idx : Nat} {q : Ky} {ci : Nat} {u : u_T × Nat} {As rest : List Value} {on1 : Ky → Nat → Prop} {Ps1 : γ → RS → Mm → Prop} {val1 : γ → Option Value} {r1 : Nat ⊕ (γ × RS)} {f : γ × RS → Nat ⊕ (β × RS)} (hC : CR2 G y2 d2 (.ref (ga G q) :: As) M on1 Ps1 val1 r1) (hS : EqF on M0 M) (hon : ∀ k j, on k j → on1 k j) (hi : tget (yT y) pc = some (.invokevirtual idx, n, t)) (hn : pc + 3 = n) (hl : LkV (yC y) idx y2 np)
    (hs : shp q.1 = some (.inl ci)) (hcl : vwCl[ci]? = some ((yN y2).cls, u)) (hc : q.2 < cnt q.1) (hnp : As.length = np) (hst : st = As.reverse ++ .ref (ga G q) :: rest) (hW : (rest.map fun v => v.category).sum ≤ 8) (hd : d2 + 1 ≤ d)
    (kk : ∀ (b : γ) (s1 : RS) (M1 : Mm), r1 = .inr (b, s1) → Ps1 b s1 M1 → EqF on1 M M1 → EqF on M0 M1 → FR2 G y d M0 on Ps val (f (b, s1)) n lv ((val1 b).toList ++ rest) M1) : FR2 G y d M0 on Ps val (rb r1 f) pc lv st M := by
  cases r1 with
  | inl e => exact x_throwVe (k2 := 1) hC hi hn hl hs hcl hc hnp hst hW hd (Nat.le_refl 1) (fun M2 h => ⟨hS.foT h.1 hon, h.2⟩)
  | inr p => exact x_callVe (k2 := 0) hC hi hn hl hs hcl hc hnp hst hW hd (Nat.zero_le _) (fun M2 h => kk p.1 p.2 M2 rfl h.2 h.1 (hS.tr (h.1.sub hon)))
theorem r_stop2 {y2 : Mt} {d2 np idx : Nat} {q : Ky} {ci : Nat} {u : u_T × Nat} {As rest : List Value} {f : Nat} {M2 : Mm} {r : Nat ⊕ (β × RS)} (hr : r = .inl f) (hC : Ct G y2 d2 (.ref (ga G q) :: As) M (.inr IAE) M2 1) (hS : EqF (fq on) M0 M2) (hf : M2.1 (27, 0) 10 = nI f) (hi : tget (yT y) pc = some (.invokevirtual idx, n, t)) (hn : pc + 3 = n) (hl : LkV (yC y) idx y2 np)
    (hs : shp q.1 = some (.inl ci)) (hcl : vwCl[ci]? = some ((yN y2).cls, u)) (hc : q.2 < cnt q.1) (hnp : As.length = np) (hst : st = As.reverse ++ .ref (ga G q) :: rest) (hW : (rest.map fun v => v.category).sum ≤ 8) (hd : d2 + 1 ≤ d) : FR2 G y d M0 on Ps val r pc lv st M := by
  subst hr
  exact x_throwVe (k2 := 1) (P := fun M' => M' = M2) (Ct.e hC rfl) hi hn hl hs hcl hc hnp hst hW hd (Nat.le_refl 1) (fun M3 h => by rw [h]; exact ⟨hS, hf⟩)
theorem r_of2 {av : List Value} {r : Nat ⊕ (β × RS)} (hG : Gok G) (ok : okT y) (hp : plainName (yN y).cls = true) (hc : (yN y).cls = cnm (yC y)) (hl : (lg_sl av).length ≤ yL y) (body : FR2 G y d M on Ps val r 0 (lv_args 0 av) [] M) : CR2 G y d av M on Ps val r := ce_of hG ok hp hc hl body
theorem r_retL2 {Q : Int64 → RS → Mm → Prop} {r : Nat ⊕ (Int64 × RS)} {b : Int64} {s : RS} (hr : r = .inr (b, s)) (hS : EqF on M0 M) (hP : Q b s M) (hi : tget (yT y) pc = some (.lreturn, n, t)) (hn : pc + 1 = n) (hv : yR y = some .long) : FR2 G y d M0 on Q vLng r pc lv [.long b] M := by
  subst hr
  exact fr_e (x_retL hi hn hv (Nat.le_refl _) rfl rfl) ⟨hS, hP⟩
theorem r_retV2 {r : Nat ⊕ (β × RS)} {b : β} {s : RS} (hr : r = .inr (b, s)) (hS : EqF on M0 M) (hP : Ps b s M) (hi : tget (yT y) pc = some (.return_, n, t)) (hn : pc + 1 = n) (hv : yR y = none) : FR2 G y d M0 on Ps vNo r pc lv [] M := by
  subst hr
  exact fr_e (x_retV hi hn hv (Nat.le_refl _) rfl rfl) ⟨hS, hP⟩
end XR2
/-! a thing that is being read -/
def Pt (k : Nat) (tr : Int32) (b : Int64) (L Y V : List Int64) (i : Nat) (M : Mm) : Prop := M.1 (8, i) 3 = nI k ∧ M.1 (8, i) 4 = tr ∧ M.2 (8, i) 5 = b ∧ LL M (9, i) (10, i) L ∧ LL M (11, i) (12, i) Y ∧ LL M (13, i) (14, i) V
theorem Pt.eqF {on : Ky → Nat → Prop} {k : Nat} {tr : Int32} {b : Int64} {L Y V : List Int64} {i : Nat} {M M1 : Mm} (h : Pt k tr b L Y V i M) (he : EqF on M M1) (ho : ∀ r, 8 ≤ r → r ≤ 14 → ∀ j, on (r, i) j) : Pt k tr b L Y V i M1 := by
  obtain ⟨a, b, c, e, f, g⟩ := h
  exact ⟨(he _ _ (ho 8 (by decide) (by decide) _)).1.trans a, (he _ _ (ho 8 (by decide) (by decide) _)).1.trans b, (he _ _ (ho 8 (by decide) (by decide) _)).2.trans c, e.eqF he (ho 9 (by decide) (by decide) _) (fun j => ho 10 (by decide) (by decide) j), f.eqF he (ho 11 (by decide) (by decide) _) (fun j => ho 12 (by decide) (by decide) j), g.eqF he (ho 13 (by decide) (by decide) _) (fun j => ho 14 (by decide) (by decide) j)⟩
theorem Pt.aL {k : Nat} {tr : Int32} {b e : Int64} {L Y V : List Int64} {i : Nat} {M : Mm} (h : Pt k tr b L Y V i M) : Pt k tr b (L ++ [e]) Y V i (ui (ul M (10, i) L.length e) (9, i) 1 (nI (L.length + 1))) := by
  obtain ⟨h1, h2, h3, h4, h5, h6⟩ := h
  have hS : EqF (fun k _ => k.1 ≠ 9 ∧ k.1 ≠ 10) M (ui (ul M (10, i) L.length e) (9, i) 1 (nI (L.length + 1))) := (EqF.rf.ul (by simp)).ui (by simp)
  exact ⟨(hS _ _ (by simp)).1.trans h1, (hS _ _ (by simp)).1.trans h2, (hS _ _ (by simp)).2.trans h3, ⟨by simp [ui], h4.2.push (fun k hk => by have hne : k ≠ L.length := Nat.ne_of_lt hk; simp [ui, ul, hne]) (by simp [ui, ul])⟩, h5.eqF hS (by simp) (fun j => by simp), h6.eqF hS (by simp) (fun j => by simp)⟩
theorem Pt.aY {k : Nat} {tr : Int32} {b e : Int64} {L Y V : List Int64} {i : Nat} {M : Mm} (h : Pt k tr b L Y V i M) : Pt k tr b L (Y ++ [e]) V i (ui (ul M (12, i) Y.length e) (11, i) 1 (nI (Y.length + 1))) := by
  obtain ⟨h1, h2, h3, h4, h5, h6⟩ := h
  have hS : EqF (fun k _ => k.1 ≠ 11 ∧ k.1 ≠ 12) M (ui (ul M (12, i) Y.length e) (11, i) 1 (nI (Y.length + 1))) := (EqF.rf.ul (by simp)).ui (by simp)
  exact ⟨(hS _ _ (by simp)).1.trans h1, (hS _ _ (by simp)).1.trans h2, (hS _ _ (by simp)).2.trans h3, h4.eqF hS (by simp) (fun j => by simp), ⟨by simp [ui], h5.2.push (fun k hk => by have hne : k ≠ Y.length := Nat.ne_of_lt hk; simp [ui, ul, hne]) (by simp [ui, ul])⟩, h6.eqF hS (by simp) (fun j => by simp)⟩
theorem Pt.aV {k : Nat} {tr : Int32} {b e : Int64} {L Y V : List Int64} {i : Nat} {M : Mm} (h : Pt k tr b L Y V i M) : Pt k tr b L Y (V ++ [e]) i (ui (ul M (14, i) V.length e) (13, i) 1 (nI (V.length + 1))) := by
  obtain ⟨h1, h2, h3, h4, h5, h6⟩ := h
  have hS : EqF (fun k _ => k.1 ≠ 13 ∧ k.1 ≠ 14) M (ui (ul M (14, i) V.length e) (13, i) 1 (nI (V.length + 1))) := (EqF.rf.ul (by simp)).ui (by simp)
  exact ⟨(hS _ _ (by simp)).1.trans h1, (hS _ _ (by simp)).1.trans h2, (hS _ _ (by simp)).2.trans h3, h4.eqF hS (by simp) (fun j => by simp), h5.eqF hS (by simp) (fun j => by simp), ⟨by simp [ui], h6.2.push (fun k hk => by have hne : k ≠ V.length := Nat.ne_of_lt hk; simp [ui, ul, hne]) (by simp [ui, ul])⟩⟩
theorem Pt.sL {k : Nat} {tr : Int32} {b e : Int64} {L Y V : List Int64} {i c : Nat} {M : Mm} (h : Pt k tr b L Y V i M) (hc : c < L.length) : Pt k tr b (L.set c e) Y V i (ul M (10, i) c e) := by
  obtain ⟨h1, h2, h3, h4, h5, h6⟩ := h
  have hS : EqF (fun k _ => k.1 ≠ 10) M (ul M (10, i) c e) := EqF.rf.ul (by simp)
  refine ⟨(hS _ _ (by simp)).1.trans h1, (hS _ _ (by simp)).1.trans h2, (hS _ _ (by simp)).2.trans h3, ⟨by rw [List.length_set]; exact (hS _ _ (by simp)).1.trans h4.1, fun k x hx => ?_⟩, h5.eqF hS (by simp) (fun j => by simp), h6.eqF hS (by simp) (fun j => by simp)⟩
  by_cases e9 : k = c
  · subst e9
    rw [List.getElem?_set_self hc] at hx
    cases hx; simp [ul]
  · rw [List.getElem?_set_ne (fun z => e9 z.symm)] at hx
    rw [← h4.2 k x hx]; simp [ul, e9]
theorem Pt.th {k t : Nat} {b : Int64} {L Y V : List Int64} {i : Nat} {M : Mm} {tr : Int32} (h : Pt k tr b L Y V i M) (htr : tr = trv (k, b, t, L, Y, V)) (h1 : L.length ≤ 8) (h2 : Y.length ≤ 6) (h3 : V.length = Y.length) (h4 : k < 16) : cTh (k, b, t, L, Y, V) M i := by
  obtain ⟨a1, a2, a3, a4, a5, a6⟩ := h
  exact ⟨a1, a2.trans htr, a3, a4, a5, a6, h1, h2, h3, h4⟩
def Cmp (h : Nat) (s : RS) (M : Mm) : Prop := ∀ j x, h ≤ j → (pH s)[j]? = some x → cTh x M j
/-- what reading leaves that also changes the thing i -/
def onDi (s : RS) (i : Nat) (k : Ky) (j : Nat) : Prop := onD s k j ∧ ¬ (8 ≤ k.1 ∧ k.1 ≤ 14 ∧ k.2 = i)
theorem onD_pre {s s1 : RS} (h : Pre s s1) {k : Ky} {j : Nat} (z : onD s k j) : onD s1 k j := by
  have h1 := h.W
  have h2 := h.T
  have h3 := h.2.2.2
  unfold onD at z ⊢
  exact ⟨z.1, fun e => Nat.lt_of_lt_of_le (z.2.1 e) h1, fun e => Nat.lt_of_lt_of_le (z.2.2.1 e) h2, fun e => Nat.lt_of_lt_of_le (z.2.2.2 e) h3⟩
theorem RdC.eqT {row : List Nat} {al : List Int64} {s : RS} {M M1 : Mm} (h : RdC row al s M) (hS : EqF (fun k j => ¬ (8 ≤ k.1 ∧ k.1 ≤ 14) ∨ (k.1 = 8 ∧ j = 3)) M M1) : RdC row al s M1 := by
  obtain ⟨⟨a1, a2⟩, hb, ⟨k1, k2, k3, k4, k5, k6, k7, k8⟩, hi, hw⟩ := id h
  exact ⟨⟨(hS _ _ (by simp)).1.trans a1, a2.eqF hS (by simp) (fun j => by simp)⟩, hb, ⟨k1.eqF hS (by simp) (fun j => by simp), k2.eqF hS (by simp) (fun j => by simp), (hS _ _ (by simp)).1.trans k3, k4.to fun k => (hS _ _ (by simp)).2, (hS _ _ (by simp)).1.trans k5, fun t x hx => (k6 t x hx).eqF hS (fun r h1 h2 j => by simp; omega), (hS _ _ (by simp)).1.trans k7, fun j x hx => (hS _ _ (by simp)).1.trans (k8 j x hx)⟩, hi, hw.eq hS (fun r h1 h2 j => by simp; omega)⟩
theorem Cmp.eq {h i : Nat} {s : RS} {M M1 : Mm} (hc : Cmp h s M) (hi : i < h) (he : EqF (fun k _ => ¬ (8 ≤ k.1 ∧ k.1 ≤ 14 ∧ k.2 = i)) M M1) : Cmp h s M1 := fun j x hj hx => (hc j x hj hx).eqF he (fun r h1 h2 j' => by simp; omega)
theorem Cmp.leaf {h : Nat} {s s1 : RS} {M M1 : Mm} (hc : Cmp h s M) (h2 : s1.2.2 = s.2.2) (he : EqF onA M M1) : Cmp h s1 M1 := fun j x hj hx => (hc j x hj (by rw [show pH s = pH s1 by unfold pH; rw [h2]]; exact hx)).eqF he (fun r h1 h2 j' => by unfold onA; simp; omega)
theorem Cmp.step {h : Nat} {s s1 : RS} {M M1 : Mm} (hc : Cmp h s M) (hp : Pre s s1) (he : EqF (onD s) M M1) (h2 : Cmp (pH s).length s1 M1) : Cmp h s1 M1 := by
  intro j x hj hx
  by_cases hl : j < (pH s).length
  · exact (hc j x hj ((hp.2.2.1 j hl) ▸ hx)).eqF he (fun r h1 h2 j' => by unfold onD; simp; omega)
  · exact h2 j x (by omega) hx
theorem RdC.set {row : List Nat} {al : List Int64} {s : RS} {M : Mm} {i : Nat} {x y : Th} (h : RdC row al s M) (hy : (pH s)[i]? = some y) (hk : tK x = tK y) : RdC row al (setH i x s) M := by
  obtain ⟨ha, hb, ⟨k1, k2, k3, k4, k5, k6, k7, k8⟩, ⟨i1, i2, i3, i4, i5, i6, i7, i8, i9⟩, hw⟩ := id h
  have hlen : (pH (setH i x s)).length = (pH s).length := List.length_set
  refine ⟨ha, hb, ⟨k1, k2, k3, k4, k5, k6, by rw [hlen]; exact k7, fun j z hz => ?_⟩, ⟨i1, i2, by rw [hlen]; exact i3, i4, by rw [hlen]; exact i5, fun j hj => by rw [hlen]; exact i6 j hj, i7, fun z hz => ?_, i9⟩, hw⟩
  · by_cases e : j = i
    · subst e
      have hz2 : ((pH s).set j x)[j]? = some z := hz
      rw [List.getElem?_set_self (at_lt hy)] at hz2
      cases hz2
      rw [hk]; exact k8 j y hy
    · have hz2 : ((pH s).set i x)[j]? = some z := hz
      rw [List.getElem?_set_ne (fun q => e q.symm)] at hz2
      exact k8 j z hz2
  · rcases List.mem_or_eq_of_mem_set (show z ∈ (pH s).set i x from hz) with h9 | h9
    · exact i8 z h9
    · rw [h9, hk]; exact i8 y (at_mem hy)
theorem Cmp.set {s : RS} {M : Mm} {i : Nat} {x : Th} (hc : Cmp (i + 1) s M) (hx : cTh x M i) : Cmp i (setH i x s) M := by
  intro j z hj hz
  have hz2 : ((pH s).set i x)[j]? = some z := hz
  by_cases e : j = i
  · subst e
    have hl := at_lt hz2
    rw [List.length_set] at hl
    rw [List.getElem?_set_self hl] at hz2
    cases hz2; exact hx
  · rw [List.getElem?_set_ne (fun q => e q.symm)] at hz2
    exact hc j z (by omega) hz2
