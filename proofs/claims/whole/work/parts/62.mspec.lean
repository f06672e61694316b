/-! READING AS THE MODEL DOES: the head of a value, then what is inside -/
abbrev Pd : Type := Nat × Nat × Nat × Nat
noncomputable def rhT (row : List Nat) (al : List Int64) (h k kp np n : Nat) (s : RS) : Nat ⊕ ((Int64 × Option Pd) × RS) :=
  if n % 2 = 0 then rb (rKnown k (n / 2) np s) fun q => .inr ((q.1, none), q.2)
  else if (pH s).length = 40 then .inl kp else if h = 12 then .inl kp else
    if k = 8 then rb (rDate row n np (pH s).length (newH k s)) fun s' => .inr ((16 * lN (pH s).length + 7, none), s')
    else if k = 12 then rb (rBytes row (n / 2) np (pH s).length (newH k s)) fun s' => .inr ((16 * lN (pH s).length + 7, none), s')
    else if k = 9 then (if 8 < n / 2 then .inl np else .inr ((16 * lN (pH s).length + 7, some ((pH s).length, 9, n / 2, 0)), newH k s))
    else rb (rTr row al n np (newH k s)) fun t => .inr ((16 * lN (pH s).length + 7, some ((pH s).length, 10, (rM (trAt t.2 t.1)).length, t.1)), t.2)
noncomputable def rh1 (row : List Nat) (al : List Int64) (h kp k : Nat) (s : RS) : Nat ⊕ ((Int64 × Option Pd) × RS) :=
  if k = 4 then rb (rInt row s) fun q => .inr ((q.1, none), q.2) else if k = 5 then rb (rWide row kp s) fun q => .inr ((q.1, none), q.2)
  else if k = 6 then rb (rStr row s) fun q => .inr ((16 * q.1 + 6, none), q.2)
  else if k = 8 ∨ k = 9 ∨ k = 10 ∨ k = 12 then rb (rNum row s) fun q => rhT row al h k kp s.1 q.1 q.2 else if 3 < k then .inl kp else .inr ((lN k, none), s)
noncomputable def rhd (row : List Nat) (al : List Int64) (h : Nat) (s : RS) : Nat ⊕ ((Int64 × Option Pd) × RS) := rb (rByte row s) fun q => rh1 row al h s.1 q.1 q.2
def rins (row : List Nat) (rec : Rec) (p : Pd) (s : RS) : Nat ⊕ RS :=
  if p.2.1 = 9 then rb (rPairs row rec [] 7 [] [] s) fun q => rb (rItems rec p.2.2.1 [] q.2) fun z => .inr (setH p.1 (9, 0, 0, z.1, q.1.1, q.1.2) z.2)
  else rb (rItems rec p.2.2.1 [] s) fun z => if rD (trAt s p.2.2.2) = true then rb (rPairs row rec (rM (trAt s p.2.2.2)) 7 [] [] z.2) fun q => .inr (setH p.1 (10, 0, p.2.2.2, z.1, q.1.1, q.1.2) q.2)
    else .inr (setH p.1 (10, 0, p.2.2.2, z.1, [], []) z.2)
def rinO (row : List Nat) (rec : Option Rec) (p : Option Pd) (s : RS) : Nat ⊕ RS := match p with
  | none => .inr s
  | some p => match rec with
    | none => .inl 0
    | some rec => rins row rec p s
noncomputable def recR (row : List Nat) (al : List Int64) : Nat → Option Rec
  | 0 => none
  | dl + 1 => some (rVal row al dl)
theorem rVal_eq (row : List Nat) (al : List Int64) : ∀ dl : Nat, rVal row al dl = rvS row al (recR row al dl)
  | 0 => rfl
  | _ + 1 => rfl
theorem rTh1_hd {row : List Nat} {al : List Int64} {dl h : Nat} (hh : h + dl = 12) {k kp np n : Nat} (hk : k = 8 ∨ k = 9 ∨ k = 10 ∨ k = 12) {s : RS} :
    rTh1 row al (recR row al dl) k kp np n s = rb (rhT row al h k kp np n s) fun q => rb (rinO row (recR row al dl) q.1.2 q.2) fun s2 => .inr (q.1.1, s2) := by
  unfold rTh1 rhT
  by_cases h1 : n % 2 = 0
  · rw [if_pos h1, if_pos h1, rb_assoc]
    exact (rb_inr _).symm
  rw [if_neg h1, if_neg h1]
  by_cases h2 : (pH s).length = 40
  · rw [if_pos h2, if_pos h2]; rfl
  rw [if_neg h2, if_neg h2]
  cases dl with
  | zero => rw [if_pos (by omega)]; rfl
  | succ dl =>
    rw [if_neg (by omega)]
    show rb (rBody row al (rVal row al dl) k n np (pH s).length (newH k s)) _ = _
    unfold rBody
    rcases hk with rfl | rfl | rfl | rfl
    · rw [if_pos rfl, if_pos rfl, rb_assoc]; rfl
    · rw [if_neg (by decide), if_neg (by decide), if_pos rfl, if_neg (by decide), if_neg (by decide), if_pos rfl]
      unfold rArr
      by_cases h3 : 8 < n / 2
      · rw [if_pos h3, if_pos h3]; rfl
      · rw [if_neg h3, if_neg h3]; rfl
    · rw [if_neg (by decide), if_neg (by decide), if_neg (by decide), if_neg (by decide), if_neg (by decide), if_neg (by decide)]
      unfold rObj
      rw [rb_assoc, rb_assoc]
      rfl
    · rw [if_neg (by decide), if_pos rfl, if_neg (by decide), if_pos rfl, rb_assoc]; rfl
theorem rVal_hd {row : List Nat} {al : List Int64} {dl h : Nat} (hh : h + dl = 12) (s : RS) :
    rVal row al dl s = rb (rhd row al h s) fun q => rb (rinO row (recR row al dl) q.1.2 q.2) fun s2 => .inr (q.1.1, s2) := by
  rw [rVal_eq]
  unfold rvS rhd
  rw [rb_assoc]
  congr 1
  funext q
  unfold rv1 rh1
  by_cases h4 : q.1 = 4
  · rw [if_pos h4, if_pos h4, rb_assoc]; exact (rb_inr _).symm
  rw [if_neg h4, if_neg h4]
  by_cases h5 : q.1 = 5
  · rw [if_pos h5, if_pos h5, rb_assoc]; exact (rb_inr _).symm
  rw [if_neg h5, if_neg h5]
  by_cases h6 : q.1 = 6
  · rw [if_pos h6, if_pos h6, rb_assoc]; rfl
  rw [if_neg h6, if_neg h6]
  by_cases h8 : q.1 = 8 ∨ q.1 = 9 ∨ q.1 = 10 ∨ q.1 = 12
  · rw [if_pos h8, if_pos h8, rb_assoc]
    unfold rTh
    congr 1
    funext z
    exact rTh1_hd hh h8
  rw [if_neg h8, if_neg h8]
  by_cases h3 : 3 < q.1
  · rw [if_pos h3, if_pos h3]; rfl
  · rw [if_neg h3, if_neg h3]; rfl
/-! the model's reader -/
def RmA (s : RS) (M : Mm) : Prop := M.1 (40, 0) 36 = nI s.1 ∧ M.1 (40, 0) 37 = -1 ∧ M.1 (40, 0) 22 = nI (pX s).length ∧ LI (M.2 (56, 0)) (pX s)
def RmK (s : RS) (M : Mm) : Prop := M.1 (40, 0) 24 = nI (pL s).length ∧ LN (M.1 (57, 0)) (pL s) ∧ M.1 (40, 0) 26 = nI (pR s).length ∧ LN (M.1 (58, 0)) (pR s) ∧ M.1 (40, 0) 1 = nI (pW s).length ∧ LI (M.2 (41, 0)) (pW s) ∧ M.1 (40, 0) 3 = nI (pT s).length ∧ (∀ t x, (pT s)[t]? = some x → mTr x M t) ∧ M.1 (40, 0) 8 = nI (pH s).length ∧ (∀ j x, (pH s)[j]? = some x → M.1 (46, 0) j = nI (tK x)) ∧ (pT s).Nodup
def RmW (row : List Nat) (al : List Int64) (M : Mm) : Prop := M.1 (40, 0) 19 = nI row.length ∧ LN (M.1 (55, 0)) row ∧ row.length ≤ 600 ∧ (∀ b ∈ row, b < 256) ∧ M.1 (40, 0) 17 = nI (al.length + 1) ∧ LI (M.2 (54, 0)) (0 :: al) ∧ al.length ≤ 6
def RdM (row : List Nat) (al : List Int64) (s : RS) (M : Mm) : Prop := RmA s M ∧ RdB row s ∧ RmK s M ∧ RdI s ∧ RmW row al M
/-- what reading bytes and texts leaves -/
def onMA (k : Ky) (j : Nat) : Prop := k.1 ≠ 56 ∧ (k.1 = 40 → j ≠ 22 ∧ j ≠ 36 ∧ j ≠ 37)
/-- what reading a value leaves: what was there, and the stack below h -/
def onMD (h : Nat) (s : RS) (k : Ky) (j : Nat) : Prop := k.1 ≠ 56 ∧ k.1 ≠ 57 ∧ k.1 ≠ 58 ∧ (k.1 = 40 → j ≠ 1 ∧ j ≠ 3 ∧ j ≠ 8 ∧ j ≠ 22 ∧ j ≠ 24 ∧ j ≠ 26 ∧ j ≠ 28 ∧ j ≠ 36 ∧ j ≠ 37 ∧ j ≠ 38) ∧ (k.1 = 41 → j < (pW s).length) ∧ (42 ≤ k.1 ∧ k.1 ≤ 44 → j < (pT s).length) ∧ (k.1 = 45 → j < 3 * (pT s).length) ∧
  (46 ≤ k.1 ∧ k.1 ≤ 49 → j < (pH s).length) ∧ (k.1 = 50 → j < 8 * (pH s).length) ∧ (k.1 = 51 → j < (pH s).length) ∧ (k.1 = 52 ∨ k.1 = 53 → j < 6 * (pH s).length) ∧ (59 ≤ k.1 ∧ k.1 ≤ 62 → j < h)
theorem onMDA {h : Nat} {s : RS} {k : Ky} {j : Nat} (z : onMD h s k j) : onMA k j := by
  obtain ⟨a1, a2, a3, a4, -⟩ := z
  exact ⟨a1, fun e => ⟨(a4 e).2.2.2.1, (a4 e).2.2.2.2.2.2.2.1, (a4 e).2.2.2.2.2.2.2.2.1⟩⟩
theorem onMD_pre {h h' : Nat} {s s1 : RS} (hp : Pre s s1) (hh : h ≤ h') {k : Ky} {j : Nat} (z : onMD h s k j) : onMD h' s1 k j := by
  have h1 := hp.W
  have h2 := hp.T
  have h3 := hp.2.2.2
  obtain ⟨a1, a2, a3, a4, a5, a6, a7, a8, a9, a10, a11, a12⟩ := z
  exact ⟨a1, a2, a3, a4, fun e => Nat.lt_of_lt_of_le (a5 e) h1, fun e => Nat.lt_of_lt_of_le (a6 e) h2, fun e => Nat.lt_of_lt_of_le (a7 e) (Nat.mul_le_mul_left 3 h2), fun e => Nat.lt_of_lt_of_le (a8 e) h3, fun e => Nat.lt_of_lt_of_le (a9 e) (Nat.mul_le_mul_left 8 h3), fun e => Nat.lt_of_lt_of_le (a10 e) h3, fun e => Nat.lt_of_lt_of_le (a11 e) (Nat.mul_le_mul_left 6 h3), fun e => Nat.lt_of_lt_of_le (a12 e) hh⟩
theorem mTr.eqM {on : Ky → Nat → Prop} {x : Tr} {M M1 : Mm} {t : Nat} (h : mTr x M t) (he : EqF on M M1) (h1 : ∀ r, 42 ≤ r → r ≤ 44 → on (r, 0) t) (h2 : ∀ j, j < 3 * (t + 1) → on (45, 0) j) : mTr x M1 t := by
  obtain ⟨a, b, c, e, f⟩ := h
  refine ⟨(he _ _ (h1 42 (by decide) (by decide))).2.trans a, (he _ _ (h1 43 (by decide) (by decide))).1.trans b, (he _ _ (h1 44 (by decide) (by decide))).1.trans c, fun k y hy => ?_, f⟩
  have := at_lt hy
  exact (he _ _ (h2 _ (by omega))).2.trans (e k y hy)
theorem RmW.eq {row : List Nat} {al : List Int64} {M M1 : Mm} {on : Ky → Nat → Prop} (h : RmW row al M) (he : EqF on M M1) (h4 : on (40, 0) 19) (h5 : on (40, 0) 17) (ho : ∀ r, 54 ≤ r → r ≤ 55 → ∀ j, on (r, 0) j) : RmW row al M1 := by
  obtain ⟨a, b, c, e, f, g, i⟩ := h
  exact ⟨(he _ _ h4).1.trans a, b.to fun k => (he _ _ (ho 55 (by decide) (by decide) _)).1, c, e, (he _ _ h5).1.trans f, g.to fun k => (he _ _ (ho 54 (by decide) (by decide) _)).2, i⟩
theorem RmK.eq {s : RS} {M M1 : Mm} (h : RmK s M) (he : EqF onMA M M1) : RmK s M1 := by
  obtain ⟨a, b, c, e, f, g, p, q, r, t, nd⟩ := h
  exact ⟨(he _ _ (by simp [onMA])).1.trans a, b.to fun k => (he _ _ (by simp [onMA])).1, (he _ _ (by simp [onMA])).1.trans c, e.to fun k => (he _ _ (by simp [onMA])).1, (he _ _ (by simp [onMA])).1.trans f, g.to fun k => (he _ _ (by simp [onMA])).2, (he _ _ (by simp [onMA])).1.trans p, fun t x hx => (q t x hx).eqM he (fun r h1 h2 => by unfold onMA; simp; omega) (fun j _ => by simp [onMA]), (he _ _ (by simp [onMA])).1.trans r, fun j x hx => (he _ _ (by simp [onMA])).1.trans (t j x hx), nd⟩
theorem RdM.eqA {row : List Nat} {al : List Int64} {s s1 : RS} {M M1 : Mm} (h : RdM row al s M) (he : EqF onMA M M1) (ha : RmA s1 M1) (hb : RdB row s1) (h2 : s1.2.2 = s.2.2) : RdM row al s1 M1 := by
  obtain ⟨n, X, l⟩ := s
  obtain ⟨n1, X1, l1⟩ := s1
  cases h2
  exact ⟨ha, hb, h.2.2.1.eq he, h.2.2.2.1, h.2.2.2.2.eq he (by simp [onMA]) (by simp [onMA]) (fun r h1 h2 j => by unfold onMA; simp; omega)⟩
/-! contracts of the model's reading methods -/
def PQ {β : Type} (on : Ky → Nat → Prop) (Ps : β → RS → Mm → Prop) (val : β → Option Value) (M : Mm) (r : Nat ⊕ (β × RS)) : Option Value → Mm → Prop := fun o M' => ∃ b, o = val b ∧ EqF on M M' ∧ match r with
  | .inr q => b = q.1 ∧ Ps q.1 q.2 M'
  | .inl f => M'.1 (40, 0) 37 = nI f ∧ f ≤ 600
def CQ {β : Type} (G : Gd) (y : Mt) (d : Nat) (av : List Value) (M : Mm) (on : Ky → Nat → Prop) (Ps : β → RS → Mm → Prop) (val : β → Option Value) (r : Nat ⊕ (β × RS)) : Prop := Cq G y d av M (PQ on Ps val M r) 0
def FQ {β : Type} (G : Gd) (y : Mt) (d : Nat) (M0 : Mm) (on : Ky → Nat → Prop) (Ps : β → RS → Mm → Prop) (val : β → Option Value) (r : Nat ⊕ (β × RS)) (pc : Nat) (lv : List (Nat × Value)) (st : List Value) (M : Mm) : Prop := Fr G y d 0 (Zq G (PQ on Ps val M0 r) 0) 0 pc lv st M
theorem nI_bv (x : Int32) : nI x.toBitVec.toNat = x := by
  apply Int32.toBitVec_inj.mp
  show BitVec.ofNat 32 _ = _
  simp
section XQ2
variable {β : Type} {G : Gd} {y : Mt} {d : Nat} {pc n t : Nat} {lv lv' : List (Nat × Value)} {st : List Value} {M M0 : Mm} {on : Ky → Nat → Prop} {Ps : β → RS → Mm → Prop} {val : β → Option Value}
theorem q_of {av : List Value} {r : Nat ⊕ (β × RS)} (hG : Gok G) (ok : okT y) (hp : plainName (yN y).cls = true) (hc : (yN y).cls = cnm (yC y)) (hl : (lg_sl av).length ≤ yL y) (body : FQ G y d M on Ps val r 0 (lv_args 0 av) [] M) : CQ G y d av M on Ps val r := cq_of hG ok hp hc hl body
theorem CQ.onn {av : List Value} {on1 : Ky → Nat → Prop} {r : Nat ⊕ (β × RS)} (h : CQ G y d av M on1 Ps val r) (hw : ∀ k j, on k j → on1 k j) : CQ G y d av M on Ps val r := Cq.mono h fun v M' ⟨b, e, hE, h2⟩ => ⟨b, e, hE.sub hw, h2⟩
theorem CQ.weak {av : List Value} {Q : β → RS → Mm → Prop} {r : Nat ⊕ (β × RS)} (h : CQ G y d av M on Q val r) (hw : ∀ b s M', r = .inr (b, s) → EqF on M M' → Q b s M' → Ps b s M') : CQ G y d av M on Ps val r := Cq.mono h fun v M' ⟨b, e, hE, h2⟩ => ⟨b, e, hE, by
  cases r with
  | inl f => exact h2
  | inr q => exact ⟨h2.1, hw q.1 q.2 M' rfl hE h2.2⟩⟩
theorem q_call {γ : Type} {y2 : Mt} {d2 np idx : Nat} {q : Ky} {ci : Nat} {u : u_T × Nat} {As rest : List Value} {on1 : Ky → Nat → Prop} {Ps1 : γ → RS → Mm → Prop} {val1 : γ → Option Value} {r1 : Nat ⊕ (γ × RS)} {f : γ × RS → Nat ⊕ (β × RS)} (hC : CQ G y2 d2 (.ref (ga G q) :: As) M on1 Ps1 val1 r1) (hS : EqF on M0 M) (hon : ∀ k j, on k j → on1 k j) (hi : tget (yT y) pc = some (.invokevirtual idx, n, t)) (hn : pc + 3 = n) (hl : LkV (yC y) idx y2 np)
    (hs : shp q.1 = some (.inl ci)) (hcl : vwCl[ci]? = some ((yN y2).cls, u)) (hc : q.2 < cnt q.1) (hnp : As.length = np) (hst : st = As.reverse ++ .ref (ga G q) :: rest) (hW : (rest.map fun v => v.category).sum ≤ 8) (hd : d2 + 1 ≤ d)
    (kk : ∀ (b : γ) (s1 : RS) (M1 : Mm), r1 = .inr (b, s1) → Ps1 b s1 M1 → EqF on1 M M1 → EqF on M0 M1 → FQ G y d M0 on Ps val (f (b, s1)) n lv ((val1 b).toList ++ rest) M1)
    (kf : ∀ (e : Nat) (b : γ) (M1 : Mm), r1 = .inl e → M1.1 (40, 0) 37 = nI e → e ≤ 600 → EqF on M0 M1 → FQ G y d M0 on Ps val (.inl e) n lv ((val1 b).toList ++ rest) M1) : FQ G y d M0 on Ps val (rb r1 f) pc lv st M := by
  refine x_callVq (k2 := 0) hC hi hn hl hs hcl hc hnp hst hW hd (Nat.zero_le _) (fun v M2 h => ?_)
  obtain ⟨b, rfl, hE, h2⟩ := h
  cases r1 with
  | inl e => exact kf e b M2 rfl h2.1 h2.2 (hS.tr (hE.sub hon))
  | inr p =>
    obtain ⟨rfl, h3⟩ := h2
    exact kk p.1 p.2 M2 rfl h3 hE (hS.tr (hE.sub hon))
theorem q_retI {Q : Nat → RS → Mm → Prop} {r : Nat ⊕ (Nat × RS)} {b : Nat} {s : RS} (hr : r = .inr (b, s)) (hS : EqF on M0 M) (hP : Q b s M) (hi : tget (yT y) pc = some (.ireturn, n, t)) (hn : pc + 1 = n) (hv : yR y = some .int) : FQ G y d M0 on Q vInt r pc lv [.int (nI b)] M := by
  subst hr
  exact fr_q (x_retI hi hn hv (Nat.le_refl _) rfl rfl) ⟨b, rfl, hS, rfl, hP⟩
theorem q_flI {Q : Nat → RS → Mm → Prop} {r : Nat ⊕ (Nat × RS)} {f : Nat} {x : Int32} (hr : r = .inl f) (hS : EqF on M0 M) (hf : M.1 (40, 0) 37 = nI f) (hle : f ≤ 600) (hi : tget (yT y) pc = some (.ireturn, n, t)) (hn : pc + 1 = n) (hv : yR y = some .int) : FQ G y d M0 on Q vInt r pc lv [.int x] M := by
  subst hr
  exact fr_q (x_retI hi hn hv (Nat.le_refl _) rfl rfl) ⟨x.toBitVec.toNat, by rw [vInt, nI_bv], hS, hf, hle⟩
theorem q_retL {Q : Int64 → RS → Mm → Prop} {r : Nat ⊕ (Int64 × RS)} {b : Int64} {s : RS} (hr : r = .inr (b, s)) (hS : EqF on M0 M) (hP : Q b s M) (hi : tget (yT y) pc = some (.lreturn, n, t)) (hn : pc + 1 = n) (hv : yR y = some .long) : FQ G y d M0 on Q vLng r pc lv [.long b] M := by
  subst hr
  exact fr_q (x_retL hi hn hv (Nat.le_refl _) rfl rfl) ⟨b, rfl, hS, rfl, hP⟩
theorem q_flL {Q : Int64 → RS → Mm → Prop} {r : Nat ⊕ (Int64 × RS)} {f : Nat} {x : Int64} (hr : r = .inl f) (hS : EqF on M0 M) (hf : M.1 (40, 0) 37 = nI f) (hle : f ≤ 600) (hi : tget (yT y) pc = some (.lreturn, n, t)) (hn : pc + 1 = n) (hv : yR y = some .long) : FQ G y d M0 on Q vLng r pc lv [.long x] M := by
  subst hr
  exact fr_q (x_retL hi hn hv (Nat.le_refl _) rfl rfl) ⟨x, rfl, hS, hf, hle⟩
theorem q_retV {r : Nat ⊕ (β × RS)} {b : β} {s : RS} (hr : r = .inr (b, s)) (hS : EqF on M0 M) (hP : Ps b s M) (hi : tget (yT y) pc = some (.return_, n, t)) (hn : pc + 1 = n) (hv : yR y = none) : FQ G y d M0 on Ps vNo r pc lv [] M := by
  subst hr
  exact fr_q (x_retV hi hn hv (Nat.le_refl _) rfl rfl) ⟨b, rfl, hS, rfl, hP⟩
theorem q_flV {r : Nat ⊕ (β × RS)} (b : β) {f : Nat} (hr : r = .inl f) (hS : EqF on M0 M) (hf : M.1 (40, 0) 37 = nI f) (hle : f ≤ 600) (hi : tget (yT y) pc = some (.return_, n, t)) (hn : pc + 1 = n) (hv : yR y = none) : FQ G y d M0 on Ps vNo r pc lv [] M := by
  subst hr
  exact fr_q (x_retV hi hn hv (Nat.le_refl _) rfl rfl) ⟨b, rfl, hS, hf, hle⟩
end XQ2
