/-! SAME: which things are partners, in the order in which they met -/
abbrev QS : Type := List (Nat × Nat)
def rO (q : QS) (l : Nat) : Option Nat := (q.find? (fun p => p.1 == l)).map Prod.snd
def lO (q : QS) (r : Nat) : Option Nat := (q.find? (fun p => p.2 == r)).map Prod.fst
def mT (l r : Nat) (q : QS) : Option QS := if rO q l = none ∧ lO q r = none then some (q ++ [(l, r)]) else if rO q l = some r then some q else none
def mV (A : Ab) (a b : Int64) (q : QS) : Option QS := if ¬ uN a % 16 = uN b % 16 then none else if uN a % 16 = 5 then (if (aW A)[uN (sh4 a)]?.getD 0 = (aW A)[uN (sh4 b)]?.getD 0 then some q else none)
  else if uN a % 16 = 7 then mT (uN (sh4 a)) (uN (sh4 b)) q else if a = b then some q else none
def mAll (A : Ab) : List Int64 → List Int64 → QS → Option QS
  | a :: l, b :: m, q => (mV A a b q).bind (mAll A l m)
  | _, _, q => some q
def mAllL (A : Ab) (l m : List Int64) (q : QS) : Option QS := if l.length = m.length then mAll A l m q else none
def mT2 (A : Ab) (x y : Th) (q : QS) : Option QS := if tK x = tK y ∧ tD x = tD y ∧ trv x = trv y ∧ tY x = tY y then (mAllL A (tL x) (tL y) q).bind (mAllL A (tV x) (tV y)) else none
def mP2 (A : Ab) (p : Nat × Nat) (q : QS) : Option QS := match (aH A)[p.1]?, (aH A)[p.2]? with
  | some x, some y => mT2 A x y q
  | _, _ => none
def mLoop (A : Ab) : Nat → Nat → QS → Bool
  | 0, _, _ => true
  | n + 1, i, q => match q[i]? with
    | none => true
    | some p => match mP2 A p q with
      | some q' => mLoop A n (i + 1) q'
      | none => false
def mTop (A : Ab) (a b : Int64) : Prop := match mV A a b [] with
  | none => False
  | some q => mLoop A 40 0 q = true
def Qok (n : Nat) (q : QS) : Prop := Nd n (q.map Prod.fst) ∧ Nd n (q.map Prod.snd)
theorem fd_none {α : Type} {p : α → Bool} {l : List α} {f : α → Nat} (h : (l.find? p).map f = none) : l.find? p = none := by
  cases hq : l.find? p with
  | none => rfl
  | some x => rw [hq] at h; cases h
theorem rO_new {q : QS} {l r : Nat} (h : rO q l = none) (l' : Nat) : rO (q ++ [(l, r)]) l' = if l' = l then some r else rO q l' := by
  have h1 := fd_none h
  unfold rO
  rw [List.find?_append]
  by_cases e : l' = l
  · subst e
    rw [if_pos rfl, h1]; simp
  · rw [if_neg e]
    cases q.find? (fun p => p.1 == l') with
    | none => simp; omega
    | some x => simp
theorem lO_new {q : QS} {l r : Nat} (h : lO q r = none) (r' : Nat) : lO (q ++ [(l, r)]) r' = if r' = r then some l else lO q r' := by
  have h1 := fd_none h
  unfold lO
  rw [List.find?_append]
  by_cases e : r' = r
  · subst e
    rw [if_pos rfl, h1]; simp
  · rw [if_neg e]
    cases q.find? (fun p => p.2 == r') with
    | none => simp; omega
    | some x => simp
theorem rO_mem {q : QS} {l r : Nat} (h : rO q l = some r) : (l, r) ∈ q := by
  unfold rO at h
  cases hq : q.find? (fun p => p.1 == l) with
  | none => rw [hq] at h; cases h
  | some x =>
    rw [hq] at h
    cases h
    have h1 := List.mem_of_find?_eq_some hq
    have h2 := List.find?_some hq
    have h3 : x.1 = l := by simpa using h2
    rw [← h3]; exact h1
theorem lO_mem {q : QS} {l r : Nat} (h : lO q r = some l) : (l, r) ∈ q := by
  unfold lO at h
  cases hq : q.find? (fun p => p.2 == r) with
  | none => rw [hq] at h; cases h
  | some x =>
    rw [hq] at h
    cases h
    have h1 := List.mem_of_find?_eq_some hq
    have h2 := List.find?_some hq
    have h3 : x.2 = r := by simpa using h2
    rw [← h3]; exact h1
theorem rO_no {q : QS} {l : Nat} (h : rO q l = none) : ¬ l ∈ q.map Prod.fst := fun hm => by
  obtain ⟨p, hp, e⟩ := List.mem_map.mp hm
  have h2 := List.find?_eq_none.mp (fd_none h) p hp
  simp at h2
  exact h2 e
theorem lO_no {q : QS} {r : Nat} (h : lO q r = none) : ¬ r ∈ q.map Prod.snd := fun hm => by
  obtain ⟨p, hp, e⟩ := List.mem_map.mp hm
  have h2 := List.find?_eq_none.mp (fd_none h) p hp
  simp at h2
  exact h2 e
theorem snd_in : ∀ {q : QS} {l l' r : Nat}, (q.map Prod.snd).Nodup → (l, r) ∈ q → (l', r) ∈ q → l = l'
  | [], _, _, _, _, h, _ => by cases h
  | p :: q, l, l', r, hn, h1, h2 => by
    rw [List.map_cons, List.nodup_cons] at hn
    rcases List.mem_cons.mp h1 with e1 | e1
    · rcases List.mem_cons.mp h2 with e2 | e2
      · exact congrArg Prod.fst (e1.trans e2.symm)
      · exact absurd (List.mem_map.mpr ⟨(l', r), e2, rfl⟩) (by rw [← e1] at hn; exact hn.1)
    · rcases List.mem_cons.mp h2 with e2 | e2
      · exact absurd (List.mem_map.mpr ⟨(l, r), e1, rfl⟩) (by rw [← e2] at hn; exact hn.1)
      · exact snd_in hn.2 e1 e2
theorem fst_in : ∀ {q : QS} {l r r' : Nat}, (q.map Prod.fst).Nodup → (l, r) ∈ q → (l, r') ∈ q → r = r'
  | [], _, _, _, _, h, _ => by cases h
  | p :: q, l, r, r', hn, h1, h2 => by
    rw [List.map_cons, List.nodup_cons] at hn
    rcases List.mem_cons.mp h1 with e1 | e1
    · rcases List.mem_cons.mp h2 with e2 | e2
      · exact congrArg Prod.snd (e1.trans e2.symm)
      · exact absurd (List.mem_map.mpr ⟨(l, r'), e2, rfl⟩) (by rw [← e1] at hn; exact hn.1)
    · rcases List.mem_cons.mp h2 with e2 | e2
      · exact absurd (List.mem_map.mpr ⟨(l, r), e1, rfl⟩) (by rw [← e2] at hn; exact hn.1)
      · exact fst_in hn.2 e1 e2
theorem rO_lO {n : Nat} {q : QS} {l r : Nat} (hq : Qok n q) (h : rO q l = some r) : lO q r = some l := by
  have hm := rO_mem h
  cases hl : lO q r with
  | none => exact absurd (List.mem_map.mpr ⟨(l, r), hm, rfl⟩) (lO_no hl)
  | some l' => rw [snd_in hq.2.1 hm (lO_mem hl)]
theorem rO_lt {n : Nat} {q : QS} {l r : Nat} (hq : Qok n q) (h : rO q l = some r) : r < n := hq.2.2 r (List.mem_map.mpr ⟨(l, r), rO_mem h, rfl⟩)
theorem lO_lt {n : Nat} {q : QS} {l r : Nat} (hq : Qok n q) (h : lO q r = some l) : l < n := hq.1.2 l (List.mem_map.mpr ⟨(l, r), lO_mem h, rfl⟩)
theorem rO_of {n : Nat} {q : QS} {p : Nat × Nat} (hq : Qok n q) (h : p ∈ q) : rO q p.1 = some p.2 := by
  cases hr : rO q p.1 with
  | none => exact absurd (List.mem_map.mpr ⟨p, h, rfl⟩) (rO_no hr)
  | some r => rw [fst_in hq.1.1 (rO_mem hr) (show (p.1, p.2) ∈ q from h)]
theorem Qok.push {n l r : Nat} {q : QS} (hq : Qok n q) (hl : l < n) (hr : r < n) (h1 : rO q l = none) (h2 : lO q r = none) : Qok n (q ++ [(l, r)]) := by
  unfold Qok
  rw [List.map_append, List.map_append]
  exact ⟨hq.1.push (rO_no h1) hl, hq.2.push (lO_no h2) hr⟩
theorem ixv_no {o : Option Nat} (h : ∀ p, o = some p → p ≤ 600) : ixv o = -1 ↔ o = none := by
  cases o with
  | none => exact ⟨fun _ => rfl, fun _ => rfl⟩
  | some p => exact ⟨fun z => absurd z (nI_ne1 (h p rfl)), fun z => by cases z⟩
theorem ixv_is {o : Option Nat} {r : Nat} (h : ∀ p, o = some p → p ≤ 600) (hr : r ≤ 600) : ixv o = nI r ↔ o = some r := by
  cases o with
  | none => exact ⟨fun z => absurd z.symm (nI_ne1 hr), fun z => by cases z⟩
  | some p =>
    have := h p rfl
    exact ⟨fun z => by rw [nI_un (by omega) (by omega) z], fun z => by cases z; rfl⟩
def PS (on : Ky → Nat → Prop) (Q : QS → Mm → Prop) (M : Mm) (r : Option QS) : Mm → Prop := fun M' => EqF on M M' ∧ ∀ q, r = some q → Q q M'
def CS (G : Gd) (y : Mt) (d : Nat) (av : List Value) (M : Mm) (on : Ky → Nat → Prop) (Q : QS → Mm → Prop) (r : Option QS) : Prop := Ce G y d av M (.inl (some (.int (bI (r.isSome = true))))) (PS on Q M r) 0
def FS (G : Gd) (y : Mt) (d : Nat) (M0 : Mm) (on : Ky → Nat → Prop) (Q : QS → Mm → Prop) (r : Option QS) (pc : Nat) (lv : List (Nat × Value)) (st : List Value) (M : Mm) : Prop := Fr G y d 0 (Ze G (.inl (some (.int (bI (r.isSome = true))))) (PS on Q M0 r) 0) 0 pc lv st M
section XS
variable {G : Gd} {y : Mt} {d : Nat} {pc n t : Nat} {lv lv' : List (Nat × Value)} {st : List Value} {M M0 : Mm} {on : Ky → Nat → Prop} {Q : QS → Mm → Prop} {r : Option QS}
theorem s_of {av : List Value} (hG : Gok G) (ok : okT y) (hp : plainName (yN y).cls = true) (hc : (yN y).cls = cnm (yC y)) (hl : (lg_sl av).length ≤ yL y) (body : FS G y d M on Q r 0 (lv_args 0 av) [] M) : CS G y d av M on Q r := ce_of hG ok hp hc hl body
theorem s_t {q : QS} (hr : r = some q) (hS : EqF on M0 M) (hQ : Q q M) (hi : tget (yT y) pc = some (.ireturn, n, t)) (hn : pc + 1 = n) (hv : yR y = some .boolean) : FS G y d M0 on Q r pc lv [.int (nI 1)] M := by
  subst hr
  exact fr_e (x_retZ hi hn hv (Or.inr rfl) (Nat.le_refl _) (by rw [bI_t (P := (some q).isSome = true) rfl]) rfl) ⟨hS, fun q' h => by cases h; exact hQ⟩
theorem s_f (hr : r = none) (hS : EqF on M0 M) (hi : tget (yT y) pc = some (.ireturn, n, t)) (hn : pc + 1 = n) (hv : yR y = some .boolean) : FS G y d M0 on Q r pc lv [.int (nI 0)] M := by
  subst hr
  exact fr_e (x_retZ hi hn hv (Or.inl rfl) (Nat.le_refl _) (by rw [bI_f (by simp)]) rfl) ⟨hS, fun q' h => by cases h⟩
theorem s_call {y2 : Mt} {d2 np idx : Nat} {k : Ky} {ci : Nat} {u : u_T × Nat} {As rest : List Value} {r1 : Option QS} {f : QS → Option QS} (hC : CS G y2 d2 (.ref (ga G k) :: As) M on Q r1) (hS : EqF on M0 M) (hi : tget (yT y) pc = some (.invokevirtual idx, n, t)) (hn : pc + 3 = n) (hl : LkV (yC y) idx y2 np)
    (hs : shp k.1 = some (.inl ci)) (hcl : vwCl[ci]? = some ((yN y2).cls, u)) (hc : k.2 < cnt k.1) (hnp : As.length = np) (hst : st = As.reverse ++ .ref (ga G k) :: rest) (hW : (rest.map fun v => v.category).sum ≤ 8) (hd : d2 + 1 ≤ d)
    (kk : ∀ (q1 : QS) (M1 : Mm), r1 = some q1 → Q q1 M1 → EqF on M M1 → EqF on M0 M1 → FS G y d M0 on Q (f q1) n lv (.int (nI 1) :: rest) M1)
    (kf : ∀ (M1 : Mm), r1 = none → EqF on M M1 → EqF on M0 M1 → FS G y d M0 on Q none n lv (.int (nI 0) :: rest) M1) : FS G y d M0 on Q (r1.bind f) pc lv st M := by
  refine x_callVe (k2 := 0) hC hi hn hl hs hcl hc hnp hst hW hd (Nat.zero_le _) (fun M2 h => ?_)
  cases r1 with
  | none =>
    exact x_eq (kf M2 rfl h.1 (hS.tr h.1)) rfl (by rw [show bI ((none : Option QS).isSome = true) = nI 0 from bI_f (by simp)]; rfl) rfl
  | some q1 =>
    exact x_eq (kk q1 M2 rfl (h.2 q1 rfl) h.1 (hS.tr h.1)) rfl (by rw [show bI ((some q1 : Option QS).isSome = true) = nI 1 from bI_t rfl]; rfl) rfl
end XS
/-- partners, as the class and the model hold them -/
def QX (kc : Ky) (jc : Nat) (kq kr kl : Ky) (n : Nat) (q : QS) (M : Mm) : Prop := M.1 kc jc = nI q.length ∧ LN (M.1 kq) (q.map Prod.fst) ∧ (∀ l, l < 40 → M.1 kr l = ixv (rO q l)) ∧ (∀ r, r < 40 → M.1 kl r = ixv (lO q r)) ∧ Qok n q
theorem QX.len {kc kq kr kl : Ky} {jc n : Nat} {q : QS} {M : Mm} (h : QX kc jc kq kr kl n q M) : q.length ≤ n := by
  have := h.2.2.2.2.1.len
  rwa [List.length_map] at this
theorem bs2 (r : Option QS) : r.bind some = r := by cases r <;> rfl
theorem mAllL_nil {A : Ab} {m : List Int64} {q : QS} : mAll A [] m q = some q := by cases m <;> rfl
def onQc (k : Ky) (_ : Nat) : Prop := ¬ (34 ≤ k.1 ∧ k.1 ≤ 37)
theorem QC_push {n l r : Nat} {q : QS} {M : Mm} (hn : n ≤ 40) (h : QX (34, 0) 4 (37, 0) (35, 0) (36, 0) n q M) (hl : l < n) (hr : r < n) (h1 : rO q l = none) (h2 : lO q r = none) : QX (34, 0) 4 (37, 0) (35, 0) (36, 0) n (q ++ [(l, r)]) (ui (ui (ui (ui M (35, 0) l (nI r)) (36, 0) r (nI l)) (37, 0) q.length (nI l)) (34, 0) 4 (nI (q.length + 1))) := by
  obtain ⟨a, b, c, e, f⟩ := h
  refine ⟨by simp [ui], ?_, fun l' hl' => ?_, fun r' hr' => ?_, f.push hl hr h1 h2⟩
  · rw [List.map_append]
    exact b.push (fun k hk => by rw [List.length_map] at hk; have hne : k ≠ q.length := Nat.ne_of_lt hk; simp [ui, hne]) (by simp [ui])
  · rw [rO_new h1]
    by_cases e9 : l' = l
    · rw [if_pos e9, e9]; simp [ui, ixv]
    · rw [if_neg e9, ← c l' hl']; simp [ui, e9]
  · rw [lO_new h2]
    by_cases e9 : r' = r
    · rw [if_pos e9, e9]; simp [ui, ixv]
    · rw [if_neg e9, ← e r' hr']; simp [ui, e9]
theorem Cn.eqQ {A : Ab} {M M1 : Mm} (h : Cn A M) (he : EqF onQc M M1) : Cn A M1 := h.eqn (on := fun r => ¬ (34 ≤ r ∧ r ≤ 37)) (fun k hk j => he k j hk) (fun r h1 h2 => by omega)
section S1
variable {G : Gd} {d : Nat} {M : Mm} {A : Ab}
set_option maxHeartbeats 4000000 in
set_option maxRecDepth 20000 in
theorem c_partners (hG : Gok G) (hC0 : Cn A M) {q0 : QS} (hQ0 : (QX (34, 0) 4 (37, 0) (35, 0) (36, 0) (aH A).length) q0 M) {l r : Nat} (hl : l < (aH A).length) (hr : r < (aH A).length) : CS G mX1_becomePartners d [.ref (ga G (34, 0)), .int (nI l), .int (nI r)] M onQc (QX (34, 0) 4 (37, 0) (35, 0) (36, 0) (aH A).length) (mT l r q0) := by
  have hS0 : EqF onQc M M := EqF.rf
  have hn40 := hC0.n40
  have hql := hQ0.len
  refine s_of hG okX1_becomePartners (by decide +kernel) rfl (Nat.le_of_ble_eq_true rfl) ?_
  refine x_aload_n rfl rfl rfl ?_
  refine x_getR0 rfl rfl f_1_9 rfl (by decide) rfl rfl ?_
  refine x_iload_n rfl rfl rfl ?_
  refine x_ialdv (a := l) (v := ixv (rO q0 l)) (hQ0.2.2.1 l (by omega)) rfl rfl rfl (by decide) (by omega) (by decide) ?_
  refine x_iconst (v := -1) rfl rfl (by decide +kernel) ?_
  refine x_icmp_ne rfl rfl (fun hc1 => ?_) (fun hc1 => ?_)
  · have hno : ¬ (rO q0 l = none ∧ lO q0 r = none) := fun z => hc1 ((ixv_no (fun p h => by have := rO_lt hQ0.2.2.2.2 h; omega)).mpr z.1)
    refine x_aload_n rfl rfl rfl ?_
    refine x_getR0 rfl rfl f_1_9 rfl (by decide) rfl rfl ?_
    refine x_iload_n rfl rfl rfl ?_
    refine x_ialdv (a := l) (v := ixv (rO q0 l)) (hQ0.2.2.1 l (by omega)) rfl rfl rfl (by decide) (by omega) (by decide) ?_
    refine x_iload_n rfl rfl rfl ?_
    refine x_icmp_ne rfl rfl (fun hc2 => ?_) (fun hc2 => ?_)
    · refine x_iconstN (b := 0) rfl rfl ?_
      exact s_f (by unfold mT; rw [if_neg hno, if_neg (fun z => hc2 ((ixv_is (fun p h => by have := rO_lt hQ0.2.2.2.2 h; omega) (by omega)).mpr z))]) hS0 rfl rfl rfl
    · refine x_iconstN (b := 1) rfl rfl ?_
      refine x_goto rfl rfl ?_
      exact s_t (by unfold mT; rw [if_neg hno, if_pos ((ixv_is (fun p h => by have := rO_lt hQ0.2.2.2.2 h; omega) (by omega)).mp hc2)]) hS0 hQ0 rfl rfl rfl
  · refine x_aload_n rfl rfl rfl ?_
    refine x_getR0 rfl rfl f_1_15 rfl (by decide) rfl rfl ?_
    refine x_iload_n rfl rfl rfl ?_
    refine x_ialdv (a := r) (v := ixv (lO q0 r)) (hQ0.2.2.2.1 r (by omega)) rfl rfl rfl (by decide) (by omega) (by decide) ?_
    refine x_iconst (v := -1) rfl rfl (by decide +kernel) ?_
    refine x_icmp_ne rfl rfl (fun hc3 => ?_) (fun hc3 => ?_)
    · have hno : ¬ (rO q0 l = none ∧ lO q0 r = none) := fun z => hc3 ((ixv_no (fun p h => by have := lO_lt hQ0.2.2.2.2 h; omega)).mpr z.2)
      refine x_aload_n rfl rfl rfl ?_
      refine x_getR0 rfl rfl f_1_9 rfl (by decide) rfl rfl ?_
      refine x_iload_n rfl rfl rfl ?_
      refine x_ialdv (a := l) (v := ixv (rO q0 l)) (hQ0.2.2.1 l (by omega)) rfl rfl rfl (by decide) (by omega) (by decide) ?_
      refine x_iload_n rfl rfl rfl ?_
      refine x_icmp_ne rfl rfl (fun hc4 => ?_) (fun hc4 => ?_)
      · refine x_iconstN (b := 0) rfl rfl ?_
        exact s_f (by unfold mT; rw [if_neg hno, if_neg (fun z => hc4 ((ixv_is (fun p h => by have := rO_lt hQ0.2.2.2.2 h; omega) (by omega)).mpr z))]) hS0 rfl rfl rfl
      · refine x_iconstN (b := 1) rfl rfl ?_
        refine x_goto rfl rfl ?_
        exact s_t (by unfold mT; rw [if_neg hno, if_pos ((ixv_is (fun p h => by have := rO_lt hQ0.2.2.2.2 h; omega) (by omega)).mp hc4)]) hS0 hQ0 rfl rfl rfl
    · have h1 := (ixv_no (fun p h => by have := rO_lt hQ0.2.2.2.2 h; omega)).mp hc1
      have h2 := (ixv_no (fun p h => by have := lO_lt hQ0.2.2.2.2 h; omega)).mp hc3
      have hqn := (hQ0.2.2.2.2.1.push (rO_no h1) hl).len
      rw [List.length_append, List.length_map] at hqn
      simp at hqn
      refine x_aload_n rfl rfl rfl ?_
      refine x_getR0 rfl rfl f_1_9 rfl (by decide) rfl rfl ?_
      refine x_iload_n rfl rfl rfl ?_
      refine x_iload_n rfl rfl rfl ?_
      refine x_iast (a := l) rfl rfl rfl (by decide) (by omega) (by decide) ?_
      refine x_aload_n rfl rfl rfl ?_
      refine x_getR0 rfl rfl f_1_15 rfl (by decide) rfl rfl ?_
      refine x_iload_n rfl rfl rfl ?_
      refine x_iload_n rfl rfl rfl ?_
      refine x_iast (a := r) rfl rfl rfl (by decide) (by omega) (by decide) ?_
      refine x_aload_n rfl rfl rfl ?_
      refine x_getR0 rfl rfl f_1_18 rfl (by decide) rfl rfl ?_
      refine x_aload_n rfl rfl rfl ?_
      refine x_getIv (v := nI (q0.length)) (by first | exact hQ0.1 | (rw [← hQ0.1]; rfl) | simp [ui, ul, hQ0.1]) rfl rfl f_1_31 rfl (by decide) rfl ?_
      refine x_iload_n rfl rfl rfl ?_
      refine x_iast (a := q0.length) rfl rfl rfl (by decide) (by omega) (by decide) ?_
      refine x_aload_n rfl rfl rfl ?_
      refine x_dup rfl rfl rfl ?_
      refine x_getIv (v := nI (q0.length)) (by first | exact hQ0.1 | (rw [← hQ0.1]; rfl) | simp [ui, ul, hQ0.1]) rfl rfl f_1_31 rfl (by decide) rfl ?_
      refine x_iconstN (b := 1) rfl rfl ?_
      refine x_iaddN (a := q0.length) (b := 1) rfl rfl ?_
      refine x_putI rfl rfl f_1_31 rfl rfl (by decide) rfl ?_
      refine x_iconstN (b := 1) rfl rfl ?_
      exact s_t (by unfold mT; rw [if_pos ⟨h1, h2⟩]) ((((hS0.ui (by simp [onQc])).ui (by simp [onQc])).ui (by simp [onQc])).ui (by simp [onQc])) (QC_push hn40 hQ0 hl hr h1 h2) rfl rfl rfl
set_option maxHeartbeats 4000000 in
set_option maxRecDepth 20000 in
theorem c_meet (hG : Gok G) (hC0 : Cn A M) {q0 : QS} (hQ0 : (QX (34, 0) 4 (37, 0) (35, 0) (36, 0) (aH A).length) q0 M) (hd : 1 ≤ d) {a b : Int64} (ha : vOK A a) (hb : vOK A b) : CS G mX1_meet d [.ref (ga G (34, 0)), .long (a), .long (b)] M onQc (QX (34, 0) 4 (37, 0) (35, 0) (36, 0) (aH A).length) (mV A a b q0) := by
  have hS0 : EqF onQc M M := EqF.rf
  have hn40 := hC0.n40
  have hql := hQ0.len
  refine s_of hG okX1_meet (by decide +kernel) rfl (Nat.le_of_ble_eq_true rfl) ?_
  refine x_lload_n rfl rfl rfl ?_
  refine x_callSi (d2 := 0) (c_kindOf hG (a)) rfl rfl s_1_49 rfl rfl (Nat.le_of_ble_eq_true rfl) (by omega) (by omega) ?_
  refine x_topI (v := nI (uN a % 16)) (by rw [kd_eq]) ?_
  refine x_istore rfl rfl rfl rfl ?_
  refine x_iload rfl rfl rfl ?_
  refine x_lload_n rfl rfl rfl ?_
  refine x_callSi (d2 := 0) (c_kindOf hG (b)) rfl rfl s_1_49 rfl rfl (Nat.le_of_ble_eq_true rfl) (by omega) (by omega) ?_
  refine x_topI (v := nI (uN b % 16)) (by rw [kd_eq]) ?_
  refine x_icmpN_eq (by omega) (by omega) rfl rfl (fun hc1 => ?_) (fun hc1 => ?_)
  · refine x_iload rfl rfl rfl ?_
    refine x_iconstN (b := 5) rfl rfl ?_
    refine x_icmpN_ne (by omega) (by omega) rfl rfl (fun hc2 => ?_) (fun hc2 => ?_)
    · refine x_iload rfl rfl rfl ?_
      refine x_bipush (v := nI 7) rfl rfl (by decide +kernel) ?_
      refine x_icmpN_ne (by omega) (by omega) rfl rfl (fun hc3 => ?_) (fun hc3 => ?_)
      · refine x_lload_n rfl rfl rfl ?_
        refine x_lload_n rfl rfl rfl ?_
        refine x_lc_ne rfl rfl rfl rfl (fun hc4 => ?_) (fun hc4 => ?_)
        · refine x_iconstN (b := 0) rfl rfl ?_
          exact s_f (by unfold mV; rw [if_neg (fun z => z hc1), if_neg hc2, if_neg hc3, if_neg hc4]) hS0 rfl rfl rfl
        · refine x_iconstN (b := 1) rfl rfl ?_
          refine x_goto rfl rfl ?_
          exact s_t (by unfold mV; rw [if_neg (fun z => z hc1), if_neg hc2, if_neg hc3, if_pos hc4]) hS0 hQ0 rfl rfl rfl
      · have ha7 := (isV_7 hc3).mp ha
        have hb7 := (isV_7 (hc1.symm.trans hc3)).mp hb
        have ua := uN_in hn40 ha7.1 ha7.2
        have ub := uN_in hn40 hb7.1 hb7.2
        refine x_aload_n rfl rfl rfl ?_
        refine x_lload_n rfl rfl rfl ?_
        refine x_callSl (d2 := 0) (c_aboveKind hG (a)) rfl rfl s_1_57 rfl rfl (Nat.le_of_ble_eq_true rfl) (by omega) (by omega) ?_
        refine x_topL (v := sh4 a) rfl ?_
        refine x_l2i rfl rfl ?_
        refine x_topI (v := nI (uN (sh4 a))) (l2i_small (by omega)) ?_
        refine x_lload_n rfl rfl rfl ?_
        refine x_callSl (d2 := 0) (c_aboveKind hG (b)) rfl rfl s_1_57 rfl rfl (Nat.le_of_ble_eq_true rfl) (by omega) (by omega) ?_
        refine x_topL (v := sh4 b) rfl ?_
        refine x_l2i rfl rfl ?_
        refine x_topI (v := nI (uN (sh4 b))) (l2i_small (by omega)) ?_
        rw [show mV A a b q0 = (mT (uN (sh4 a)) (uN (sh4 b)) q0).bind some by rw [bs2]; unfold mV; rw [if_neg (fun z => z hc1), if_neg hc2, if_pos hc3]]
        refine s_call (d2 := 0) (c_partners hG hC0 hQ0 ua ub) hS0 rfl rfl v_1_61 rfl rfl (by decide) rfl rfl (Nat.le_of_ble_eq_true rfl) (by omega) (fun q1 M1 e1 hQ1 hE1 hS1 => ?_) (fun M1 e1 hE1 hS1 => ?_)
        · exact s_t rfl hS1 hQ1 rfl rfl rfl
        · exact s_f rfl hS1 rfl rfl rfl
    · have ha5 := (isV_5 hc2).mp ha
      have hb5 := (isV_5 (hc1.symm.trans hc2)).mp hb
      have ua := uN_in hC0.nW ha5.1 ha5.2
      have ub := uN_in hC0.nW hb5.1 hb5.2
      have hnW := hC0.nW
      refine x_aload_n rfl rfl rfl ?_
      refine x_getR0 rfl rfl f_1_21 rfl (by decide) rfl rfl ?_
      refine x_getR0 rfl rfl f_1_53 rfl (by decide) rfl rfl ?_
      refine x_lload_n rfl rfl rfl ?_
      refine x_callSl (d2 := 0) (c_aboveKind hG (a)) rfl rfl s_1_57 rfl rfl (Nat.le_of_ble_eq_true rfl) (by omega) (by omega) ?_
      refine x_topL (v := sh4 a) rfl ?_
      refine x_l2i rfl rfl ?_
      refine x_topI (v := nI (uN (sh4 a))) (l2i_small (by omega)) ?_
      refine x_laldv (a := uN (sh4 a)) (v := ((aW A)[uN (sh4 a)]?.getD 0)) (hC0.1.at (by omega)) rfl rfl rfl (by decide) (by omega) (by decide) ?_
      refine x_aload_n rfl rfl rfl ?_
      refine x_getR0 rfl rfl f_1_21 rfl (by decide) rfl rfl ?_
      refine x_getR0 rfl rfl f_1_53 rfl (by decide) rfl rfl ?_
      refine x_lload_n rfl rfl rfl ?_
      refine x_callSl (d2 := 0) (c_aboveKind hG (b)) rfl rfl s_1_57 rfl rfl (Nat.le_of_ble_eq_true rfl) (by omega) (by omega) ?_
      refine x_topL (v := sh4 b) rfl ?_
      refine x_l2i rfl rfl ?_
      refine x_topI (v := nI (uN (sh4 b))) (l2i_small (by omega)) ?_
      refine x_laldv (a := uN (sh4 b)) (v := ((aW A)[uN (sh4 b)]?.getD 0)) (hC0.1.at (by omega)) rfl rfl rfl (by decide) (by omega) (by decide) ?_
      refine x_lc_ne rfl rfl rfl rfl (fun hc5 => ?_) (fun hc5 => ?_)
      · refine x_iconstN (b := 0) rfl rfl ?_
        exact s_f (by unfold mV; rw [if_neg (fun z => z hc1), if_pos hc2, if_neg hc5]) hS0 rfl rfl rfl
      · refine x_iconstN (b := 1) rfl rfl ?_
        refine x_goto rfl rfl ?_
        exact s_t (by unfold mV; rw [if_neg (fun z => z hc1), if_pos hc2, if_pos hc5]) hS0 hQ0 rfl rfl rfl
  · refine x_iconstN (b := 0) rfl rfl ?_
    exact s_f (by unfold mV; rw [if_pos hc1]) hS0 rfl rfl rfl
set_option maxHeartbeats 4000000 in
theorem l_ma9 (hG : Gok G) (hd : 2 ≤ d) {i j : Nat} {x y : Th} (hx : (aH A)[i]? = some x) (hy : (aH A)[j]? = some y) (hvx : ∀ v ∈ tL x, vOK A v) (hvy : ∀ v ∈ tL y, vOK A v) (hlen : (tL x).length = (tL y).length) {M9 : Mm} : ∀ (n k : Nat), k + n = (tL x).length → ∀ (q0 : QS) (M : Mm), Cn A M → (QX (34, 0) 4 (37, 0) (35, 0) (36, 0) (aH A).length) q0 M → EqF onQc M9 M → FS G mX1_meetAll d M9 onQc (QX (34, 0) 4 (37, 0) (35, 0) (36, 0) (aH A).length) (mAll A ((tL x).drop k) ((tL y).drop k) q0) 15 [(0, .ref (ga G (34, 0))), (1, .ref (ga G (9, i))), (2, .ref (ga G (9, j))), (3, .int (nI k))] [] M := by
  intro n
  induction n with
  | zero =>
    intro k hk q0 M hC0 hQ0 hS0
    have hn40 := hC0.n40
    have hx0 := hC0.2.2.1 i x hx
    have hy0 := hC0.2.2.1 j y hy
    have hil := at_lt hx
    have hjl := at_lt hy
    have hx8 : (tL x).length ≤ 8 := hx0.2.2.2.2.2.2.1
    have hy8 : (tL y).length ≤ 8 := hy0.2.2.2.2.2.2.1
    refine x_iload_n rfl rfl rfl ?_
    refine x_aload_n rfl rfl rfl ?_
    refine x_getIv (v := nI ((tL x).length)) hx0.2.2.2.1.1 rfl rfl f_1_97 rfl (by show _ < 40; omega) rfl ?_
    refine x_icmpN_ge (by omega) (by omega) rfl rfl (fun hc1 => ?_) (fun hc1 => absurd hc1 (by omega))
    refine x_iconstN (b := 1) rfl rfl ?_
    exact s_t (by rw [List.drop_eq_nil_of_le (show (tL x).length ≤ k by omega), mAllL_nil]) hS0 hQ0 rfl rfl rfl
  | succ n ih =>
    intro k hk q0 M hC0 hQ0 hS0
    have hn40 := hC0.n40
    have hx0 := hC0.2.2.1 i x hx
    have hy0 := hC0.2.2.1 j y hy
    have hil := at_lt hx
    have hjl := at_lt hy
    have hx8 : (tL x).length ≤ 8 := hx0.2.2.2.2.2.2.1
    have hy8 : (tL y).length ≤ 8 := hy0.2.2.2.2.2.2.1
    rw [drop_cons (show k < (tL x).length by omega), drop_cons (show k < (tL y).length by omega), show mAll A ((tL x)[k]?.getD 0 :: (tL x).drop (k + 1)) ((tL y)[k]?.getD 0 :: (tL y).drop (k + 1)) q0 = (mV A ((tL x)[k]?.getD 0) ((tL y)[k]?.getD 0) q0).bind (mAll A ((tL x).drop (k + 1)) ((tL y).drop (k + 1))) from rfl]
    refine x_iload_n rfl rfl rfl ?_
    refine x_aload_n rfl rfl rfl ?_
    refine x_getIv (v := nI ((tL x).length)) hx0.2.2.2.1.1 rfl rfl f_1_97 rfl (by show _ < 40; omega) rfl ?_
    refine x_icmpN_ge (by omega) (by omega) rfl rfl (fun hc1 => absurd hc1 (by omega)) (fun hc1 => ?_)
    refine x_aload_n rfl rfl rfl ?_
    refine x_aload_n rfl rfl rfl ?_
    refine x_iload_n rfl rfl rfl ?_
    refine x_callVl (d2 := 0) (c_LL_at (len := (tL x).length) hG (lk_9 (by omega)) k hx0.2.2.2.1.1 (by omega) (by omega)) rfl rfl v_1_100 rfl rfl (by show _ < 40; omega) rfl rfl (Nat.le_of_ble_eq_true rfl) (by omega) (by omega) ?_
    refine x_topL (v := (tL x)[k]?.getD 0) (hx0.2.2.2.1.2.at (by omega)) ?_
    refine x_aload_n rfl rfl rfl ?_
    refine x_iload_n rfl rfl rfl ?_
    refine x_callVl (d2 := 0) (c_LL_at (len := (tL y).length) hG (lk_9 (by omega)) k hy0.2.2.2.1.1 (by omega) (by omega)) rfl rfl v_1_100 rfl rfl (by show _ < 40; omega) rfl rfl (Nat.le_of_ble_eq_true rfl) (by omega) (by omega) ?_
    refine x_topL (v := (tL y)[k]?.getD 0) (hy0.2.2.2.1.2.at (by omega)) ?_
    refine s_call (d2 := 1) (c_meet hG hC0 hQ0 (Nat.le_refl 1) (hvx _ (getD_mem (by omega))) (hvy _ (getD_mem (by omega)))) hS0 rfl rfl v_1_35 rfl rfl (by decide) rfl rfl (Nat.le_of_ble_eq_true rfl) (by omega) (fun q1 M1 e1 hQ1 hE1 hS1 => ?_) (fun M1 e1 hE1 hS1 => ?_)
    · refine x_if_ne rfl rfl (fun _ => ?_) (fun hc2 => absurd hc2 (by decide +kernel))
      refine x_iincN (a := k) (b := 1) rfl rfl rfl rfl rfl ?_
      refine x_goto rfl rfl ?_
      exact ih (k + 1) (by omega) q1 M1 (hC0.eqQ hE1) hQ1 hS1
    · refine x_if_ne rfl rfl (fun hc3 => absurd hc3 (by decide +kernel)) (fun _ => ?_)
      refine x_iconstN (b := 0) rfl rfl ?_
      exact s_f rfl hS1 rfl rfl rfl
set_option maxHeartbeats 4000000 in
set_option maxRecDepth 20000 in
theorem c_meetAll9 (hG : Gok G) (hC0 : Cn A M) {q0 : QS} (hQ0 : (QX (34, 0) 4 (37, 0) (35, 0) (36, 0) (aH A).length) q0 M) (hd : 2 ≤ d) {i j : Nat} {x y : Th} (hx : (aH A)[i]? = some x) (hy : (aH A)[j]? = some y) (hvx : ∀ v ∈ tL x, vOK A v) (hvy : ∀ v ∈ tL y, vOK A v) : CS G mX1_meetAll d [.ref (ga G (34, 0)), .ref (ga G (9, i)), .ref (ga G (9, j))] M onQc (QX (34, 0) 4 (37, 0) (35, 0) (36, 0) (aH A).length) (mAllL A (tL x) (tL y) q0) := by
  have hS0 : EqF onQc M M := EqF.rf
  have hn40 := hC0.n40
  have hql := hQ0.len
  have hx0 := hC0.2.2.1 i x hx
  have hy0 := hC0.2.2.1 j y hy
  have hil := at_lt hx
  have hjl := at_lt hy
  have hx8 : (tL x).length ≤ 8 := hx0.2.2.2.2.2.2.1
  have hy8 : (tL y).length ≤ 8 := hy0.2.2.2.2.2.2.1
  refine s_of hG okX1_meetAll (by decide +kernel) rfl (Nat.le_of_ble_eq_true rfl) ?_
  refine x_aload_n rfl rfl rfl ?_
  refine x_getIv (v := nI ((tL x).length)) hx0.2.2.2.1.1 rfl rfl f_1_97 rfl (by show _ < 40; omega) rfl ?_
  refine x_aload_n rfl rfl rfl ?_
  refine x_getIv (v := nI ((tL y).length)) hy0.2.2.2.1.1 rfl rfl f_1_97 rfl (by show _ < 40; omega) rfl ?_
  refine x_icmpN_eq (by omega) (by omega) rfl rfl (fun hc1 => ?_) (fun hc1 => ?_)
  · refine x_iconstN (b := 0) rfl rfl ?_
    refine x_istore_n rfl rfl rfl rfl ?_
    rw [show mAllL A (tL x) (tL y) q0 = mAll A ((tL x).drop 0) ((tL y).drop 0) q0 from if_pos hc1]
    exact l_ma9 hG hd hx hy hvx hvy hc1 _ 0 (Nat.zero_add _) q0 M hC0 hQ0 hS0
  · refine x_iconstN (b := 0) rfl rfl ?_
    exact s_f (if_neg hc1) hS0 rfl rfl rfl
set_option maxHeartbeats 4000000 in
theorem l_ma13 (hG : Gok G) (hd : 2 ≤ d) {i j : Nat} {x y : Th} (hx : (aH A)[i]? = some x) (hy : (aH A)[j]? = some y) (hvx : ∀ v ∈ tV x, vOK A v) (hvy : ∀ v ∈ tV y, vOK A v) (hlen : (tV x).length = (tV y).length) {M9 : Mm} : ∀ (n k : Nat), k + n = (tV x).length → ∀ (q0 : QS) (M : Mm), Cn A M → (QX (34, 0) 4 (37, 0) (35, 0) (36, 0) (aH A).length) q0 M → EqF onQc M9 M → FS G mX1_meetAll d M9 onQc (QX (34, 0) 4 (37, 0) (35, 0) (36, 0) (aH A).length) (mAll A ((tV x).drop k) ((tV y).drop k) q0) 15 [(0, .ref (ga G (34, 0))), (1, .ref (ga G (13, i))), (2, .ref (ga G (13, j))), (3, .int (nI k))] [] M := by
  intro n
  induction n with
  | zero =>
    intro k hk q0 M hC0 hQ0 hS0
    have hn40 := hC0.n40
    have hx0 := hC0.2.2.1 i x hx
    have hy0 := hC0.2.2.1 j y hy
    have hil := at_lt hx
    have hjl := at_lt hy
    have hx8 : (tV x).length ≤ 6 := by have := hx0.2.2.2.2.2.2.2.1; have := hx0.2.2.2.2.2.2.2.2.1; omega
    have hy8 : (tV y).length ≤ 6 := by have := hy0.2.2.2.2.2.2.2.1; have := hy0.2.2.2.2.2.2.2.2.1; omega
    refine x_iload_n rfl rfl rfl ?_
    refine x_aload_n rfl rfl rfl ?_
    refine x_getIv (v := nI ((tV x).length)) hx0.2.2.2.2.2.1.1 rfl rfl f_1_97 rfl (by show _ < 40; omega) rfl ?_
    refine x_icmpN_ge (by omega) (by omega) rfl rfl (fun hc1 => ?_) (fun hc1 => absurd hc1 (by omega))
    refine x_iconstN (b := 1) rfl rfl ?_
    exact s_t (by rw [List.drop_eq_nil_of_le (show (tV x).length ≤ k by omega), mAllL_nil]) hS0 hQ0 rfl rfl rfl
  | succ n ih =>
    intro k hk q0 M hC0 hQ0 hS0
    have hn40 := hC0.n40
    have hx0 := hC0.2.2.1 i x hx
    have hy0 := hC0.2.2.1 j y hy
    have hil := at_lt hx
    have hjl := at_lt hy
    have hx8 : (tV x).length ≤ 6 := by have := hx0.2.2.2.2.2.2.2.1; have := hx0.2.2.2.2.2.2.2.2.1; omega
    have hy8 : (tV y).length ≤ 6 := by have := hy0.2.2.2.2.2.2.2.1; have := hy0.2.2.2.2.2.2.2.2.1; omega
    rw [drop_cons (show k < (tV x).length by omega), drop_cons (show k < (tV y).length by omega), show mAll A ((tV x)[k]?.getD 0 :: (tV x).drop (k + 1)) ((tV y)[k]?.getD 0 :: (tV y).drop (k + 1)) q0 = (mV A ((tV x)[k]?.getD 0) ((tV y)[k]?.getD 0) q0).bind (mAll A ((tV x).drop (k + 1)) ((tV y).drop (k + 1))) from rfl]
    refine x_iload_n rfl rfl rfl ?_
    refine x_aload_n rfl rfl rfl ?_
    refine x_getIv (v := nI ((tV x).length)) hx0.2.2.2.2.2.1.1 rfl rfl f_1_97 rfl (by show _ < 40; omega) rfl ?_
    refine x_icmpN_ge (by omega) (by omega) rfl rfl (fun hc1 => absurd hc1 (by omega)) (fun hc1 => ?_)
    refine x_aload_n rfl rfl rfl ?_
    refine x_aload_n rfl rfl rfl ?_
    refine x_iload_n rfl rfl rfl ?_
    refine x_callVl (d2 := 0) (c_LL_at (len := (tV x).length) hG (lk_13 (by omega)) k hx0.2.2.2.2.2.1.1 (by omega) (by omega)) rfl rfl v_1_100 rfl rfl (by show _ < 40; omega) rfl rfl (Nat.le_of_ble_eq_true rfl) (by omega) (by omega) ?_
    refine x_topL (v := (tV x)[k]?.getD 0) (hx0.2.2.2.2.2.1.2.at (by omega)) ?_
    refine x_aload_n rfl rfl rfl ?_
    refine x_iload_n rfl rfl rfl ?_
    refine x_callVl (d2 := 0) (c_LL_at (len := (tV y).length) hG (lk_13 (by omega)) k hy0.2.2.2.2.2.1.1 (by omega) (by omega)) rfl rfl v_1_100 rfl rfl (by show _ < 40; omega) rfl rfl (Nat.le_of_ble_eq_true rfl) (by omega) (by omega) ?_
    refine x_topL (v := (tV y)[k]?.getD 0) (hy0.2.2.2.2.2.1.2.at (by omega)) ?_
    refine s_call (d2 := 1) (c_meet hG hC0 hQ0 (Nat.le_refl 1) (hvx _ (getD_mem (by omega))) (hvy _ (getD_mem (by omega)))) hS0 rfl rfl v_1_35 rfl rfl (by decide) rfl rfl (Nat.le_of_ble_eq_true rfl) (by omega) (fun q1 M1 e1 hQ1 hE1 hS1 => ?_) (fun M1 e1 hE1 hS1 => ?_)
    · refine x_if_ne rfl rfl (fun _ => ?_) (fun hc2 => absurd hc2 (by decide +kernel))
      refine x_iincN (a := k) (b := 1) rfl rfl rfl rfl rfl ?_
      refine x_goto rfl rfl ?_
      exact ih (k + 1) (by omega) q1 M1 (hC0.eqQ hE1) hQ1 hS1
    · refine x_if_ne rfl rfl (fun hc3 => absurd hc3 (by decide +kernel)) (fun _ => ?_)
      refine x_iconstN (b := 0) rfl rfl ?_
      exact s_f rfl hS1 rfl rfl rfl
set_option maxHeartbeats 4000000 in
set_option maxRecDepth 20000 in
theorem c_meetAll13 (hG : Gok G) (hC0 : Cn A M) {q0 : QS} (hQ0 : (QX (34, 0) 4 (37, 0) (35, 0) (36, 0) (aH A).length) q0 M) (hd : 2 ≤ d) {i j : Nat} {x y : Th} (hx : (aH A)[i]? = some x) (hy : (aH A)[j]? = some y) (hvx : ∀ v ∈ tV x, vOK A v) (hvy : ∀ v ∈ tV y, vOK A v) : CS G mX1_meetAll d [.ref (ga G (34, 0)), .ref (ga G (13, i)), .ref (ga G (13, j))] M onQc (QX (34, 0) 4 (37, 0) (35, 0) (36, 0) (aH A).length) (mAllL A (tV x) (tV y) q0) := by
  have hS0 : EqF onQc M M := EqF.rf
  have hn40 := hC0.n40
  have hql := hQ0.len
  have hx0 := hC0.2.2.1 i x hx
  have hy0 := hC0.2.2.1 j y hy
  have hil := at_lt hx
  have hjl := at_lt hy
  have hx8 : (tV x).length ≤ 6 := by have := hx0.2.2.2.2.2.2.2.1; have := hx0.2.2.2.2.2.2.2.2.1; omega
  have hy8 : (tV y).length ≤ 6 := by have := hy0.2.2.2.2.2.2.2.1; have := hy0.2.2.2.2.2.2.2.2.1; omega
  refine s_of hG okX1_meetAll (by decide +kernel) rfl (Nat.le_of_ble_eq_true rfl) ?_
  refine x_aload_n rfl rfl rfl ?_
  refine x_getIv (v := nI ((tV x).length)) hx0.2.2.2.2.2.1.1 rfl rfl f_1_97 rfl (by show _ < 40; omega) rfl ?_
  refine x_aload_n rfl rfl rfl ?_
  refine x_getIv (v := nI ((tV y).length)) hy0.2.2.2.2.2.1.1 rfl rfl f_1_97 rfl (by show _ < 40; omega) rfl ?_
  refine x_icmpN_eq (by omega) (by omega) rfl rfl (fun hc1 => ?_) (fun hc1 => ?_)
  · refine x_iconstN (b := 0) rfl rfl ?_
    refine x_istore_n rfl rfl rfl rfl ?_
    rw [show mAllL A (tV x) (tV y) q0 = mAll A ((tV x).drop 0) ((tV y).drop 0) q0 from if_pos hc1]
    exact l_ma13 hG hd hx hy hvx hvy hc1 _ 0 (Nat.zero_add _) q0 M hC0 hQ0 hS0
  · refine x_iconstN (b := 0) rfl rfl ?_
    exact s_f (if_neg hc1) hS0 rfl rfl rfl
set_option maxHeartbeats 4000000 in
set_option maxRecDepth 20000 in
theorem c_matchThings (hG : Gok G) (hC0 : Cn A M) {q0 : QS} (hQ0 : (QX (34, 0) 4 (37, 0) (35, 0) (36, 0) (aH A).length) q0 M) (hd : 3 ≤ d) (hwf : wfA A) {i j : Nat} {x y : Th} (hx : (aH A)[i]? = some x) (hy : (aH A)[j]? = some y) : CS G mX1_matchThings d [.ref (ga G (34, 0)), .ref (ga G (8, i)), .ref (ga G (8, j))] M onQc (QX (34, 0) 4 (37, 0) (35, 0) (36, 0) (aH A).length) (mT2 A x y q0) := by
  have hS0 : EqF onQc M M := EqF.rf
  have hn40 := hC0.n40
  have hql := hQ0.len
  have hx0 := hC0.2.2.1 i x hx
  have hy0 := hC0.2.2.1 j y hy
  have hil := at_lt hx
  have hjl := at_lt hy
  have hokx := hwf.2.2.1 _ (at_mem hx)
  have hoky := hwf.2.2.1 _ (at_mem hy)
  have hx6 := hx0.2.2.2.2.2.2.2.1
  have hy6 := hy0.2.2.2.2.2.2.2.1
  have hxk := hx0.2.2.2.2.2.2.2.2.2
  have hyk := hy0.2.2.2.2.2.2.2.2.2
  refine s_of hG okX1_matchThings (by decide +kernel) rfl (Nat.le_of_ble_eq_true rfl) ?_
  refine x_aload_n rfl rfl rfl ?_
  refine x_getIv (v := nI (tK x)) hx0.1 rfl rfl f_1_65 rfl (by show _ < 40; omega) rfl ?_
  refine x_aload_n rfl rfl rfl ?_
  refine x_getIv (v := nI (tK y)) hy0.1 rfl rfl f_1_65 rfl (by show _ < 40; omega) rfl ?_
  refine x_icmpN_ne (by omega) (by omega) rfl rfl (fun hc1 => ?_) (fun hc1 => ?_)
  · refine x_iconstN (b := 0) rfl rfl ?_
    exact s_f (if_neg (fun z => hc1 z.1)) hS0 rfl rfl rfl
  · refine x_aload_n rfl rfl rfl ?_
    refine x_getLv (v := tD x) hx0.2.2.1 rfl rfl f_1_70 rfl (by show _ < 40; omega) rfl ?_
    refine x_aload_n rfl rfl rfl ?_
    refine x_getLv (v := tD y) hy0.2.2.1 rfl rfl f_1_70 rfl (by show _ < 40; omega) rfl ?_
    refine x_lc_ne rfl rfl rfl rfl (fun hc2 => ?_) (fun hc2 => ?_)
    · refine x_iconstN (b := 0) rfl rfl ?_
      exact s_f (if_neg (fun z => hc2 z.2.1)) hS0 rfl rfl rfl
    · refine x_aload_n rfl rfl rfl ?_
      refine x_getIv (v := trv x) hx0.2.1 rfl rfl f_1_74 rfl (by show _ < 40; omega) rfl ?_
      refine x_aload_n rfl rfl rfl ?_
      refine x_getIv (v := trv y) hy0.2.1 rfl rfl f_1_74 rfl (by show _ < 40; omega) rfl ?_
      refine x_icmp_ne rfl rfl (fun hc3 => ?_) (fun hc3 => ?_)
      · refine x_iconstN (b := 0) rfl rfl ?_
        exact s_f (if_neg (fun z => hc3 z.2.2.1)) hS0 rfl rfl rfl
      · refine x_aload_n rfl rfl rfl ?_
        refine x_getRi rfl rfl f_1_77 rfl (by show _ < 40; omega) rfl rfl ?_
        refine x_aload_n rfl rfl rfl ?_
        refine x_getRi rfl rfl f_1_77 rfl (by show _ < 40; omega) rfl rfl ?_
        refine x_callVi (d2 := 0) (c_LL_isLike (len := (tY x).length) (len2 := (tY y).length) hG (lk_11 (by omega)) (lk_11 (by omega)) hx0.2.2.2.2.1.1 (by omega) hy0.2.2.2.2.1.1 (by omega)) rfl rfl v_1_81 rfl rfl (by show _ < 40; omega) rfl rfl (Nat.le_of_ble_eq_true rfl) (by omega) (by omega) ?_
        refine x_topI (v := bI (tY x = tY y)) (bI_iff (LI_eq hx0.2.2.2.2.1.2 hy0.2.2.2.2.1.2)) ?_
        refine x_ifB_eq rfl rfl (fun hc4 => ?_) (fun hc4 => ?_)
        · refine x_iconstN (b := 0) rfl rfl ?_
          exact s_f (if_neg (fun z => hc4 z.2.2.2)) hS0 rfl rfl rfl
        · refine x_aload_n rfl rfl rfl ?_
          refine x_aload_n rfl rfl rfl ?_
          refine x_getRi rfl rfl f_1_87 rfl (by show _ < 40; omega) rfl rfl ?_
          refine x_aload_n rfl rfl rfl ?_
          refine x_getRi rfl rfl f_1_87 rfl (by show _ < 40; omega) rfl rfl ?_
          rw [show mT2 A x y q0 = (mAllL A (tL x) (tL y) q0).bind (mAllL A (tV x) (tV y)) from if_pos ⟨hc1, hc2, hc3, hc4⟩]
          refine s_call (d2 := 2) (c_meetAll9 hG hC0 hQ0 (Nat.le_refl 2) hx hy hokx.2.1 hoky.2.1) hS0 rfl rfl v_1_90 rfl rfl (by decide) rfl rfl (Nat.le_of_ble_eq_true rfl) (by omega) (fun q1 M1 e1 hQ1 hE1 hS1 => ?_) (fun M1 e1 hE1 hS1 => ?_)
          · have hC1 := hC0.eqQ hE1
            rw [← bs2 (mAllL A (tV x) (tV y) q1)]
            refine x_if_eq rfl rfl (fun hc5 => absurd hc5 (by decide +kernel)) (fun _ => ?_)
            refine x_aload_n rfl rfl rfl ?_
            refine x_aload_n rfl rfl rfl ?_
            refine x_getRi rfl rfl f_1_94 rfl (by show _ < 40; omega) rfl rfl ?_
            refine x_aload_n rfl rfl rfl ?_
            refine x_getRi rfl rfl f_1_94 rfl (by show _ < 40; omega) rfl rfl ?_
            refine s_call (d2 := 2) (c_meetAll13 hG hC1 hQ1 (Nat.le_refl 2) hx hy hokx.2.2.1 hoky.2.2.1) hS1 rfl rfl v_1_90 rfl rfl (by decide) rfl rfl (Nat.le_of_ble_eq_true rfl) (by omega) (fun q2 M2 e2 hQ2 hE2 hS2 => ?_) (fun M2 e2 hE2 hS2 => ?_)
            · refine x_if_eq rfl rfl (fun hc6 => absurd hc6 (by decide +kernel)) (fun _ => ?_)
              refine x_iconstN (b := 1) rfl rfl ?_
              refine x_goto rfl rfl ?_
              exact s_t rfl hS2 hQ2 rfl rfl rfl
            · refine x_if_eq rfl rfl (fun _ => ?_) (fun hc7 => absurd hc7 (by decide +kernel))
              refine x_iconstN (b := 0) rfl rfl ?_
              exact s_f rfl hS2 rfl rfl rfl
          · refine x_if_eq rfl rfl (fun _ => ?_) (fun hc8 => absurd hc8 (by decide +kernel))
            refine x_iconstN (b := 0) rfl rfl ?_
            exact s_f rfl hS1 rfl rfl rfl
end S1
