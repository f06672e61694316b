theorem lN_shl7 {b i : Nat} (hb : b < 256) (hi : i ≤ 7) : uN (lN b <<< ((nI (8 * i)).toInt64 &&& 63)) = b * 2 ^ (8 * i) := by
  have e : ∀ (x : Fin 256) (j : Fin 8), uN (lN x.val <<< ((nI (8 * j.val)).toInt64 &&& 63)) = x.val * 2 ^ (8 * j.val) := by decide +kernel
  exact e ⟨b, hb⟩ ⟨i, by omega⟩
theorem orL_uN7 {t : Int64} {b i : Nat} (hb : b < 256) (hi : i ≤ 7) (ht : uN t < 2 ^ (8 * i)) : uN (orL t b i) = uN t + b * 2 ^ (8 * i) := by
  have e1 : uN (orL t b i) = uN t ||| uN (lN b <<< ((nI (8 * i)).toInt64 &&& 63)) := by
    rw [uN_tb, uN_tb, uN_tb]; exact BitVec.toNat_or _ _
  rw [e1, lN_shl7 hb hi, Nat.or_comm, Nat.add_comm, Nat.mul_comm]
  exact (Nat.two_pow_add_eq_or_of_lt ht b).symm
theorem by_u {cv : Int64} {b c : Nat} (hou : uN (orL cv b c) = uN cv + b * 2 ^ (8 * c)) (hb : b < 256) (hcu : uN cv < 2 ^ (8 * c)) : uN (orL cv b c) < 2 ^ (8 * (c + 1)) := by
  rw [hou, show 8 * (c + 1) = 8 * c + 8 by omega, Nat.pow_add]
  have : b * 2 ^ (8 * c) ≤ 255 * 2 ^ (8 * c) := Nat.mul_le_mul_right _ (by omega)
  omega
theorem by_s {cv : Int64} {b c : Nat} {acc : List Int64} (hal : acc.length = c) (hb : b < 256) (hcu : uN cv < 2 ^ (8 * c)) (hou : uN (orL cv b c) = uN cv + b * 2 ^ (8 * c)) (hby : ∀ j v, acc[j]? = some v → uN cv / 2 ^ (8 * j) % 256 = uN (sh4 v)) : ∀ j v, (acc ++ [16 * lN b + 4])[j]? = some v → uN (orL cv b c) / 2 ^ (8 * j) % 256 = uN (sh4 v) := by
  intro j v hv
  have hp : (0 : Nat) < 2 ^ (8 * c) := Nat.pow_pos (by decide)
  rcases Nat.lt_trichotomy j acc.length with q | q | q
  · rw [List.getElem?_append_left q] at hv
    rw [← hby j v hv, hou, show b * 2 ^ (8 * c) = b * 2 ^ (8 * (c - j - 1)) * 256 * 2 ^ (8 * j) by
      rw [show 8 * c = 8 * (c - j - 1) + 8 + 8 * j by omega, Nat.pow_add, Nat.pow_add]; simp [Nat.mul_assoc], Nat.add_mul_div_right _ _ (Nat.pow_pos (by decide)), Nat.add_mul_mod_self_right]
  · rw [q, List.getElem?_append_right (Nat.le_refl _), Nat.sub_self] at hv
    cases hv
    rw [by16 hb, hou, q, hal, Nat.add_mul_div_right _ _ hp, Nat.div_eq_of_lt hcu, Nat.zero_add, Nat.mod_eq_of_lt hb]
  · rw [List.getElem?_append_right (by omega), List.getElem?_eq_none (by simp; omega)] at hv
    cases hv
theorem LI_nil (f : Nat → Int64) : LI f [] := fun k x h => by cases h
/-- a thing of the model that is being read -/
def MPt (k c : Nat) (tr : Int32) (L Y V : List Int64) (i : Nat) (M : Mm) : Prop := M.1 (46, 0) i = nI k ∧ M.1 (48, 0) i = nI c ∧ M.1 (49, 0) i = tr ∧ M.1 (51, 0) i = nI Y.length ∧ LI (fun j => M.2 (52, 0) (6 * i + j)) Y ∧ LI (fun j => M.2 (53, 0) (6 * i + j)) V ∧ LI (fun j => M.2 (50, 0) (8 * i + j)) L
theorem MPt.eqM {on : Ky → Nat → Prop} {k c : Nat} {tr : Int32} {L Y V : List Int64} {i : Nat} {M M1 : Mm} (h : MPt k c tr L Y V i M) (he : EqF on M M1) (h1 : ∀ r, (r = 46 ∨ r = 48 ∨ r = 49 ∨ r = 51) → on (r, 0) i) (h2 : ∀ j, j < L.length → on (50, 0) (8 * i + j)) (h3 : ∀ r, (r = 52 ∨ r = 53) → ∀ j, j < Y.length ∨ j < V.length → on (r, 0) (6 * i + j)) : MPt k c tr L Y V i M1 := by
  obtain ⟨a, b, c, e, f, g, i⟩ := h
  exact ⟨(he _ _ (h1 46 (by decide))).1.trans a, (he _ _ (h1 48 (by decide))).1.trans b, (he _ _ (h1 49 (by decide))).1.trans c, (he _ _ (h1 51 (by decide))).1.trans e, fun j x hx => (he _ _ (h3 52 (by decide) j (Or.inl (at_lt hx)))).2.trans (f j x hx), fun j x hx => (he _ _ (h3 53 (by decide) j (Or.inr (at_lt hx)))).2.trans (g j x hx), fun j x hx => (he _ _ (h2 j (at_lt hx))).2.trans (i j x hx)⟩
theorem mTh.eqM {on : Ky → Nat → Prop} {x : Th} {M M1 : Mm} {i : Nat} (h : mTh x M i) (he : EqF on M M1) (h1 : ∀ r, (46 ≤ r ∧ r ≤ 49) ∨ r = 51 → on (r, 0) i) (h2 : ∀ j, j < 8 → on (50, 0) (8 * i + j)) (h3 : ∀ r, (r = 52 ∨ r = 53) → ∀ j, j < 6 → on (r, 0) (6 * i + j)) : mTh x M1 i := by
  obtain ⟨a, b, c, e, f, g, p, q, r, l1, l2, l3, l4⟩ := h
  refine ⟨(he _ _ (h1 46 (by decide))).1.trans a, (he _ _ (h1 48 (by decide))).1.trans b, (he _ _ (h1 49 (by decide))).1.trans c, (he _ _ (h1 51 (by decide))).1.trans e, fun j y hy => (he _ _ (h3 52 (by decide) j (Nat.lt_of_lt_of_le (at_lt hy) l2))).2.trans (f j y hy), fun j y hy => (he _ _ (h3 53 (by decide) j (Nat.lt_of_lt_of_le (at_lt hy) (by omega)))).2.trans (g j y hy), fun hk j y hy => (he _ _ (h2 j (Nat.lt_of_lt_of_le (at_lt hy) l1))).2.trans (p hk j y hy), fun hk => (he _ _ (h1 47 (by decide))).2.trans (q hk), fun hk j v hv => ?_, l1, l2, l3, l4⟩
  rw [(he _ _ (h1 47 (by decide))).2]; exact r hk j v hv
def CmM (h : Nat) (s : RS) (M : Mm) : Prop := ∀ j x, h ≤ j → (pH s)[j]? = some x → mTh x M j
theorem CmM.nil {s : RS} {h : Nat} {M : Mm} (hl : (pH s).length ≤ h) : CmM h s M := fun j x hj hx => absurd (at_lt hx) (by omega)
def trp (p : Pd) : Int32 := if p.2.1 = 10 then nI p.2.2.2 else -1
def ovp (s : RS) (p : Pd) : Prop := p.2.1 = 10 ∧ ¬ rD (trAt s p.2.2.2) = true
def Pnd (h : Nat) (s s' : RS) (p : Pd) (M' : Mm) : Prop := p.1 = (pH s).length ∧ (pH s')[p.1]? = some (p.2.1, 0, 0, [], [], []) ∧ (pH s').length = p.1 + 1 ∧ h < 12 ∧ (p.2.1 = 9 ∨ p.2.1 = 10) ∧ p.2.2.1 ≤ 8 ∧ (p.2.1 = 10 → p.2.2.2 < (pT s').length ∧ p.2.2.1 = (rM (trAt s' p.2.2.2)).length) ∧ MPt p.2.1 p.2.2.1 (trp p) [] [] [] p.1 M' ∧ TopS h p.1 0 0 (ovp s' p) M'
def PHd (row : List Nat) (al : List Int64) (h : Nat) (s : RS) (q : Int64 × Option Pd) (s' : RS) (M' : Mm) : Prop := RdM row al s' M' ∧ M'.2 (40, 0) 38 = q.1 ∧ Pre s s' ∧ match q.2 with
  | none => M'.1 (40, 0) 28 = nI h ∧ CmM (pH s).length s' M'
  | some p => Pnd h s s' p M'
/-- what the reader's state of the model lies in -/
def onO (k : Ky) (j : Nat) : Prop := (41 ≤ k.1 ∧ k.1 ≤ 46) ∨ (54 ≤ k.1 ∧ k.1 ≤ 58) ∨ (k.1 = 40 ∧ ¬ j = 28 ∧ ¬ j = 38)
theorem RdM.eqO {row : List Nat} {al : List Int64} {s : RS} {M M1 : Mm} (h : RdM row al s M) (hS : EqF onO M M1) : RdM row al s M1 := by
  obtain ⟨⟨a1, a2, a3, a4⟩, hb, ⟨k1, k2, k3, k4, k5, k6, k7, k8, k9, k10, k11⟩, hi, hw⟩ := id h
  exact ⟨⟨(hS _ _ (by simp [onO])).1.trans a1, (hS _ _ (by simp [onO])).1.trans a2, (hS _ _ (by simp [onO])).1.trans a3, a4.to fun k => (hS _ _ (by simp [onO])).2⟩, hb, ⟨(hS _ _ (by simp [onO])).1.trans k1, k2.to fun k => (hS _ _ (by simp [onO])).1, (hS _ _ (by simp [onO])).1.trans k3, k4.to fun k => (hS _ _ (by simp [onO])).1, (hS _ _ (by simp [onO])).1.trans k5, k6.to fun k => (hS _ _ (by simp [onO])).2, (hS _ _ (by simp [onO])).1.trans k7, fun t x hx => (k8 t x hx).eqM hS (fun r h1 h2 => by unfold onO; simp; omega) (fun j _ => by simp [onO]), (hS _ _ (by simp [onO])).1.trans k9, fun j x hx => (hS _ _ (by simp [onO])).1.trans (k10 j x hx), k11⟩, hi, hw.eq hS (by simp [onO]) (by simp [onO]) (fun r h1 h2 j => by unfold onO; simp; omega)⟩
theorem RdM.set {row : List Nat} {al : List Int64} {s : RS} {M : Mm} {i : Nat} {x y : Th} (h : RdM row al s M) (hy : (pH s)[i]? = some y) (hk : tK x = tK y) : RdM row al (setH i x s) M := by
  obtain ⟨ha, hb, ⟨k1, k2, k3, k4, k5, k6, k7, k8, k9, k10, k11⟩, ⟨i1, i2, i3, i4, i5, i6, i7, i8, i9⟩, hw⟩ := id h
  have hlen : (pH (setH i x s)).length = (pH s).length := List.length_set
  refine ⟨ha, hb, ⟨k1, k2, k3, k4, k5, k6, k7, k8, by rw [hlen]; exact k9, fun j z hz => ?_, k11⟩, ⟨i1, i2, by rw [hlen]; exact i3, i4, by rw [hlen]; exact i5, fun j hj => by rw [hlen]; exact i6 j hj, i7, fun z hz => ?_, i9⟩, hw⟩
  · by_cases e : j = i
    · subst e
      have hz2 : ((pH s).set j x)[j]? = some z := hz
      rw [List.getElem?_set_self (at_lt hy)] at hz2
      cases hz2
      rw [hk]; exact k10 j y hy
    · have hz2 : ((pH s).set i x)[j]? = some z := hz
      rw [List.getElem?_set_ne (fun q => e q.symm)] at hz2
      exact k10 j z hz2
  · rcases List.mem_or_eq_of_mem_set (show z ∈ (pH s).set i x from hz) with h9 | h9
    · exact i8 z h9
    · rw [h9, hk]; exact i8 y (at_mem hy)
theorem CmM.set {s : RS} {M : Mm} {i : Nat} {x : Th} (hc : CmM (i + 1) s M) (hx : mTh x M i) : CmM i (setH i x s) M := by
  intro j z hj hz
  have hz2 : ((pH s).set i x)[j]? = some z := hz
  by_cases e : j = i
  · subst e
    have hl := at_lt hz2
    rw [List.length_set] at hl
    rw [List.getElem?_set_self hl] at hz2
    cases hz2; exact hx
  · rw [List.getElem?_set_ne (fun q => e q.symm)] at hz2
    exact hc j z (by omega) hz2
theorem eqM_new {s : RS} {M : Mm} {k c : Nat} {v : Int64} : EqF (fun q j => (46 ≤ q.1 ∧ q.1 ≤ 49 ∨ q.1 = 51 → j ≠ (pH s).length) ∧ (q.1 = 50 → j < 8 * (pH s).length) ∧ ¬ (q.1 = 40 ∧ (j = 8 ∨ j = 24 ∨ j = 38)) ∧ q.1 ≠ 57) M (ul (ui (ui (ui (ul (ul (ul (ul (ul (ul (ul (ul (ui (ui (ui (ul (ui M (46, 0) (pH s).length (nI k)) (47, 0) (pH s).length 0) (48, 0) (pH s).length (nI c)) (49, 0) (pH s).length (-1)) (51, 0) (pH s).length (nI 0)) (50, 0) (8 * (pH s).length + 0) 0) (50, 0) (8 * (pH s).length + 1) 0) (50, 0) (8 * (pH s).length + 2) 0) (50, 0) (8 * (pH s).length + 3) 0) (50, 0) (8 * (pH s).length + 4) 0) (50, 0) (8 * (pH s).length + 5) 0) (50, 0) (8 * (pH s).length + 6) 0) (50, 0) (8 * (pH s).length + 7) 0) (40, 0) 8 (nI ((pH s).length + 1))) (57, 0) (pL s).length (nI (pH s).length)) (40, 0) 24 (nI ((pL s).length + 1))) (40, 0) 38 v) :=
  ((((((((((((((((EqF.rf.ui (by simp)).ul (by simp)).ui (by simp)).ui (by simp)).ui (by simp)).ul (by simp)).ul (by simp)).ul (by simp)).ul (by simp)).ul (by simp)).ul (by simp)).ul (by simp)).ul (by simp)).ui (by simp)).ui (by simp)).ui (by simp)).ul (by simp)
set_option maxHeartbeats 2000000 in
theorem RdM.new {row : List Nat} {al : List Int64} {s : RS} {M : Mm} {k c : Nat} {v : Int64} (h : RdM row al s M) (hL : (pH s).length < 40) (hk : k < 16) : RdM row al (newH k s) (ul (ui (ui (ui (ul (ul (ul (ul (ul (ul (ul (ul (ui (ui (ui (ul (ui M (46, 0) (pH s).length (nI k)) (47, 0) (pH s).length 0) (48, 0) (pH s).length (nI c)) (49, 0) (pH s).length (-1)) (51, 0) (pH s).length (nI 0)) (50, 0) (8 * (pH s).length + 0) 0) (50, 0) (8 * (pH s).length + 1) 0) (50, 0) (8 * (pH s).length + 2) 0) (50, 0) (8 * (pH s).length + 3) 0) (50, 0) (8 * (pH s).length + 4) 0) (50, 0) (8 * (pH s).length + 5) 0) (50, 0) (8 * (pH s).length + 6) 0) (50, 0) (8 * (pH s).length + 7) 0) (40, 0) 8 (nI ((pH s).length + 1))) (57, 0) (pL s).length (nI (pH s).length)) (40, 0) 24 (nI ((pL s).length + 1))) (40, 0) 38 v) := by
  have hS := eqM_new (s := s) (M := M) (k := k) (c := c) (v := v)
  obtain ⟨⟨a1, a2, a3, a4⟩, hb, ⟨k1, k2, k3, k4, k5, k6, k7, k8, k9, k10, k11⟩, ⟨i1, i2, i3, i4, i5, i6, i7, i8, i9⟩, hw⟩ := id h
  refine ⟨⟨(hS _ _ (by simp)).1.trans a1, (hS _ _ (by simp)).1.trans a2, (hS _ _ (by simp)).1.trans a3, a4.to fun k => (hS _ _ (by simp)).2⟩, hb, ⟨?_, ?_, (hS _ _ (by simp)).1.trans k3, k4.to fun k => (hS _ _ (by simp)).1, (hS _ _ (by simp)).1.trans k5, k6.to fun k => (hS _ _ (by simp)).2, (hS _ _ (by simp)).1.trans k7, fun t x hx => (k8 t x hx).eqM hS (fun r h1 h2 => by simp; omega) (fun j _ => by simp), ?_, fun j x hx => ?_, k11⟩, ⟨i1, i2, ?_, ?_, ?_, fun i hi => ?_, i7, fun x hx => ?_, i9⟩, hw.eq hS (by simp) (by simp) (fun r h1 h2 j => by simp; omega)⟩
  · simp [ui, ul, newH, pL]
  · show LN _ (pL s ++ [(pH s).length])
    exact k2.push (fun k hk => by have hne : k ≠ (pL s).length := Nat.ne_of_lt hk; simp [ui, ul, hne]) (by simp [ui, ul])
  · rw [newH_len]; simp [ui, ul]
  · have hx2 : (pH s ++ [(k, 0, 0, [], [], [])])[j]? = some x := hx
    rcases Nat.lt_trichotomy j (pH s).length with q | q | q
    · rw [List.getElem?_append_left q] at hx2
      exact (hS (46, 0) j (by simp; omega)).1.trans (k10 j x hx2)
    · rw [q, List.getElem?_append_right (Nat.le_refl _), Nat.sub_self] at hx2
      cases hx2
      rw [q]; simp [ui, ul, tK]
    · rw [List.getElem?_append_right (by omega), List.getElem?_eq_none (by simp; omega)] at hx2
      cases hx2
  · rw [newH_len]; omega
  · show (pR s).length ≤ (pL s ++ [(pH s).length]).length
    simp; omega
  · rw [newH_len]
    show (pL s ++ [(pH s).length]).length ≤ _
    simp; omega
  · rw [newH_len]
    rcases List.mem_append.mp (show i ∈ pL s ++ [(pH s).length] from hi) with h9 | h9
    · have := i6 i h9; omega
    · rw [List.mem_singleton.mp h9]; omega
  · rcases List.mem_append.mp (show x ∈ pH s ++ [(k, 0, 0, [], [], [])] from hx) with h9 | h9
    · exact i8 x h9
    · rw [List.mem_singleton.mp h9]; exact hk
theorem MPt.new {s : RS} {M : Mm} {k c : Nat} {v : Int64} : MPt k c (-1) [] [] [] (pH s).length (ul (ui (ui (ui (ul (ul (ul (ul (ul (ul (ul (ul (ui (ui (ui (ul (ui M (46, 0) (pH s).length (nI k)) (47, 0) (pH s).length 0) (48, 0) (pH s).length (nI c)) (49, 0) (pH s).length (-1)) (51, 0) (pH s).length (nI 0)) (50, 0) (8 * (pH s).length + 0) 0) (50, 0) (8 * (pH s).length + 1) 0) (50, 0) (8 * (pH s).length + 2) 0) (50, 0) (8 * (pH s).length + 3) 0) (50, 0) (8 * (pH s).length + 4) 0) (50, 0) (8 * (pH s).length + 5) 0) (50, 0) (8 * (pH s).length + 6) 0) (50, 0) (8 * (pH s).length + 7) 0) (40, 0) 8 (nI ((pH s).length + 1))) (57, 0) (pL s).length (nI (pH s).length)) (40, 0) 24 (nI ((pL s).length + 1))) (40, 0) 38 v) := by
  refine ⟨?_, ?_, ?_, ?_, LI_nil _, LI_nil _, LI_nil _⟩ <;> simp [ui, ul]
theorem rhT_k {row : List Nat} {al : List Int64} {h k kp np n : Nat} {s : RS} (h1 : n % 2 = 0) : rhT row al h k kp np n s = rb (rKnown k (n / 2) np s) fun q => .inr ((q.1, none), q.2) := by unfold rhT; rw [if_pos h1]
theorem rhT_f {row : List Nat} {al : List Int64} {h k kp np n : Nat} {s : RS} (h1 : ¬ n % 2 = 0) (h2 : (pH s).length = 40 ∨ h = 12) : rhT row al h k kp np n s = .inl kp := by
  unfold rhT; rw [if_neg h1]
  by_cases h3 : (pH s).length = 40
  · rw [if_pos h3]
  · rw [if_neg h3, if_pos (h2.elim (fun z => absurd z h3) id)]
theorem rhT_8x {row : List Nat} {al : List Int64} {h kp np n : Nat} {s : RS} (h1 : ¬ n % 2 = 0) (h2 : ¬ (pH s).length = 40) (h3 : ¬ h = 12) (h4 : ¬ n = 1) : rhT row al h 8 kp np n s = .inl np := by
  unfold rhT rDate; rw [if_neg h1, if_neg h2, if_neg h3, if_pos rfl, if_pos h4]; rfl
theorem rhT_8 {row : List Nat} {al : List Int64} {h kp np n : Nat} {s : RS} (h1 : ¬ n % 2 = 0) (h2 : ¬ (pH s).length = 40) (h3 : ¬ h = 12) (h4 : n = 1) : rhT row al h 8 kp np n s = rb (rEight row (newH 8 s)) fun q => .inr ((16 * lN (pH s).length + 7, none), setH (pH s).length (8, q.1, 0, [], [], []) q.2) := by
  unfold rhT rDate; rw [if_neg h1, if_neg h2, if_neg h3, if_pos rfl, if_neg (fun z => z h4), rb_assoc]; rfl
theorem rhT_12x {row : List Nat} {al : List Int64} {h kp np n : Nat} {s : RS} (h1 : ¬ n % 2 = 0) (h2 : ¬ (pH s).length = 40) (h3 : ¬ h = 12) (h4 : 8 < n / 2) : rhT row al h 12 kp np n s = .inl np := by
  unfold rhT rBytes; rw [if_neg h1, if_neg h2, if_neg h3, if_neg (by decide), if_pos rfl, if_pos h4]; rfl
theorem rhT_12 {row : List Nat} {al : List Int64} {h kp np n : Nat} {s : RS} (h1 : ¬ n % 2 = 0) (h2 : ¬ (pH s).length = 40) (h3 : ¬ h = 12) (h4 : ¬ 8 < n / 2) : rhT row al h 12 kp np n s = rb (rBy row (n / 2) [] (newH 12 s)) fun q => .inr ((16 * lN (pH s).length + 7, none), setH (pH s).length (12, 0, 0, q.1, [], []) q.2) := by
  unfold rhT rBytes; rw [if_neg h1, if_neg h2, if_neg h3, if_neg (by decide), if_pos rfl, if_neg h4, rb_assoc]; rfl
theorem rhT_9x {row : List Nat} {al : List Int64} {h kp np n : Nat} {s : RS} (h1 : ¬ n % 2 = 0) (h2 : ¬ (pH s).length = 40) (h3 : ¬ h = 12) (h4 : 8 < n / 2) : rhT row al h 9 kp np n s = .inl np := by
  unfold rhT; rw [if_neg h1, if_neg h2, if_neg h3, if_neg (by decide), if_neg (by decide), if_pos rfl, if_pos h4]
theorem rhT_9 {row : List Nat} {al : List Int64} {h kp np n : Nat} {s : RS} (h1 : ¬ n % 2 = 0) (h2 : ¬ (pH s).length = 40) (h3 : ¬ h = 12) (h4 : ¬ 8 < n / 2) : rhT row al h 9 kp np n s = .inr ((16 * lN (pH s).length + 7, some ((pH s).length, 9, n / 2, 0)), newH 9 s) := by
  unfold rhT; rw [if_neg h1, if_neg h2, if_neg h3, if_neg (by decide), if_neg (by decide), if_pos rfl, if_neg h4]
theorem rhT_10 {row : List Nat} {al : List Int64} {h kp np n : Nat} {s : RS} (h1 : ¬ n % 2 = 0) (h2 : ¬ (pH s).length = 40) (h3 : ¬ h = 12) : rhT row al h 10 kp np n s = rb (rTr row al n np (newH 10 s)) fun t => .inr ((16 * lN (pH s).length + 7, some ((pH s).length, 10, (rM (trAt t.2 t.1)).length, t.1)), t.2) := by
  unfold rhT; rw [if_neg h1, if_neg h2, if_neg h3, if_neg (by decide), if_neg (by decide), if_neg (by decide)]
theorem rTr_k0 {row : List Nat} {al : List Int64} {n np : Nat} {s : RS} (h : n % 4 = 1) (h2 : (pR s)[n / 4]? = none) : rTr row al n np s = .inl np := by rw [rTr_k h]; unfold rKR; rw [h2]; rfl
theorem rTr_k1 {row : List Nat} {al : List Int64} {n np t : Nat} {s : RS} (h : n % 4 = 1) (h2 : (pR s)[n / 4]? = some t) : rTr row al n np s = .inr (t, s) := by rw [rTr_k h]; unfold rKR; rw [h2]; rfl
theorem MPt.tu {k c c2 : Nat} {tr tr2 : Int32} {i : Nat} {M : Mm} (h : MPt k c tr [] [] [] i M) : MPt k c2 tr2 [] [] [] i (ui (ui M (49, 0) i tr2) (48, 0) i (nI c2)) :=
  ⟨by simpa [ui] using h.1, by simp [ui], by simp [ui], by simpa [ui] using h.2.2.2.1, (fun k x h => by cases h), (fun k x h => by cases h), (fun k x h => by cases h)⟩
theorem onMD_new {h : Nat} {s0 s1 : RS} {k : Ky} {j : Nat} (e : (pH s1).length = (pH s0).length) (z : onMD h s0 k j) : (46 ≤ k.1 ∧ k.1 ≤ 49 ∨ k.1 = 51 → j ≠ (pH s1).length) ∧ (k.1 = 50 → j < 8 * (pH s1).length) ∧ ¬ (k.1 = 40 ∧ (j = 8 ∨ j = 24 ∨ j = 38)) ∧ k.1 ≠ 57 := by
  obtain ⟨a1, a2, a3, a4, a5, a6, a7, a8, a9, a10, a11, a12⟩ := z
  rw [e]
  exact ⟨fun q => q.elim (fun q => Nat.ne_of_lt (a8 q)) (fun q => Nat.ne_of_lt (a10 q)), a9, fun q => by have := a4 q.1; omega, a2⟩
theorem mTh_date {i : Nat} {M : Mm} {b : Int64} (h : MPt 8 0 (-1) [] [] [] i M) : mTh (8, b, 0, [], [], []) (ul M (47, 0) i b) i := by
  have hS : EqF (fun k _ => k.1 ≠ 47) M (ul M (47, 0) i b) := EqF.rf.ul (by simp)
  exact ⟨(hS _ _ (by simp)).1.trans h.1, (hS _ _ (by simp)).1.trans h.2.1, (hS _ _ (by simp)).1.trans h.2.2.1, (hS _ _ (by simp)).1.trans h.2.2.2.1, LI_nil _, LI_nil _, fun _ => LI_nil _, fun _ => by simp [ul, tD], fun z => absurd z (show ¬ (8 : Nat) = 12 by decide), Nat.zero_le _, Nat.zero_le _, rfl, show (8 : Nat) < 16 by decide⟩
section N3
variable {G : Gd} {d : Nat} {M : Mm}
set_option maxHeartbeats 4000000 in
set_option maxRecDepth 20000 in
theorem c_mtakeThing_8 (hG : Gok G) (hd : 6 ≤ d) {row : List Nat} {al : List Int64} {s0 : RS} (hw0 : RdM row al s0 M) {h kp : Nat} (hh : h ≤ 12) (ho0 : M.1 (40, 0) 28 = nI h) (hkp : kp ≤ 600) : CQ G mX9_takeThing d [.ref (ga G (40, 0)), .int (nI 8), .int (nI kp)] M (onMD h s0) (PHd row al h s0) vNo (rb (rNum row s0) fun q => rhT row al h 8 kp s0.1 q.1 q.2) := by
  have hS0 : EqF (onMD h s0) M M := EqF.rf
  have hp0 : Pre s0 s0 := Pre.rf
  have hA0 := hw0.2.1.1
  have hL6 := hw0.2.2.2.2.2.2.1
  refine q_of hG okX9_takeThing (by decide +kernel) rfl (Nat.le_of_ble_eq_true rfl) ?_
  refine x_aload_n rfl rfl rfl ?_
  refine x_getIv (v := nI (s0.1)) hw0.1.1 rfl rfl f_9_242 rfl (by decide) rfl ?_
  refine x_istore_n rfl rfl rfl rfl ?_
  refine x_aload_n rfl rfl rfl ?_
  refine q_call (d2 := 3) (c_mtakeNumber hG (Nat.le_refl 3) hw0) hS0 (fun _ _ z => onMDA z) rfl rfl v_9_252 rfl rfl (by decide) rfl rfl (Nat.le_of_ble_eq_true rfl) (by omega) (fun b1 s1 M1 e1 hq1 hE1 hS1 => ?_) (fun f1 b1 M1 e1 hf1 hl1 hS1 => ?_)
  · have hw1 := hq1
    have hz1 : s1.2.2 = s0.2.2 := by rw [(rNumF_2 e1).1]
    have hn1 := rNum_lt hq1.2.2.2.2.2.2.2.1 e1
    have hph1 : pH s1 = pH s0 := by unfold pH; rw [hz1]
    have hphl1 : (pH s1).length = (pH s0).length := by rw [hph1]
    have hp1 := hp0.tr (Pre.of2 hz1)
    have hHH1 := hw1.2.2.2.1.2.2.1
    have hLH1 := hw1.2.2.2.1.2.2.2.2.1
    have hRL1 := hw1.2.2.2.1.2.2.2.1
    have ho1 : M1.1 (40, 0) 28 = nI h := (hE1 _ _ (by simp [onMA])).1.trans ho0
    dsimp only
    refine x_istore rfl rfl rfl rfl ?_
    refine x_aload_n rfl rfl rfl ?_
    refine x_callVi (d2 := 0) (c_mgoesT hG hw1.1.2.1) rfl rfl v_9_238 rfl rfl (by decide) rfl rfl (Nat.le_of_ble_eq_true rfl) (by omega) (by omega) ?_
    refine x_if_ne rfl rfl (fun _ => ?_) (fun hc1 => absurd hc1 (by decide +kernel))
    refine x_iload rfl rfl rfl ?_
    refine x_iconstN (b := 2) rfl rfl ?_
    refine x_iremN (a := b1) (b := 2) (by omega) (by omega) (by omega) rfl rfl ?_
    refine x_ifN_ne (by omega) rfl rfl (fun hc2 => ?_) (fun hc2 => ?_)
    · refine x_aload_n rfl rfl rfl ?_
      refine x_getIv (v := nI ((pH s1).length)) hw1.2.2.1.2.2.2.2.2.2.2.2.1 rfl rfl f_9_121 rfl (by decide) rfl ?_
      refine x_bipush (v := nI 40) rfl rfl (by decide +kernel) ?_
      refine x_icmpN_eq (by omega) (by omega) rfl rfl (fun hc3 => ?_) (fun hc3 => ?_)
      · refine x_aload_n rfl rfl rfl ?_
        refine x_iload_n rfl rfl rfl ?_
        refine x_callVv (d2 := 0) (c_mstopT hG (nI kp) hw1.1.2.1) rfl rfl v_9_245 rfl rfl (by decide) rfl rfl (Nat.le_of_ble_eq_true rfl) (by omega) (by omega) ?_
        exact q_flV (0, none) (f := kp) (rhT_f hc2 (by omega)) (hS1.ui (by first | (unfold onMD; simp; done) | (unfold onMD; simp; omega))) (by first | rfl | simp [ui, ul]) (by omega) rfl rfl rfl
      · refine x_aload_n rfl rfl rfl ?_
        refine x_getIv (v := nI h) ho1 rfl rfl f_9_196 rfl (by decide) rfl ?_
        refine x_bipush (v := nI 12) rfl rfl (by decide +kernel) ?_
        refine x_icmpN_ne (by omega) (by omega) rfl rfl (fun hc4 => ?_) (fun hc4 => ?_)
        · refine x_iload_n rfl rfl rfl ?_
          refine x_bipush (v := nI 8) rfl rfl (by decide +kernel) ?_
          refine x_icmpN_ne (by omega) (by omega) rfl rfl (fun hc5 => absurd hc5 (by omega)) (fun hc5 => ?_)
          refine x_iload rfl rfl rfl ?_
          refine x_iconstN (b := 1) rfl rfl ?_
          refine x_icmpN_eq (by omega) (by omega) rfl rfl (fun hc6 => ?_) (fun hc6 => ?_)
          · refine x_iconstN (b := 0) rfl rfl ?_
            refine x_goto rfl rfl ?_
            refine x_istore rfl rfl rfl rfl ?_
            refine x_iload rfl rfl rfl ?_
            refine x_if_eq rfl rfl (fun _ => ?_) (fun hc7 => absurd hc7 (by decide +kernel))
            refine x_aload_n rfl rfl rfl ?_
            refine x_iload_n rfl rfl rfl ?_
            refine x_lconst (v := 0) rfl rfl (by decide +kernel) ?_
            refine x_iload_n rfl rfl rfl ?_
            refine x_bipush (v := nI 10) rfl rfl (by decide +kernel) ?_
            refine x_icmpN_eq (by omega) (by omega) rfl rfl (fun hc8 => absurd hc8 (by omega)) (fun hc8 => ?_)
            refine x_iload_n rfl rfl rfl ?_
            refine x_bipush (v := nI 8) rfl rfl (by decide +kernel) ?_
            refine x_icmpN_ne (by omega) (by omega) rfl rfl (fun hc9 => absurd hc9 (by omega)) (fun hc9 => ?_)
            refine x_iconstN (b := 0) rfl rfl ?_
            refine x_goto rfl rfl ?_
            refine x_iconst (v := -1) rfl rfl (by decide +kernel) ?_
            refine x_callVi (d2 := 0) (c_mnewThing hG (nI 8) (nI (0)) (-1) 0 hw1.2.2.1.2.2.2.2.2.2.2.2.1 (by omega)) rfl rfl v_9_134 rfl rfl (by decide) rfl rfl (Nat.le_of_ble_eq_true rfl) (by omega) (by omega) ?_
            refine x_istore rfl rfl rfl rfl ?_
            refine x_aload_n rfl rfl rfl ?_
            refine x_getR0 rfl rfl f_9_60 rfl (by decide) rfl rfl ?_
            refine x_aload_n rfl rfl rfl ?_
            refine x_getIv (v := nI ((pL s1).length)) (by first | exact hw1.2.2.1.1 | (rw [← hw1.2.2.1.1]; rfl) | simp [ui, ul, hw1.2.2.1.1]) rfl rfl f_9_211 rfl (by decide) rfl ?_
            refine x_iload rfl rfl rfl ?_
            refine x_iast (a := (pL s1).length) rfl rfl rfl (by decide) (by omega) (by decide) ?_
            refine x_aload_n rfl rfl rfl ?_
            refine x_dup rfl rfl rfl ?_
            refine x_getIv (v := nI ((pL s1).length)) (by first | exact hw1.2.2.1.1 | (rw [← hw1.2.2.1.1]; rfl) | simp [ui, ul, hw1.2.2.1.1]) rfl rfl f_9_211 rfl (by decide) rfl ?_
            refine x_iconstN (b := 1) rfl rfl ?_
            refine x_iaddN (a := (pL s1).length) (b := 1) rfl rfl ?_
            refine x_putI rfl rfl f_9_211 rfl rfl (by decide) rfl ?_
            refine x_aload_n rfl rfl rfl ?_
            refine x_aload_n rfl rfl rfl ?_
            refine x_iload rfl rfl rfl ?_
            refine x_callVl (d2 := 0) (c_mvalueOf hG (i := (pH s1).length) (by omega)) rfl rfl v_9_138 rfl rfl (by decide) rfl rfl (Nat.le_of_ble_eq_true rfl) (by omega) (by omega) ?_
            refine x_putL rfl rfl f_9_255 rfl rfl (by decide) rfl ?_
            obtain ⟨s2, es2⟩ : ∃ s2, s2 = newH 8 s1 := ⟨_, rfl⟩
            obtain ⟨M2, eM2⟩ : ∃ M2, M2 = (ul (ui (ui (ui (ul (ul (ul (ul (ul (ul (ul (ul (ui (ui (ui (ul (ui M1 (46, 0) ((pH s1).length) (nI 8)) (47, 0) ((pH s1).length) 0) (48, 0) ((pH s1).length) (nI 0)) (49, 0) ((pH s1).length) ((-1))) (51, 0) ((pH s1).length) (nI 0)) (50, 0) (8 * (pH s1).length + 0) 0) (50, 0) (8 * (pH s1).length + 1) 0) (50, 0) (8 * (pH s1).length + 2) 0) (50, 0) (8 * (pH s1).length + 3) 0) (50, 0) (8 * (pH s1).length + 4) 0) (50, 0) (8 * (pH s1).length + 5) 0) (50, 0) (8 * (pH s1).length + 6) 0) (50, 0) (8 * (pH s1).length + 7) 0) (40, 0) 8 (nI ((pH s1).length + 1))) (57, 0) ((pL s1).length) (nI ((pH s1).length))) (40, 0) 24 (nI (((pL s1).length) + 1))) (40, 0) 38 (16 * lN ((pH s1).length) + 7)) := ⟨_, rfl⟩
            have hlt : (pH s1).length < 40 := by omega
            have hw2 : RdM row al s2 M2 := by rw [es2, eM2]; exact hw1.new hlt (by decide)
            have hpt2 : MPt 8 0 (-1) [] [] [] (pH s1).length M2 := by rw [eM2]; exact MPt.new
            have hS2 : EqF (onMD h s0) M M2 := by rw [eM2]; exact hS1.tr (eqM_new.sub fun k j z => onMD_new hphl1 z)
            have ho2 : M2.1 (40, 0) 28 = nI h := by rw [eM2]; exact (eqM_new (40, 0) 28 (by simp)).1.trans ho1
            have hg2 : M2.2 (40, 0) 38 = 16 * lN (pH s1).length + 7 := by rw [eM2]; simp [ul]
            have hp2 : Pre s0 s2 := by rw [es2]; exact hp1.tr Pre.new
            have hphn : (pH s2).length = (pH s1).length + 1 := by rw [es2]; exact newH_len _ _
            have hyn : (pH s2)[(pH s1).length]? = some (8, 0, 0, [], [], []) := by rw [es2]; exact newH_at _ _
            have hRLn : (pR s2).length < (pL s2).length := by rw [es2]; show (pR s1).length < (pL s1 ++ [(pH s1).length]).length; simp; omega
            have hpRn : pR s2 = pR s1 := by rw [es2]; rfl
            refine x_eq (M2 := M2) ?_ rfl rfl eM2.symm
            rw [rhT_8 hc2 (by omega) (by omega) (by omega), ← es2]
            refine x_iload_n rfl rfl rfl ?_
            refine x_bipush (v := nI 8) rfl rfl (by decide +kernel) ?_
            refine x_icmpN_ne (by omega) (by omega) rfl rfl (fun hc10 => absurd hc10 (by omega)) (fun hc10 => ?_)
            refine x_aload_n rfl rfl rfl ?_
            refine x_getR0 rfl rfl f_9_30 rfl (by decide) rfl rfl ?_
            refine x_iload rfl rfl rfl ?_
            refine x_aload_n rfl rfl rfl ?_
            refine q_call (d2 := 3) (c_mtakeEight hG (Nat.le_refl 3) hw2) hS2 (fun _ _ z => onMDA z) rfl rfl v_9_263 rfl rfl (by decide) rfl rfl (Nat.le_of_ble_eq_true rfl) (by omega) (fun b3 s3 M3 e3 hq3 hE3 hS3 => ?_) (fun f3 b3 M3 e3 hf3 hl3 hS3 => ?_)
            · have hw3 := hq3
              have hz3 : s3.2.2 = s2.2.2 := by rw [rEightF_2 e3]
              have hph3 : pH s3 = pH s2 := by unfold pH; rw [hz3]
              have ho3 : M3.1 (40, 0) 28 = nI h := (hE3 _ _ (by simp [onMA])).1.trans ho2
              have hg3 := (hE3 (40, 0) 38 (by simp [onMA])).2.trans hg2
              have hpt3 := hpt2.eqM hE3 (fun r h1 => by unfold onMA; simp; omega) (fun j _ => by simp [onMA]) (fun r h1 j _ => by unfold onMA; simp; omega)
              dsimp only
              refine x_last (a := (pH s1).length) rfl rfl rfl (by decide) (by omega) (by decide) ?_
              refine x_goto rfl rfl ?_
              exact q_retV (b := (16 * lN (pH s1).length + 7, none)) rfl (hS3.ul (by first | (unfold onMD; simp; done) | (unfold onMD; simp; omega))) ⟨(hw3.eqO (EqF.rf.ul (by simp [onO]))).set (y := (8, 0, 0, [], [], [])) (by rw [hph3]; exact hyn) rfl, by simpa [ul] using hg3, (hp2.tr (Pre.of2 hz3)).set (by omega), by simpa [ul] using ho3, by rw [← hphl1]; exact CmM.set (CmM.nil (by rw [hph3]; omega)) (mTh_date hpt3)⟩ rfl rfl rfl
            · refine x_last (a := (pH s1).length) rfl rfl rfl (by decide) (by omega) (by decide) ?_
              refine x_goto rfl rfl ?_
              exact q_flV (0, none) (f := f3) (rfl) (hS3.ul (by first | (unfold onMD; simp; done) | (unfold onMD; simp; omega))) (by first | exact hf3 | (rw [← hf3]; rfl) | simp [ui, ul, hf3]) (by omega) rfl rfl rfl
          · refine x_iconstN (b := 1) rfl rfl ?_
            refine x_goto rfl rfl ?_
            refine x_istore rfl rfl rfl rfl ?_
            refine x_iload rfl rfl rfl ?_
            refine x_if_eq rfl rfl (fun hc11 => absurd hc11 (by decide +kernel)) (fun _ => ?_)
            refine x_aload_n rfl rfl rfl ?_
            refine x_iload_n rfl rfl rfl ?_
            refine x_callVv (d2 := 0) (c_mstopT hG (nI (s0.1)) hw1.1.2.1) rfl rfl v_9_245 rfl rfl (by decide) rfl rfl (Nat.le_of_ble_eq_true rfl) (by omega) (by omega) ?_
            exact q_flV (0, none) (f := s0.1) (rhT_8x hc2 (by omega) (by omega) (by omega)) (hS1.ui (by first | (unfold onMD; simp; done) | (unfold onMD; simp; omega))) (by first | rfl | simp [ui, ul]) (by omega) rfl rfl rfl
        · refine x_aload_n rfl rfl rfl ?_
          refine x_iload_n rfl rfl rfl ?_
          refine x_callVv (d2 := 0) (c_mstopT hG (nI kp) hw1.1.2.1) rfl rfl v_9_245 rfl rfl (by decide) rfl rfl (Nat.le_of_ble_eq_true rfl) (by omega) (by omega) ?_
          exact q_flV (0, none) (f := kp) (rhT_f hc2 (by omega)) (hS1.ui (by first | (unfold onMD; simp; done) | (unfold onMD; simp; omega))) (by first | rfl | simp [ui, ul]) (by omega) rfl rfl rfl
    · refine x_iload rfl rfl rfl ?_
      refine x_iconstN (b := 2) rfl rfl ?_
      refine x_idivN (a := b1) (b := 2) (by omega) (by omega) (by omega) rfl rfl ?_
      refine x_aload_n rfl rfl rfl ?_
      refine x_getIv (v := nI ((pL s1).length)) hw1.2.2.1.1 rfl rfl f_9_211 rfl (by decide) rfl ?_
      refine x_icmpN_ge (by omega) (by omega) rfl rfl (fun hc12 => ?_) (fun hc12 => ?_)
      · refine x_iconstN (b := 0) rfl rfl ?_
        refine x_istore rfl rfl rfl rfl ?_
        refine x_iload rfl rfl rfl ?_
        refine x_if_eq rfl rfl (fun _ => ?_) (fun hc13 => absurd hc13 (by decide +kernel))
        refine x_aload_n rfl rfl rfl ?_
        refine x_iload_n rfl rfl rfl ?_
        refine x_callVv (d2 := 0) (c_mstopT hG (nI (s0.1)) hw1.1.2.1) rfl rfl v_9_245 rfl rfl (by decide) rfl rfl (Nat.le_of_ble_eq_true rfl) (by omega) (by omega) ?_
        exact q_flV (0, none) (f := s0.1) (by rw [rhT_k hc2]; unfold rKnown; rw [List.getElem?_eq_none (by omega)]; rfl) (hS1.ui (by first | (unfold onMD; simp; done) | (unfold onMD; simp; omega))) (by first | rfl | simp [ui, ul]) (by omega) rfl rfl rfl
      · obtain ⟨i, hj⟩ : ∃ i, (pL s1)[b1 / 2]? = some i := ⟨_, List.getElem?_eq_getElem (by omega)⟩
        have hil := hw1.2.2.2.1.2.2.2.2.2.1 i (at_mem hj)
        obtain ⟨x, hx⟩ : ∃ x, (pH s1)[i]? = some x := ⟨_, List.getElem?_eq_getElem hil⟩
        have hkd : kdAt s1 i = tK x := by unfold kdAt; rw [hx]
        have hk16 := hw1.2.2.2.1.2.2.2.2.2.2.2.1 x (at_mem hx)
        refine x_aload_n rfl rfl rfl ?_
        refine x_getR0 rfl rfl f_9_27 rfl (by decide) rfl rfl ?_
        refine x_aload_n rfl rfl rfl ?_
        refine x_getR0 rfl rfl f_9_60 rfl (by decide) rfl rfl ?_
        refine x_iload rfl rfl rfl ?_
        refine x_iconstN (b := 2) rfl rfl ?_
        refine x_idivN (a := b1) (b := 2) (by omega) (by omega) (by omega) rfl rfl ?_
        refine x_aload_n rfl rfl rfl ?_
        refine x_getIv (v := nI ((pL s1).length)) hw1.2.2.1.1 rfl rfl f_9_211 rfl (by decide) rfl ?_
        refine x_icmpN_ge (by omega) (by omega) rfl rfl (fun hc14 => absurd hc14 (by omega)) (fun hc14 => ?_)
        refine x_iload rfl rfl rfl ?_
        refine x_iconstN (b := 2) rfl rfl ?_
        refine x_idivN (a := b1) (b := 2) (by omega) (by omega) (by omega) rfl rfl ?_
        refine x_goto rfl rfl ?_
        refine x_ialdv (a := b1 / 2) (v := nI i) (hw1.2.2.1.2.1 _ _ hj) rfl rfl rfl (by decide) (by omega) (by decide) ?_
        refine x_ialdv (a := i) (v := nI (tK x)) (hw1.2.2.1.2.2.2.2.2.2.2.2.2.1 i x hx) rfl rfl rfl (by decide) (by omega) (by decide) ?_
        refine x_iload_n rfl rfl rfl ?_
        refine x_icmpN_ne (by omega) (by omega) rfl rfl (fun hc15 => ?_) (fun hc15 => ?_)
        · refine x_iconstN (b := 0) rfl rfl ?_
          refine x_istore rfl rfl rfl rfl ?_
          refine x_iload rfl rfl rfl ?_
          refine x_if_eq rfl rfl (fun _ => ?_) (fun hc16 => absurd hc16 (by decide +kernel))
          refine x_aload_n rfl rfl rfl ?_
          refine x_iload_n rfl rfl rfl ?_
          refine x_callVv (d2 := 0) (c_mstopT hG (nI (s0.1)) hw1.1.2.1) rfl rfl v_9_245 rfl rfl (by decide) rfl rfl (Nat.le_of_ble_eq_true rfl) (by omega) (by omega) ?_
          exact q_flV (0, none) (f := s0.1) (by rw [rhT_k hc2]; unfold rKnown; rw [hj]; dsimp only; rw [if_neg (by rw [hkd]; exact hc15)]; rfl) (hS1.ui (by first | (unfold onMD; simp; done) | (unfold onMD; simp; omega))) (by first | rfl | simp [ui, ul]) (by omega) rfl rfl rfl
        · refine x_iconstN (b := 1) rfl rfl ?_
          refine x_goto rfl rfl ?_
          refine x_istore rfl rfl rfl rfl ?_
          refine x_iload rfl rfl rfl ?_
          refine x_if_eq rfl rfl (fun hc17 => absurd hc17 (by decide +kernel)) (fun _ => ?_)
          refine x_aload_n rfl rfl rfl ?_
          refine x_aload_n rfl rfl rfl ?_
          refine x_aload_n rfl rfl rfl ?_
          refine x_getR0 rfl rfl f_9_60 rfl (by decide) rfl rfl ?_
          refine x_iload rfl rfl rfl ?_
          refine x_iconstN (b := 2) rfl rfl ?_
          refine x_idivN (a := b1) (b := 2) (by omega) (by omega) (by omega) rfl rfl ?_
          refine x_ialdv (a := b1 / 2) (v := nI i) (hw1.2.2.1.2.1 _ _ hj) rfl rfl rfl (by decide) (by omega) (by decide) ?_
          refine x_callVl (d2 := 0) (c_mvalueOf hG (i := i) (by omega)) rfl rfl v_9_138 rfl rfl (by decide) rfl rfl (Nat.le_of_ble_eq_true rfl) (by omega) (by omega) ?_
          refine x_putL rfl rfl f_9_255 rfl rfl (by decide) rfl ?_
          refine x_goto rfl rfl ?_
          exact q_retV (b := (16 * lN i + 7, none)) (s := s1) (by rw [rhT_k hc2]; unfold rKnown; rw [hj]; dsimp only; rw [if_pos (by rw [hkd]; exact hc15)]; rfl) (hS1.ul (by first | (unfold onMD; simp; done) | (unfold onMD; simp; omega))) ⟨hw1.eqO (EqF.rf.ul (by simp [onO])), by simp [ul], hp1, by simpa [ul] using ho1, CmM.nil (by rw [hph1]; exact Nat.le_refl _)⟩ rfl rfl rfl
  · refine x_istore rfl rfl rfl rfl ?_
    refine x_aload_n rfl rfl rfl ?_
    refine x_callVi (d2 := 0) (c_mgoesF hG (f := f1) hf1 (by omega)) rfl rfl v_9_238 rfl rfl (by decide) rfl rfl (Nat.le_of_ble_eq_true rfl) (by omega) (by omega) ?_
    refine x_if_ne rfl rfl (fun hc18 => absurd hc18 (by decide +kernel)) (fun _ => ?_)
    exact q_flV (0, none) (f := f1) (rfl) hS1 hf1 (by omega) rfl rfl rfl
set_option maxHeartbeats 4000000 in
set_option maxRecDepth 20000 in
theorem l_tby (hG : Gok G) (hd : 4 ≤ d) {row : List Nat} {al : List Int64} {s9 : RS} {kp np nn m H h : Nat} (hH : (pH s9).length = H) (hH4 : H < 40) (hm : m ≤ 8) (hh : h ≤ 12) {v : Int64} {M9 : Mm} : ∀ (n c : Nat), c + n = m → ∀ (acc : List Int64) (cv : Int64) (s0 : RS) (M : Mm), acc.length = c → RdM row al s0 M → Pre s9 s0 → (pH s0).length = H + 1 → (pH s0)[H]? = some (12, 0, 0, [], [], []) → MPt 12 m (-1) [] [] [] H M → M.2 (47, 0) H = cv → uN cv < 2 ^ (8 * c) → (∀ j v, acc[j]? = some v → uN cv / 2 ^ (8 * j) % 256 = uN (sh4 v)) → M.2 (40, 0) 38 = v → M.1 (40, 0) 28 = nI h → EqF (onMD h s9) M9 M → nn < 536870912 → FQ G mX9_takeThing d M9 (onMD h s9) (PHd row al h s9) vNo (rb (rBy row n acc s0) fun q => .inr ((v, none), setH H (12, 0, 0, q.1, [], []) q.2)) 328 [(0, .ref (ga G (40, 0))), (1, .int (nI 12)), (2, .int (nI kp)), (3, .int (nI np)), (4, .int (nI nn)), (5, .int (nI 0)), (6, .int (nI H)), (7, .int (nI c))] [] M := by
  intro n
  induction n with
  | zero =>
    intro c hc acc cv s0 M hal hw0 hp0 hph0 hy0 hpt0 hcv hcu hby hg0 ho0 hS0 hnn
    refine x_iload rfl rfl rfl ?_
    refine x_aload_n rfl rfl rfl ?_
    refine x_getR0 rfl rfl f_9_33 rfl (by decide) rfl rfl ?_
    refine x_iload rfl rfl rfl ?_
    refine x_ialdv (a := H) (v := nI m) hpt0.2.1 rfl rfl rfl (by decide) (by omega) (by decide) ?_
    refine x_icmpN_ge (by omega) (by omega) rfl rfl (fun hc1 => ?_) (fun hc1 => absurd hc1 (by omega))
    refine x_goto rfl rfl ?_
    exact q_retV (b := (v, none)) (s := setH H (12, 0, 0, acc, [], []) s0) rfl hS0 ⟨hw0.set (y := (12, 0, 0, [], [], [])) hy0 rfl, hg0, hp0.set (by omega), ho0, by rw [hH]; exact CmM.set (CmM.nil (by omega)) ⟨hpt0.1, by rw [show (tL ((12, 0, 0, acc, [], []) : Th)).length = m by show acc.length = m; omega]; exact hpt0.2.1, hpt0.2.2.1, hpt0.2.2.2.1, (fun k x h => by cases h), (fun k x h => by cases h), (fun h => absurd rfl h), (fun h => absurd h (show ¬ (12 : Nat) = 8 by decide)), (fun _ j w hw9 => by rw [hcv]; exact hby j w hw9), by show acc.length ≤ 8; omega, Nat.zero_le _, rfl, show (12 : Nat) < 16 by decide⟩⟩ rfl rfl rfl
  | succ n ih =>
    intro c hc acc cv s0 M hal hw0 hp0 hph0 hy0 hpt0 hcv hcu hby hg0 ho0 hS0 hnn
    have hL6 := hw0.2.2.2.2.2.2.1
    rw [show rBy row (n + 1) acc s0 = rb (rByte row s0) (fun q => rBy row n (acc ++ [16 * lN q.1 + 4]) q.2) from rfl, rb_assoc]
    refine x_iload rfl rfl rfl ?_
    refine x_aload_n rfl rfl rfl ?_
    refine x_getR0 rfl rfl f_9_33 rfl (by decide) rfl rfl ?_
    refine x_iload rfl rfl rfl ?_
    refine x_ialdv (a := H) (v := nI m) hpt0.2.1 rfl rfl rfl (by decide) (by omega) (by decide) ?_
    refine x_icmpN_ge (by omega) (by omega) rfl rfl (fun hc1 => absurd hc1 (by omega)) (fun hc1 => ?_)
    refine x_aload_n rfl rfl rfl ?_
    refine x_callVi (d2 := 0) (c_mgoesT hG hw0.1.2.1) rfl rfl v_9_238 rfl rfl (by decide) rfl rfl (Nat.le_of_ble_eq_true rfl) (by omega) (by omega) ?_
    refine x_if_eq rfl rfl (fun hc2 => absurd hc2 (by decide +kernel)) (fun _ => ?_)
    refine x_aload_n rfl rfl rfl ?_
    refine x_getR0 rfl rfl f_9_30 rfl (by decide) rfl rfl ?_
    refine x_iload rfl rfl rfl ?_
    refine x_aload_n rfl rfl rfl ?_
    refine x_getR0 rfl rfl f_9_30 rfl (by decide) rfl rfl ?_
    refine x_iload rfl rfl rfl ?_
    refine x_laldv (a := H) (v := cv) hcv rfl rfl rfl (by decide) (by omega) (by decide) ?_
    refine x_aload_n rfl rfl rfl ?_
    refine q_take (d := d) hG (by omega) hw0 hS0 (fun _ _ z => onMDA z) rfl rfl v_9_248 rfl (Nat.le_of_ble_eq_true rfl) (fun b1 s1 M1 e1 hw1 hE1 hS1 => ?_) (fun M1 e1 hf1 hS1 => ?_)
    · have hb1 := b256M hw1 e1
      have hz1 : s1.2.2 = s0.2.2 := by rw [(rByte_inr e1).1]
      have hph1 : pH s1 = pH s0 := by unfold pH; rw [hz1]
      refine x_i2lN (a := b1) (by omega) rfl rfl ?_
      refine x_bipush (v := nI 8) rfl rfl (by decide +kernel) ?_
      refine x_iload rfl rfl rfl ?_
      refine x_imulN (a := 8) (b := c) rfl rfl ?_
      refine x_lshl rfl rfl ?_
      refine x_lor rfl rfl ?_
      refine x_topL (v := orL cv b1 c) rfl ?_
      refine x_last (a := H) rfl rfl rfl (by decide) (by omega) (by decide) ?_
      refine x_iincN (a := c) (b := 1) rfl rfl rfl rfl rfl ?_
      refine x_goto rfl rfl ?_
      have hou := orL_uN7 (t := cv) hb1 (show c ≤ 7 by omega) hcu
      exact ih (c + 1) (by omega) (acc ++ [16 * lN b1 + 4]) (orL cv b1 c) s1 _ (by simp; omega) (hw1.eqO (EqF.rf.ul (by simp [onO]))) (hp0.tr (Pre.of2 hz1)) (by rw [hph1]; exact hph0) (by rw [hph1]; exact hy0) ((hpt0.eqM hE1 (fun r h1 => by unfold onMA; simp; omega) (fun j _ => by simp [onMA]) (fun r h1 j _ => by unfold onMA; simp; omega)).eqM (on := fun k _ => k.1 ≠ 47) (EqF.rf.ul (by simp)) (fun r h1 => by simp; omega) (fun j _ => by simp) (fun r h1 j _ => by simp; omega)) (by simp [ul]) (by_u hou hb1 hcu) (by_s hal hb1 hcu hou hby) (by simpa [ul] using (hE1 (40, 0) 38 (by simp [onMA])).2.trans hg0) (by simpa [ul] using (hE1 (40, 0) 28 (by simp [onMA])).1.trans ho0) (hS1.ul (by first | (unfold onMD; simp; done) | (unfold onMD; simp; omega))) hnn
    · refine x_i2lN (a := 0) (by omega) rfl rfl ?_
      refine x_bipush (v := nI 8) rfl rfl (by decide +kernel) ?_
      refine x_iload rfl rfl rfl ?_
      refine x_imulN (a := 8) (b := c) rfl rfl ?_
      refine x_lshl rfl rfl ?_
      refine x_lor rfl rfl ?_
      refine x_last (a := H) rfl rfl rfl (by decide) (by omega) (by decide) ?_
      refine x_iincN (a := c) (b := 1) rfl rfl rfl rfl rfl ?_
      refine x_goto rfl rfl ?_
      refine x_iload rfl rfl rfl ?_
      refine x_aload_n rfl rfl rfl ?_
      refine x_getR0 rfl rfl f_9_33 rfl (by decide) rfl rfl ?_
      refine x_iload rfl rfl rfl ?_
      refine x_ialdv (a := H) (v := M1.1 (48, 0) H) (by first | rfl | simp [ui, ul]) rfl rfl rfl (by decide) (by omega) (by decide) ?_
      refine x_icmp_ge rfl rfl (fun hc3 => ?_) (fun hc3 => ?_)
      · refine x_goto rfl rfl ?_
        exact q_flV (0, none) (f := row.length) (rfl) (hS1.ul (by first | (unfold onMD; simp; done) | (unfold onMD; simp; omega))) (by first | exact hf1 | (rw [← hf1]; rfl) | simp [ui, ul, hf1]) (by omega) rfl rfl rfl
      · refine x_aload_n rfl rfl rfl ?_
        refine x_callVi (d2 := 0) (c_mgoesF hG (f := row.length) (by first | exact hf1 | (rw [← hf1]; rfl) | simp [ui, ul, hf1]) (by omega)) rfl rfl v_9_238 rfl rfl (by decide) rfl rfl (Nat.le_of_ble_eq_true rfl) (by omega) (by omega) ?_
        refine x_if_eq rfl rfl (fun _ => ?_) (fun hc4 => absurd hc4 (by decide +kernel))
        refine x_goto rfl rfl ?_
        exact q_flV (0, none) (f := row.length) (rfl) (hS1.ul (by first | (unfold onMD; simp; done) | (unfold onMD; simp; omega))) (by first | exact hf1 | (rw [← hf1]; rfl) | simp [ui, ul, hf1]) (by omega) rfl rfl rfl
set_option maxHeartbeats 4000000 in
set_option maxRecDepth 20000 in
theorem c_mtakeThing_12 (hG : Gok G) (hd : 6 ≤ d) {row : List Nat} {al : List Int64} {s0 : RS} (hw0 : RdM row al s0 M) {h kp : Nat} (hh : h ≤ 12) (ho0 : M.1 (40, 0) 28 = nI h) (hkp : kp ≤ 600) : CQ G mX9_takeThing d [.ref (ga G (40, 0)), .int (nI 12), .int (nI kp)] M (onMD h s0) (PHd row al h s0) vNo (rb (rNum row s0) fun q => rhT row al h 12 kp s0.1 q.1 q.2) := by
  have hS0 : EqF (onMD h s0) M M := EqF.rf
  have hp0 : Pre s0 s0 := Pre.rf
  have hA0 := hw0.2.1.1
  have hL6 := hw0.2.2.2.2.2.2.1
  refine q_of hG okX9_takeThing (by decide +kernel) rfl (Nat.le_of_ble_eq_true rfl) ?_
  refine x_aload_n rfl rfl rfl ?_
  refine x_getIv (v := nI (s0.1)) hw0.1.1 rfl rfl f_9_242 rfl (by decide) rfl ?_
  refine x_istore_n rfl rfl rfl rfl ?_
  refine x_aload_n rfl rfl rfl ?_
  refine q_call (d2 := 3) (c_mtakeNumber hG (Nat.le_refl 3) hw0) hS0 (fun _ _ z => onMDA z) rfl rfl v_9_252 rfl rfl (by decide) rfl rfl (Nat.le_of_ble_eq_true rfl) (by omega) (fun b1 s1 M1 e1 hq1 hE1 hS1 => ?_) (fun f1 b1 M1 e1 hf1 hl1 hS1 => ?_)
  · have hw1 := hq1
    have hz1 : s1.2.2 = s0.2.2 := by rw [(rNumF_2 e1).1]
    have hn1 := rNum_lt hq1.2.2.2.2.2.2.2.1 e1
    have hph1 : pH s1 = pH s0 := by unfold pH; rw [hz1]
    have hphl1 : (pH s1).length = (pH s0).length := by rw [hph1]
    have hp1 := hp0.tr (Pre.of2 hz1)
    have hHH1 := hw1.2.2.2.1.2.2.1
    have hLH1 := hw1.2.2.2.1.2.2.2.2.1
    have hRL1 := hw1.2.2.2.1.2.2.2.1
    have ho1 : M1.1 (40, 0) 28 = nI h := (hE1 _ _ (by simp [onMA])).1.trans ho0
    dsimp only
    refine x_istore rfl rfl rfl rfl ?_
    refine x_aload_n rfl rfl rfl ?_
    refine x_callVi (d2 := 0) (c_mgoesT hG hw1.1.2.1) rfl rfl v_9_238 rfl rfl (by decide) rfl rfl (Nat.le_of_ble_eq_true rfl) (by omega) (by omega) ?_
    refine x_if_ne rfl rfl (fun _ => ?_) (fun hc1 => absurd hc1 (by decide +kernel))
    refine x_iload rfl rfl rfl ?_
    refine x_iconstN (b := 2) rfl rfl ?_
    refine x_iremN (a := b1) (b := 2) (by omega) (by omega) (by omega) rfl rfl ?_
    refine x_ifN_ne (by omega) rfl rfl (fun hc2 => ?_) (fun hc2 => ?_)
    · refine x_aload_n rfl rfl rfl ?_
      refine x_getIv (v := nI ((pH s1).length)) hw1.2.2.1.2.2.2.2.2.2.2.2.1 rfl rfl f_9_121 rfl (by decide) rfl ?_
      refine x_bipush (v := nI 40) rfl rfl (by decide +kernel) ?_
      refine x_icmpN_eq (by omega) (by omega) rfl rfl (fun hc3 => ?_) (fun hc3 => ?_)
      · refine x_aload_n rfl rfl rfl ?_
        refine x_iload_n rfl rfl rfl ?_
        refine x_callVv (d2 := 0) (c_mstopT hG (nI kp) hw1.1.2.1) rfl rfl v_9_245 rfl rfl (by decide) rfl rfl (Nat.le_of_ble_eq_true rfl) (by omega) (by omega) ?_
        exact q_flV (0, none) (f := kp) (rhT_f hc2 (by omega)) (hS1.ui (by first | (unfold onMD; simp; done) | (unfold onMD; simp; omega))) (by first | rfl | simp [ui, ul]) (by omega) rfl rfl rfl
      · refine x_aload_n rfl rfl rfl ?_
        refine x_getIv (v := nI h) ho1 rfl rfl f_9_196 rfl (by decide) rfl ?_
        refine x_bipush (v := nI 12) rfl rfl (by decide +kernel) ?_
        refine x_icmpN_ne (by omega) (by omega) rfl rfl (fun hc4 => ?_) (fun hc4 => ?_)
        · refine x_iload_n rfl rfl rfl ?_
          refine x_bipush (v := nI 8) rfl rfl (by decide +kernel) ?_
          refine x_icmpN_ne (by omega) (by omega) rfl rfl (fun hc5 => ?_) (fun hc5 => absurd hc5 (by omega))
          refine x_iload_n rfl rfl rfl ?_
          refine x_bipush (v := nI 10) rfl rfl (by decide +kernel) ?_
          refine x_icmpN_ne (by omega) (by omega) rfl rfl (fun hc6 => ?_) (fun hc6 => absurd hc6 (by omega))
          refine x_iload rfl rfl rfl ?_
          refine x_iconstN (b := 2) rfl rfl ?_
          refine x_idivN (a := b1) (b := 2) (by omega) (by omega) (by omega) rfl rfl ?_
          refine x_bipush (v := nI 8) rfl rfl (by decide +kernel) ?_
          refine x_icmpN_le (by omega) (by omega) rfl rfl (fun hc7 => ?_) (fun hc7 => ?_)
          · refine x_iconstN (b := 0) rfl rfl ?_
            refine x_istore rfl rfl rfl rfl ?_
            refine x_iload rfl rfl rfl ?_
            refine x_if_eq rfl rfl (fun _ => ?_) (fun hc8 => absurd hc8 (by decide +kernel))
            refine x_aload_n rfl rfl rfl ?_
            refine x_iload_n rfl rfl rfl ?_
            refine x_lconst (v := 0) rfl rfl (by decide +kernel) ?_
            refine x_iload_n rfl rfl rfl ?_
            refine x_bipush (v := nI 10) rfl rfl (by decide +kernel) ?_
            refine x_icmpN_eq (by omega) (by omega) rfl rfl (fun hc9 => absurd hc9 (by omega)) (fun hc9 => ?_)
            refine x_iload_n rfl rfl rfl ?_
            refine x_bipush (v := nI 8) rfl rfl (by decide +kernel) ?_
            refine x_icmpN_ne (by omega) (by omega) rfl rfl (fun hc10 => ?_) (fun hc10 => absurd hc10 (by omega))
            refine x_iload rfl rfl rfl ?_
            refine x_iconstN (b := 2) rfl rfl ?_
            refine x_idivN (a := b1) (b := 2) (by omega) (by omega) (by omega) rfl rfl ?_
            refine x_iconst (v := -1) rfl rfl (by decide +kernel) ?_
            refine x_callVi (d2 := 0) (c_mnewThing hG (nI 12) (nI (b1 / 2)) (-1) 0 hw1.2.2.1.2.2.2.2.2.2.2.2.1 (by omega)) rfl rfl v_9_134 rfl rfl (by decide) rfl rfl (Nat.le_of_ble_eq_true rfl) (by omega) (by omega) ?_
            refine x_istore rfl rfl rfl rfl ?_
            refine x_aload_n rfl rfl rfl ?_
            refine x_getR0 rfl rfl f_9_60 rfl (by decide) rfl rfl ?_
            refine x_aload_n rfl rfl rfl ?_
            refine x_getIv (v := nI ((pL s1).length)) (by first | exact hw1.2.2.1.1 | (rw [← hw1.2.2.1.1]; rfl) | simp [ui, ul, hw1.2.2.1.1]) rfl rfl f_9_211 rfl (by decide) rfl ?_
            refine x_iload rfl rfl rfl ?_
            refine x_iast (a := (pL s1).length) rfl rfl rfl (by decide) (by omega) (by decide) ?_
            refine x_aload_n rfl rfl rfl ?_
            refine x_dup rfl rfl rfl ?_
            refine x_getIv (v := nI ((pL s1).length)) (by first | exact hw1.2.2.1.1 | (rw [← hw1.2.2.1.1]; rfl) | simp [ui, ul, hw1.2.2.1.1]) rfl rfl f_9_211 rfl (by decide) rfl ?_
            refine x_iconstN (b := 1) rfl rfl ?_
            refine x_iaddN (a := (pL s1).length) (b := 1) rfl rfl ?_
            refine x_putI rfl rfl f_9_211 rfl rfl (by decide) rfl ?_
            refine x_aload_n rfl rfl rfl ?_
            refine x_aload_n rfl rfl rfl ?_
            refine x_iload rfl rfl rfl ?_
            refine x_callVl (d2 := 0) (c_mvalueOf hG (i := (pH s1).length) (by omega)) rfl rfl v_9_138 rfl rfl (by decide) rfl rfl (Nat.le_of_ble_eq_true rfl) (by omega) (by omega) ?_
            refine x_putL rfl rfl f_9_255 rfl rfl (by decide) rfl ?_
            obtain ⟨s2, es2⟩ : ∃ s2, s2 = newH 12 s1 := ⟨_, rfl⟩
            obtain ⟨M2, eM2⟩ : ∃ M2, M2 = (ul (ui (ui (ui (ul (ul (ul (ul (ul (ul (ul (ul (ui (ui (ui (ul (ui M1 (46, 0) ((pH s1).length) (nI 12)) (47, 0) ((pH s1).length) 0) (48, 0) ((pH s1).length) (nI (b1 / 2))) (49, 0) ((pH s1).length) ((-1))) (51, 0) ((pH s1).length) (nI 0)) (50, 0) (8 * (pH s1).length + 0) 0) (50, 0) (8 * (pH s1).length + 1) 0) (50, 0) (8 * (pH s1).length + 2) 0) (50, 0) (8 * (pH s1).length + 3) 0) (50, 0) (8 * (pH s1).length + 4) 0) (50, 0) (8 * (pH s1).length + 5) 0) (50, 0) (8 * (pH s1).length + 6) 0) (50, 0) (8 * (pH s1).length + 7) 0) (40, 0) 8 (nI ((pH s1).length + 1))) (57, 0) ((pL s1).length) (nI ((pH s1).length))) (40, 0) 24 (nI (((pL s1).length) + 1))) (40, 0) 38 (16 * lN ((pH s1).length) + 7)) := ⟨_, rfl⟩
            have hlt : (pH s1).length < 40 := by omega
            have hw2 : RdM row al s2 M2 := by rw [es2, eM2]; exact hw1.new hlt (by decide)
            have hpt2 : MPt 12 (b1 / 2) (-1) [] [] [] (pH s1).length M2 := by rw [eM2]; exact MPt.new
            have hS2 : EqF (onMD h s0) M M2 := by rw [eM2]; exact hS1.tr (eqM_new.sub fun k j z => onMD_new hphl1 z)
            have ho2 : M2.1 (40, 0) 28 = nI h := by rw [eM2]; exact (eqM_new (40, 0) 28 (by simp)).1.trans ho1
            have hg2 : M2.2 (40, 0) 38 = 16 * lN (pH s1).length + 7 := by rw [eM2]; simp [ul]
            have hp2 : Pre s0 s2 := by rw [es2]; exact hp1.tr Pre.new
            have hphn : (pH s2).length = (pH s1).length + 1 := by rw [es2]; exact newH_len _ _
            have hyn : (pH s2)[(pH s1).length]? = some (12, 0, 0, [], [], []) := by rw [es2]; exact newH_at _ _
            have hRLn : (pR s2).length < (pL s2).length := by rw [es2]; show (pR s1).length < (pL s1 ++ [(pH s1).length]).length; simp; omega
            have hpRn : pR s2 = pR s1 := by rw [es2]; rfl
            refine x_eq (M2 := M2) ?_ rfl rfl eM2.symm
            rw [rhT_12 hc2 (by omega) (by omega) (by omega), ← es2]
            refine x_iload_n rfl rfl rfl ?_
            refine x_bipush (v := nI 8) rfl rfl (by decide +kernel) ?_
            refine x_icmpN_ne (by omega) (by omega) rfl rfl (fun hc11 => ?_) (fun hc11 => absurd hc11 (by omega))
            refine x_iload_n rfl rfl rfl ?_
            refine x_bipush (v := nI 12) rfl rfl (by decide +kernel) ?_
            refine x_icmpN_ne (by omega) (by omega) rfl rfl (fun hc12 => absurd hc12 (by omega)) (fun hc12 => ?_)
            refine x_iconstN (b := 0) rfl rfl ?_
            refine x_istore rfl rfl rfl rfl ?_
            exact l_tby hG (by omega) (s9 := s0) (H := (pH s1).length) hphl1.symm (by omega) (by omega) hh _ 0 (Nat.zero_add _) [] 0 s2 M2 rfl hw2 hp2 hphn hyn hpt2 (by rw [eM2]; simp [ui, ul]) (by decide +kernel) (fun j v hv => by cases hv) hg2 ho2 hS2 (by omega)
          · refine x_iconstN (b := 1) rfl rfl ?_
            refine x_goto rfl rfl ?_
            refine x_istore rfl rfl rfl rfl ?_
            refine x_iload rfl rfl rfl ?_
            refine x_if_eq rfl rfl (fun hc13 => absurd hc13 (by decide +kernel)) (fun _ => ?_)
            refine x_aload_n rfl rfl rfl ?_
            refine x_iload_n rfl rfl rfl ?_
            refine x_callVv (d2 := 0) (c_mstopT hG (nI (s0.1)) hw1.1.2.1) rfl rfl v_9_245 rfl rfl (by decide) rfl rfl (Nat.le_of_ble_eq_true rfl) (by omega) (by omega) ?_
            exact q_flV (0, none) (f := s0.1) (rhT_12x hc2 (by omega) (by omega) (by omega)) (hS1.ui (by first | (unfold onMD; simp; done) | (unfold onMD; simp; omega))) (by first | rfl | simp [ui, ul]) (by omega) rfl rfl rfl
        · refine x_aload_n rfl rfl rfl ?_
          refine x_iload_n rfl rfl rfl ?_
          refine x_callVv (d2 := 0) (c_mstopT hG (nI kp) hw1.1.2.1) rfl rfl v_9_245 rfl rfl (by decide) rfl rfl (Nat.le_of_ble_eq_true rfl) (by omega) (by omega) ?_
          exact q_flV (0, none) (f := kp) (rhT_f hc2 (by omega)) (hS1.ui (by first | (unfold onMD; simp; done) | (unfold onMD; simp; omega))) (by first | rfl | simp [ui, ul]) (by omega) rfl rfl rfl
    · refine x_iload rfl rfl rfl ?_
      refine x_iconstN (b := 2) rfl rfl ?_
      refine x_idivN (a := b1) (b := 2) (by omega) (by omega) (by omega) rfl rfl ?_
      refine x_aload_n rfl rfl rfl ?_
      refine x_getIv (v := nI ((pL s1).length)) hw1.2.2.1.1 rfl rfl f_9_211 rfl (by decide) rfl ?_
      refine x_icmpN_ge (by omega) (by omega) rfl rfl (fun hc14 => ?_) (fun hc14 => ?_)
      · refine x_iconstN (b := 0) rfl rfl ?_
        refine x_istore rfl rfl rfl rfl ?_
        refine x_iload rfl rfl rfl ?_
        refine x_if_eq rfl rfl (fun _ => ?_) (fun hc15 => absurd hc15 (by decide +kernel))
        refine x_aload_n rfl rfl rfl ?_
        refine x_iload_n rfl rfl rfl ?_
        refine x_callVv (d2 := 0) (c_mstopT hG (nI (s0.1)) hw1.1.2.1) rfl rfl v_9_245 rfl rfl (by decide) rfl rfl (Nat.le_of_ble_eq_true rfl) (by omega) (by omega) ?_
        exact q_flV (0, none) (f := s0.1) (by rw [rhT_k hc2]; unfold rKnown; rw [List.getElem?_eq_none (by omega)]; rfl) (hS1.ui (by first | (unfold onMD; simp; done) | (unfold onMD; simp; omega))) (by first | rfl | simp [ui, ul]) (by omega) rfl rfl rfl
      · obtain ⟨i, hj⟩ : ∃ i, (pL s1)[b1 / 2]? = some i := ⟨_, List.getElem?_eq_getElem (by omega)⟩
        have hil := hw1.2.2.2.1.2.2.2.2.2.1 i (at_mem hj)
        obtain ⟨x, hx⟩ : ∃ x, (pH s1)[i]? = some x := ⟨_, List.getElem?_eq_getElem hil⟩
        have hkd : kdAt s1 i = tK x := by unfold kdAt; rw [hx]
        have hk16 := hw1.2.2.2.1.2.2.2.2.2.2.2.1 x (at_mem hx)
        refine x_aload_n rfl rfl rfl ?_
        refine x_getR0 rfl rfl f_9_27 rfl (by decide) rfl rfl ?_
        refine x_aload_n rfl rfl rfl ?_
        refine x_getR0 rfl rfl f_9_60 rfl (by decide) rfl rfl ?_
        refine x_iload rfl rfl rfl ?_
        refine x_iconstN (b := 2) rfl rfl ?_
        refine x_idivN (a := b1) (b := 2) (by omega) (by omega) (by omega) rfl rfl ?_
        refine x_aload_n rfl rfl rfl ?_
        refine x_getIv (v := nI ((pL s1).length)) hw1.2.2.1.1 rfl rfl f_9_211 rfl (by decide) rfl ?_
        refine x_icmpN_ge (by omega) (by omega) rfl rfl (fun hc16 => absurd hc16 (by omega)) (fun hc16 => ?_)
        refine x_iload rfl rfl rfl ?_
        refine x_iconstN (b := 2) rfl rfl ?_
        refine x_idivN (a := b1) (b := 2) (by omega) (by omega) (by omega) rfl rfl ?_
        refine x_goto rfl rfl ?_
        refine x_ialdv (a := b1 / 2) (v := nI i) (hw1.2.2.1.2.1 _ _ hj) rfl rfl rfl (by decide) (by omega) (by decide) ?_
        refine x_ialdv (a := i) (v := nI (tK x)) (hw1.2.2.1.2.2.2.2.2.2.2.2.2.1 i x hx) rfl rfl rfl (by decide) (by omega) (by decide) ?_
        refine x_iload_n rfl rfl rfl ?_
        refine x_icmpN_ne (by omega) (by omega) rfl rfl (fun hc17 => ?_) (fun hc17 => ?_)
        · refine x_iconstN (b := 0) rfl rfl ?_
          refine x_istore rfl rfl rfl rfl ?_
          refine x_iload rfl rfl rfl ?_
          refine x_if_eq rfl rfl (fun _ => ?_) (fun hc18 => absurd hc18 (by decide +kernel))
          refine x_aload_n rfl rfl rfl ?_
          refine x_iload_n rfl rfl rfl ?_
          refine x_callVv (d2 := 0) (c_mstopT hG (nI (s0.1)) hw1.1.2.1) rfl rfl v_9_245 rfl rfl (by decide) rfl rfl (Nat.le_of_ble_eq_true rfl) (by omega) (by omega) ?_
          exact q_flV (0, none) (f := s0.1) (by rw [rhT_k hc2]; unfold rKnown; rw [hj]; dsimp only; rw [if_neg (by rw [hkd]; exact hc17)]; rfl) (hS1.ui (by first | (unfold onMD; simp; done) | (unfold onMD; simp; omega))) (by first | rfl | simp [ui, ul]) (by omega) rfl rfl rfl
        · refine x_iconstN (b := 1) rfl rfl ?_
          refine x_goto rfl rfl ?_
          refine x_istore rfl rfl rfl rfl ?_
          refine x_iload rfl rfl rfl ?_
          refine x_if_eq rfl rfl (fun hc19 => absurd hc19 (by decide +kernel)) (fun _ => ?_)
          refine x_aload_n rfl rfl rfl ?_
          refine x_aload_n rfl rfl rfl ?_
          refine x_aload_n rfl rfl rfl ?_
          refine x_getR0 rfl rfl f_9_60 rfl (by decide) rfl rfl ?_
          refine x_iload rfl rfl rfl ?_
          refine x_iconstN (b := 2) rfl rfl ?_
          refine x_idivN (a := b1) (b := 2) (by omega) (by omega) (by omega) rfl rfl ?_
          refine x_ialdv (a := b1 / 2) (v := nI i) (hw1.2.2.1.2.1 _ _ hj) rfl rfl rfl (by decide) (by omega) (by decide) ?_
          refine x_callVl (d2 := 0) (c_mvalueOf hG (i := i) (by omega)) rfl rfl v_9_138 rfl rfl (by decide) rfl rfl (Nat.le_of_ble_eq_true rfl) (by omega) (by omega) ?_
          refine x_putL rfl rfl f_9_255 rfl rfl (by decide) rfl ?_
          refine x_goto rfl rfl ?_
          exact q_retV (b := (16 * lN i + 7, none)) (s := s1) (by rw [rhT_k hc2]; unfold rKnown; rw [hj]; dsimp only; rw [if_pos (by rw [hkd]; exact hc17)]; rfl) (hS1.ul (by first | (unfold onMD; simp; done) | (unfold onMD; simp; omega))) ⟨hw1.eqO (EqF.rf.ul (by simp [onO])), by simp [ul], hp1, by simpa [ul] using ho1, CmM.nil (by rw [hph1]; exact Nat.le_refl _)⟩ rfl rfl rfl
  · refine x_istore rfl rfl rfl rfl ?_
    refine x_aload_n rfl rfl rfl ?_
    refine x_callVi (d2 := 0) (c_mgoesF hG (f := f1) hf1 (by omega)) rfl rfl v_9_238 rfl rfl (by decide) rfl rfl (Nat.le_of_ble_eq_true rfl) (by omega) (by omega) ?_
    refine x_if_ne rfl rfl (fun hc20 => absurd hc20 (by decide +kernel)) (fun _ => ?_)
    exact q_flV (0, none) (f := f1) (rfl) hS1 hf1 (by omega) rfl rfl rfl
set_option maxHeartbeats 4000000 in
set_option maxRecDepth 20000 in
theorem c_mtakeThing_9 (hG : Gok G) (hd : 6 ≤ d) {row : List Nat} {al : List Int64} {s0 : RS} (hw0 : RdM row al s0 M) {h kp : Nat} (hh : h ≤ 12) (ho0 : M.1 (40, 0) 28 = nI h) (hkp : kp ≤ 600) : CQ G mX9_takeThing d [.ref (ga G (40, 0)), .int (nI 9), .int (nI kp)] M (onMD h s0) (PHd row al h s0) vNo (rb (rNum row s0) fun q => rhT row al h 9 kp s0.1 q.1 q.2) := by
  have hS0 : EqF (onMD h s0) M M := EqF.rf
  have hp0 : Pre s0 s0 := Pre.rf
  have hA0 := hw0.2.1.1
  have hL6 := hw0.2.2.2.2.2.2.1
  refine q_of hG okX9_takeThing (by decide +kernel) rfl (Nat.le_of_ble_eq_true rfl) ?_
  refine x_aload_n rfl rfl rfl ?_
  refine x_getIv (v := nI (s0.1)) hw0.1.1 rfl rfl f_9_242 rfl (by decide) rfl ?_
  refine x_istore_n rfl rfl rfl rfl ?_
  refine x_aload_n rfl rfl rfl ?_
  refine q_call (d2 := 3) (c_mtakeNumber hG (Nat.le_refl 3) hw0) hS0 (fun _ _ z => onMDA z) rfl rfl v_9_252 rfl rfl (by decide) rfl rfl (Nat.le_of_ble_eq_true rfl) (by omega) (fun b1 s1 M1 e1 hq1 hE1 hS1 => ?_) (fun f1 b1 M1 e1 hf1 hl1 hS1 => ?_)
  · have hw1 := hq1
    have hz1 : s1.2.2 = s0.2.2 := by rw [(rNumF_2 e1).1]
    have hn1 := rNum_lt hq1.2.2.2.2.2.2.2.1 e1
    have hph1 : pH s1 = pH s0 := by unfold pH; rw [hz1]
    have hphl1 : (pH s1).length = (pH s0).length := by rw [hph1]
    have hp1 := hp0.tr (Pre.of2 hz1)
    have hHH1 := hw1.2.2.2.1.2.2.1
    have hLH1 := hw1.2.2.2.1.2.2.2.2.1
    have hRL1 := hw1.2.2.2.1.2.2.2.1
    have ho1 : M1.1 (40, 0) 28 = nI h := (hE1 _ _ (by simp [onMA])).1.trans ho0
    dsimp only
    refine x_istore rfl rfl rfl rfl ?_
    refine x_aload_n rfl rfl rfl ?_
    refine x_callVi (d2 := 0) (c_mgoesT hG hw1.1.2.1) rfl rfl v_9_238 rfl rfl (by decide) rfl rfl (Nat.le_of_ble_eq_true rfl) (by omega) (by omega) ?_
    refine x_if_ne rfl rfl (fun _ => ?_) (fun hc1 => absurd hc1 (by decide +kernel))
    refine x_iload rfl rfl rfl ?_
    refine x_iconstN (b := 2) rfl rfl ?_
    refine x_iremN (a := b1) (b := 2) (by omega) (by omega) (by omega) rfl rfl ?_
    refine x_ifN_ne (by omega) rfl rfl (fun hc2 => ?_) (fun hc2 => ?_)
    · refine x_aload_n rfl rfl rfl ?_
      refine x_getIv (v := nI ((pH s1).length)) hw1.2.2.1.2.2.2.2.2.2.2.2.1 rfl rfl f_9_121 rfl (by decide) rfl ?_
      refine x_bipush (v := nI 40) rfl rfl (by decide +kernel) ?_
      refine x_icmpN_eq (by omega) (by omega) rfl rfl (fun hc3 => ?_) (fun hc3 => ?_)
      · refine x_aload_n rfl rfl rfl ?_
        refine x_iload_n rfl rfl rfl ?_
        refine x_callVv (d2 := 0) (c_mstopT hG (nI kp) hw1.1.2.1) rfl rfl v_9_245 rfl rfl (by decide) rfl rfl (Nat.le_of_ble_eq_true rfl) (by omega) (by omega) ?_
        exact q_flV (0, none) (f := kp) (rhT_f hc2 (by omega)) (hS1.ui (by first | (unfold onMD; simp; done) | (unfold onMD; simp; omega))) (by first | rfl | simp [ui, ul]) (by omega) rfl rfl rfl
      · refine x_aload_n rfl rfl rfl ?_
        refine x_getIv (v := nI h) ho1 rfl rfl f_9_196 rfl (by decide) rfl ?_
        refine x_bipush (v := nI 12) rfl rfl (by decide +kernel) ?_
        refine x_icmpN_ne (by omega) (by omega) rfl rfl (fun hc4 => ?_) (fun hc4 => ?_)
        · refine x_iload_n rfl rfl rfl ?_
          refine x_bipush (v := nI 8) rfl rfl (by decide +kernel) ?_
          refine x_icmpN_ne (by omega) (by omega) rfl rfl (fun hc5 => ?_) (fun hc5 => absurd hc5 (by omega))
          refine x_iload_n rfl rfl rfl ?_
          refine x_bipush (v := nI 10) rfl rfl (by decide +kernel) ?_
          refine x_icmpN_ne (by omega) (by omega) rfl rfl (fun hc6 => ?_) (fun hc6 => absurd hc6 (by omega))
          refine x_iload rfl rfl rfl ?_
          refine x_iconstN (b := 2) rfl rfl ?_
          refine x_idivN (a := b1) (b := 2) (by omega) (by omega) (by omega) rfl rfl ?_
          refine x_bipush (v := nI 8) rfl rfl (by decide +kernel) ?_
          refine x_icmpN_le (by omega) (by omega) rfl rfl (fun hc7 => ?_) (fun hc7 => ?_)
          · refine x_iconstN (b := 0) rfl rfl ?_
            refine x_istore rfl rfl rfl rfl ?_
            refine x_iload rfl rfl rfl ?_
            refine x_if_eq rfl rfl (fun _ => ?_) (fun hc8 => absurd hc8 (by decide +kernel))
            refine x_aload_n rfl rfl rfl ?_
            refine x_iload_n rfl rfl rfl ?_
            refine x_lconst (v := 0) rfl rfl (by decide +kernel) ?_
            refine x_iload_n rfl rfl rfl ?_
            refine x_bipush (v := nI 10) rfl rfl (by decide +kernel) ?_
            refine x_icmpN_eq (by omega) (by omega) rfl rfl (fun hc9 => absurd hc9 (by omega)) (fun hc9 => ?_)
            refine x_iload_n rfl rfl rfl ?_
            refine x_bipush (v := nI 8) rfl rfl (by decide +kernel) ?_
            refine x_icmpN_ne (by omega) (by omega) rfl rfl (fun hc10 => ?_) (fun hc10 => absurd hc10 (by omega))
            refine x_iload rfl rfl rfl ?_
            refine x_iconstN (b := 2) rfl rfl ?_
            refine x_idivN (a := b1) (b := 2) (by omega) (by omega) (by omega) rfl rfl ?_
            refine x_iconst (v := -1) rfl rfl (by decide +kernel) ?_
            refine x_callVi (d2 := 0) (c_mnewThing hG (nI 9) (nI (b1 / 2)) (-1) 0 hw1.2.2.1.2.2.2.2.2.2.2.2.1 (by omega)) rfl rfl v_9_134 rfl rfl (by decide) rfl rfl (Nat.le_of_ble_eq_true rfl) (by omega) (by omega) ?_
            refine x_istore rfl rfl rfl rfl ?_
            refine x_aload_n rfl rfl rfl ?_
            refine x_getR0 rfl rfl f_9_60 rfl (by decide) rfl rfl ?_
            refine x_aload_n rfl rfl rfl ?_
            refine x_getIv (v := nI ((pL s1).length)) (by first | exact hw1.2.2.1.1 | (rw [← hw1.2.2.1.1]; rfl) | simp [ui, ul, hw1.2.2.1.1]) rfl rfl f_9_211 rfl (by decide) rfl ?_
            refine x_iload rfl rfl rfl ?_
            refine x_iast (a := (pL s1).length) rfl rfl rfl (by decide) (by omega) (by decide) ?_
            refine x_aload_n rfl rfl rfl ?_
            refine x_dup rfl rfl rfl ?_
            refine x_getIv (v := nI ((pL s1).length)) (by first | exact hw1.2.2.1.1 | (rw [← hw1.2.2.1.1]; rfl) | simp [ui, ul, hw1.2.2.1.1]) rfl rfl f_9_211 rfl (by decide) rfl ?_
            refine x_iconstN (b := 1) rfl rfl ?_
            refine x_iaddN (a := (pL s1).length) (b := 1) rfl rfl ?_
            refine x_putI rfl rfl f_9_211 rfl rfl (by decide) rfl ?_
            refine x_aload_n rfl rfl rfl ?_
            refine x_aload_n rfl rfl rfl ?_
            refine x_iload rfl rfl rfl ?_
            refine x_callVl (d2 := 0) (c_mvalueOf hG (i := (pH s1).length) (by omega)) rfl rfl v_9_138 rfl rfl (by decide) rfl rfl (Nat.le_of_ble_eq_true rfl) (by omega) (by omega) ?_
            refine x_putL rfl rfl f_9_255 rfl rfl (by decide) rfl ?_
            obtain ⟨s2, es2⟩ : ∃ s2, s2 = newH 9 s1 := ⟨_, rfl⟩
            obtain ⟨M2, eM2⟩ : ∃ M2, M2 = (ul (ui (ui (ui (ul (ul (ul (ul (ul (ul (ul (ul (ui (ui (ui (ul (ui M1 (46, 0) ((pH s1).length) (nI 9)) (47, 0) ((pH s1).length) 0) (48, 0) ((pH s1).length) (nI (b1 / 2))) (49, 0) ((pH s1).length) ((-1))) (51, 0) ((pH s1).length) (nI 0)) (50, 0) (8 * (pH s1).length + 0) 0) (50, 0) (8 * (pH s1).length + 1) 0) (50, 0) (8 * (pH s1).length + 2) 0) (50, 0) (8 * (pH s1).length + 3) 0) (50, 0) (8 * (pH s1).length + 4) 0) (50, 0) (8 * (pH s1).length + 5) 0) (50, 0) (8 * (pH s1).length + 6) 0) (50, 0) (8 * (pH s1).length + 7) 0) (40, 0) 8 (nI ((pH s1).length + 1))) (57, 0) ((pL s1).length) (nI ((pH s1).length))) (40, 0) 24 (nI (((pL s1).length) + 1))) (40, 0) 38 (16 * lN ((pH s1).length) + 7)) := ⟨_, rfl⟩
            have hlt : (pH s1).length < 40 := by omega
            have hw2 : RdM row al s2 M2 := by rw [es2, eM2]; exact hw1.new hlt (by decide)
            have hpt2 : MPt 9 (b1 / 2) (-1) [] [] [] (pH s1).length M2 := by rw [eM2]; exact MPt.new
            have hS2 : EqF (onMD h s0) M M2 := by rw [eM2]; exact hS1.tr (eqM_new.sub fun k j z => onMD_new hphl1 z)
            have ho2 : M2.1 (40, 0) 28 = nI h := by rw [eM2]; exact (eqM_new (40, 0) 28 (by simp)).1.trans ho1
            have hg2 : M2.2 (40, 0) 38 = 16 * lN (pH s1).length + 7 := by rw [eM2]; simp [ul]
            have hp2 : Pre s0 s2 := by rw [es2]; exact hp1.tr Pre.new
            have hphn : (pH s2).length = (pH s1).length + 1 := by rw [es2]; exact newH_len _ _
            have hyn : (pH s2)[(pH s1).length]? = some (9, 0, 0, [], [], []) := by rw [es2]; exact newH_at _ _
            have hRLn : (pR s2).length < (pL s2).length := by rw [es2]; show (pR s1).length < (pL s1 ++ [(pH s1).length]).length; simp; omega
            have hpRn : pR s2 = pR s1 := by rw [es2]; rfl
            refine x_eq (M2 := M2) ?_ rfl rfl eM2.symm
            rw [rhT_9 hc2 (by omega) (by omega) (by omega), ← es2]
            refine x_iload_n rfl rfl rfl ?_
            refine x_bipush (v := nI 8) rfl rfl (by decide +kernel) ?_
            refine x_icmpN_ne (by omega) (by omega) rfl rfl (fun hc11 => ?_) (fun hc11 => absurd hc11 (by omega))
            refine x_iload_n rfl rfl rfl ?_
            refine x_bipush (v := nI 12) rfl rfl (by decide +kernel) ?_
            refine x_icmpN_ne (by omega) (by omega) rfl rfl (fun hc12 => ?_) (fun hc12 => absurd hc12 (by omega))
            refine x_iload_n rfl rfl rfl ?_
            refine x_bipush (v := nI 10) rfl rfl (by decide +kernel) ?_
            refine x_icmpN_ne (by omega) (by omega) rfl rfl (fun hc13 => ?_) (fun hc13 => absurd hc13 (by omega))
            refine x_aload_n rfl rfl rfl ?_
            refine x_callVi (d2 := 0) (c_mgoesT hG hw2.1.2.1) rfl rfl v_9_238 rfl rfl (by decide) rfl rfl (Nat.le_of_ble_eq_true rfl) (by omega) (by omega) ?_
            refine x_if_eq rfl rfl (fun hc14 => absurd hc14 (by decide +kernel)) (fun _ => ?_)
            refine x_aload_n rfl rfl rfl ?_
            refine x_iload rfl rfl rfl ?_
            refine x_callVv (d2 := 2) (c_mpush9 hG (Nat.le_refl 2) ho2 (by omega) hw2.2.2.1.2.2.2.2.2.2.2.2.1 (by omega) (by omega) hpt2.1) rfl rfl v_9_214 rfl rfl (by decide) rfl rfl (Nat.le_of_ble_eq_true rfl) (by omega) (by omega) ?_
            exact q_retV rfl (((((hS2.ui (by first | (unfold onMD; simp; done) | (unfold onMD; simp; omega))).ui (by first | (unfold onMD; simp; done) | (unfold onMD; simp; omega))).ui (by first | (unfold onMD; simp; done) | (unfold onMD; simp; omega))).ui (by first | (unfold onMD; simp; done) | (unfold onMD; simp; omega))).ui (by first | (unfold onMD; simp; done) | (unfold onMD; simp; omega))) ⟨hw2.eqO ((((((EqF.rf.ui (by simp [onO])).ui (by simp [onO])).ui (by simp [onO])).ui (by simp [onO])).ui (by simp [onO]))), by simpa [ui] using hg2, hp2, ⟨hphl1, hyn, hphn, by omega, Or.inl rfl, by show b1 / 2 ≤ 8; omega, fun z => absurd z (show ¬ (9 : Nat) = 10 by decide), hpt2.eqM (on := fun k _ => k.1 ≠ 40 ∧ ¬ (59 ≤ k.1 ∧ k.1 ≤ 62)) ((((((EqF.rf.ui (by simp)).ui (by simp)).ui (by simp)).ui (by simp)).ui (by simp))) (fun r h1 => by simp; omega) (fun j _ => by simp) (fun r h1 j _ => by simp; omega), by simp [ui], by simp [ui], by simp [ui], by simp [ui], by rw [bI_f (fun z => absurd z.1 (show ¬ (9 : Nat) = 10 by decide))]; simp [ui]⟩⟩ rfl rfl rfl
          · refine x_iconstN (b := 1) rfl rfl ?_
            refine x_goto rfl rfl ?_
            refine x_istore rfl rfl rfl rfl ?_
            refine x_iload rfl rfl rfl ?_
            refine x_if_eq rfl rfl (fun hc15 => absurd hc15 (by decide +kernel)) (fun _ => ?_)
            refine x_aload_n rfl rfl rfl ?_
            refine x_iload_n rfl rfl rfl ?_
            refine x_callVv (d2 := 0) (c_mstopT hG (nI (s0.1)) hw1.1.2.1) rfl rfl v_9_245 rfl rfl (by decide) rfl rfl (Nat.le_of_ble_eq_true rfl) (by omega) (by omega) ?_
            exact q_flV (0, none) (f := s0.1) (rhT_9x hc2 (by omega) (by omega) (by omega)) (hS1.ui (by first | (unfold onMD; simp; done) | (unfold onMD; simp; omega))) (by first | rfl | simp [ui, ul]) (by omega) rfl rfl rfl
        · refine x_aload_n rfl rfl rfl ?_
          refine x_iload_n rfl rfl rfl ?_
          refine x_callVv (d2 := 0) (c_mstopT hG (nI kp) hw1.1.2.1) rfl rfl v_9_245 rfl rfl (by decide) rfl rfl (Nat.le_of_ble_eq_true rfl) (by omega) (by omega) ?_
          exact q_flV (0, none) (f := kp) (rhT_f hc2 (by omega)) (hS1.ui (by first | (unfold onMD; simp; done) | (unfold onMD; simp; omega))) (by first | rfl | simp [ui, ul]) (by omega) rfl rfl rfl
    · refine x_iload rfl rfl rfl ?_
      refine x_iconstN (b := 2) rfl rfl ?_
      refine x_idivN (a := b1) (b := 2) (by omega) (by omega) (by omega) rfl rfl ?_
      refine x_aload_n rfl rfl rfl ?_
      refine x_getIv (v := nI ((pL s1).length)) hw1.2.2.1.1 rfl rfl f_9_211 rfl (by decide) rfl ?_
      refine x_icmpN_ge (by omega) (by omega) rfl rfl (fun hc16 => ?_) (fun hc16 => ?_)
      · refine x_iconstN (b := 0) rfl rfl ?_
        refine x_istore rfl rfl rfl rfl ?_
        refine x_iload rfl rfl rfl ?_
        refine x_if_eq rfl rfl (fun _ => ?_) (fun hc17 => absurd hc17 (by decide +kernel))
        refine x_aload_n rfl rfl rfl ?_
        refine x_iload_n rfl rfl rfl ?_
        refine x_callVv (d2 := 0) (c_mstopT hG (nI (s0.1)) hw1.1.2.1) rfl rfl v_9_245 rfl rfl (by decide) rfl rfl (Nat.le_of_ble_eq_true rfl) (by omega) (by omega) ?_
        exact q_flV (0, none) (f := s0.1) (by rw [rhT_k hc2]; unfold rKnown; rw [List.getElem?_eq_none (by omega)]; rfl) (hS1.ui (by first | (unfold onMD; simp; done) | (unfold onMD; simp; omega))) (by first | rfl | simp [ui, ul]) (by omega) rfl rfl rfl
      · obtain ⟨i, hj⟩ : ∃ i, (pL s1)[b1 / 2]? = some i := ⟨_, List.getElem?_eq_getElem (by omega)⟩
        have hil := hw1.2.2.2.1.2.2.2.2.2.1 i (at_mem hj)
        obtain ⟨x, hx⟩ : ∃ x, (pH s1)[i]? = some x := ⟨_, List.getElem?_eq_getElem hil⟩
        have hkd : kdAt s1 i = tK x := by unfold kdAt; rw [hx]
        have hk16 := hw1.2.2.2.1.2.2.2.2.2.2.2.1 x (at_mem hx)
        refine x_aload_n rfl rfl rfl ?_
        refine x_getR0 rfl rfl f_9_27 rfl (by decide) rfl rfl ?_
        refine x_aload_n rfl rfl rfl ?_
        refine x_getR0 rfl rfl f_9_60 rfl (by decide) rfl rfl ?_
        refine x_iload rfl rfl rfl ?_
        refine x_iconstN (b := 2) rfl rfl ?_
        refine x_idivN (a := b1) (b := 2) (by omega) (by omega) (by omega) rfl rfl ?_
        refine x_aload_n rfl rfl rfl ?_
        refine x_getIv (v := nI ((pL s1).length)) hw1.2.2.1.1 rfl rfl f_9_211 rfl (by decide) rfl ?_
        refine x_icmpN_ge (by omega) (by omega) rfl rfl (fun hc18 => absurd hc18 (by omega)) (fun hc18 => ?_)
        refine x_iload rfl rfl rfl ?_
        refine x_iconstN (b := 2) rfl rfl ?_
        refine x_idivN (a := b1) (b := 2) (by omega) (by omega) (by omega) rfl rfl ?_
        refine x_goto rfl rfl ?_
        refine x_ialdv (a := b1 / 2) (v := nI i) (hw1.2.2.1.2.1 _ _ hj) rfl rfl rfl (by decide) (by omega) (by decide) ?_
        refine x_ialdv (a := i) (v := nI (tK x)) (hw1.2.2.1.2.2.2.2.2.2.2.2.2.1 i x hx) rfl rfl rfl (by decide) (by omega) (by decide) ?_
        refine x_iload_n rfl rfl rfl ?_
        refine x_icmpN_ne (by omega) (by omega) rfl rfl (fun hc19 => ?_) (fun hc19 => ?_)
        · refine x_iconstN (b := 0) rfl rfl ?_
          refine x_istore rfl rfl rfl rfl ?_
          refine x_iload rfl rfl rfl ?_
          refine x_if_eq rfl rfl (fun _ => ?_) (fun hc20 => absurd hc20 (by decide +kernel))
          refine x_aload_n rfl rfl rfl ?_
          refine x_iload_n rfl rfl rfl ?_
          refine x_callVv (d2 := 0) (c_mstopT hG (nI (s0.1)) hw1.1.2.1) rfl rfl v_9_245 rfl rfl (by decide) rfl rfl (Nat.le_of_ble_eq_true rfl) (by omega) (by omega) ?_
          exact q_flV (0, none) (f := s0.1) (by rw [rhT_k hc2]; unfold rKnown; rw [hj]; dsimp only; rw [if_neg (by rw [hkd]; exact hc19)]; rfl) (hS1.ui (by first | (unfold onMD; simp; done) | (unfold onMD; simp; omega))) (by first | rfl | simp [ui, ul]) (by omega) rfl rfl rfl
        · refine x_iconstN (b := 1) rfl rfl ?_
          refine x_goto rfl rfl ?_
          refine x_istore rfl rfl rfl rfl ?_
          refine x_iload rfl rfl rfl ?_
          refine x_if_eq rfl rfl (fun hc21 => absurd hc21 (by decide +kernel)) (fun _ => ?_)
          refine x_aload_n rfl rfl rfl ?_
          refine x_aload_n rfl rfl rfl ?_
          refine x_aload_n rfl rfl rfl ?_
          refine x_getR0 rfl rfl f_9_60 rfl (by decide) rfl rfl ?_
          refine x_iload rfl rfl rfl ?_
          refine x_iconstN (b := 2) rfl rfl ?_
          refine x_idivN (a := b1) (b := 2) (by omega) (by omega) (by omega) rfl rfl ?_
          refine x_ialdv (a := b1 / 2) (v := nI i) (hw1.2.2.1.2.1 _ _ hj) rfl rfl rfl (by decide) (by omega) (by decide) ?_
          refine x_callVl (d2 := 0) (c_mvalueOf hG (i := i) (by omega)) rfl rfl v_9_138 rfl rfl (by decide) rfl rfl (Nat.le_of_ble_eq_true rfl) (by omega) (by omega) ?_
          refine x_putL rfl rfl f_9_255 rfl rfl (by decide) rfl ?_
          refine x_goto rfl rfl ?_
          exact q_retV (b := (16 * lN i + 7, none)) (s := s1) (by rw [rhT_k hc2]; unfold rKnown; rw [hj]; dsimp only; rw [if_pos (by rw [hkd]; exact hc19)]; rfl) (hS1.ul (by first | (unfold onMD; simp; done) | (unfold onMD; simp; omega))) ⟨hw1.eqO (EqF.rf.ul (by simp [onO])), by simp [ul], hp1, by simpa [ul] using ho1, CmM.nil (by rw [hph1]; exact Nat.le_refl _)⟩ rfl rfl rfl
  · refine x_istore rfl rfl rfl rfl ?_
    refine x_aload_n rfl rfl rfl ?_
    refine x_callVi (d2 := 0) (c_mgoesF hG (f := f1) hf1 (by omega)) rfl rfl v_9_238 rfl rfl (by decide) rfl rfl (Nat.le_of_ble_eq_true rfl) (by omega) (by omega) ?_
    refine x_if_ne rfl rfl (fun hc22 => absurd hc22 (by decide +kernel)) (fun _ => ?_)
    exact q_flV (0, none) (f := f1) (rfl) hS1 hf1 (by omega) rfl rfl rfl
set_option maxHeartbeats 4000000 in
set_option maxRecDepth 20000 in
theorem c_mtakeThing_10 (hG : Gok G) (hd : 6 ≤ d) {row : List Nat} {al : List Int64} {s0 : RS} (hw0 : RdM row al s0 M) {h kp : Nat} (hh : h ≤ 12) (ho0 : M.1 (40, 0) 28 = nI h) (hkp : kp ≤ 600) : CQ G mX9_takeThing d [.ref (ga G (40, 0)), .int (nI 10), .int (nI kp)] M (onMD h s0) (PHd row al h s0) vNo (rb (rNum row s0) fun q => rhT row al h 10 kp s0.1 q.1 q.2) := by
  have hS0 : EqF (onMD h s0) M M := EqF.rf
  have hp0 : Pre s0 s0 := Pre.rf
  have hA0 := hw0.2.1.1
  have hL6 := hw0.2.2.2.2.2.2.1
  refine q_of hG okX9_takeThing (by decide +kernel) rfl (Nat.le_of_ble_eq_true rfl) ?_
  refine x_aload_n rfl rfl rfl ?_
  refine x_getIv (v := nI (s0.1)) hw0.1.1 rfl rfl f_9_242 rfl (by decide) rfl ?_
  refine x_istore_n rfl rfl rfl rfl ?_
  refine x_aload_n rfl rfl rfl ?_
  refine q_call (d2 := 3) (c_mtakeNumber hG (Nat.le_refl 3) hw0) hS0 (fun _ _ z => onMDA z) rfl rfl v_9_252 rfl rfl (by decide) rfl rfl (Nat.le_of_ble_eq_true rfl) (by omega) (fun b1 s1 M1 e1 hq1 hE1 hS1 => ?_) (fun f1 b1 M1 e1 hf1 hl1 hS1 => ?_)
  · have hw1 := hq1
    have hz1 : s1.2.2 = s0.2.2 := by rw [(rNumF_2 e1).1]
    have hn1 := rNum_lt hq1.2.2.2.2.2.2.2.1 e1
    have hph1 : pH s1 = pH s0 := by unfold pH; rw [hz1]
    have hphl1 : (pH s1).length = (pH s0).length := by rw [hph1]
    have hp1 := hp0.tr (Pre.of2 hz1)
    have hHH1 := hw1.2.2.2.1.2.2.1
    have hLH1 := hw1.2.2.2.1.2.2.2.2.1
    have hRL1 := hw1.2.2.2.1.2.2.2.1
    have ho1 : M1.1 (40, 0) 28 = nI h := (hE1 _ _ (by simp [onMA])).1.trans ho0
    dsimp only
    refine x_istore rfl rfl rfl rfl ?_
    refine x_aload_n rfl rfl rfl ?_
    refine x_callVi (d2 := 0) (c_mgoesT hG hw1.1.2.1) rfl rfl v_9_238 rfl rfl (by decide) rfl rfl (Nat.le_of_ble_eq_true rfl) (by omega) (by omega) ?_
    refine x_if_ne rfl rfl (fun _ => ?_) (fun hc1 => absurd hc1 (by decide +kernel))
    refine x_iload rfl rfl rfl ?_
    refine x_iconstN (b := 2) rfl rfl ?_
    refine x_iremN (a := b1) (b := 2) (by omega) (by omega) (by omega) rfl rfl ?_
    refine x_ifN_ne (by omega) rfl rfl (fun hc2 => ?_) (fun hc2 => ?_)
    · refine x_aload_n rfl rfl rfl ?_
      refine x_getIv (v := nI ((pH s1).length)) hw1.2.2.1.2.2.2.2.2.2.2.2.1 rfl rfl f_9_121 rfl (by decide) rfl ?_
      refine x_bipush (v := nI 40) rfl rfl (by decide +kernel) ?_
      refine x_icmpN_eq (by omega) (by omega) rfl rfl (fun hc3 => ?_) (fun hc3 => ?_)
      · refine x_aload_n rfl rfl rfl ?_
        refine x_iload_n rfl rfl rfl ?_
        refine x_callVv (d2 := 0) (c_mstopT hG (nI kp) hw1.1.2.1) rfl rfl v_9_245 rfl rfl (by decide) rfl rfl (Nat.le_of_ble_eq_true rfl) (by omega) (by omega) ?_
        exact q_flV (0, none) (f := kp) (rhT_f hc2 (by omega)) (hS1.ui (by first | (unfold onMD; simp; done) | (unfold onMD; simp; omega))) (by first | rfl | simp [ui, ul]) (by omega) rfl rfl rfl
      · refine x_aload_n rfl rfl rfl ?_
        refine x_getIv (v := nI h) ho1 rfl rfl f_9_196 rfl (by decide) rfl ?_
        refine x_bipush (v := nI 12) rfl rfl (by decide +kernel) ?_
        refine x_icmpN_ne (by omega) (by omega) rfl rfl (fun hc4 => ?_) (fun hc4 => ?_)
        · refine x_iload_n rfl rfl rfl ?_
          refine x_bipush (v := nI 8) rfl rfl (by decide +kernel) ?_
          refine x_icmpN_ne (by omega) (by omega) rfl rfl (fun hc5 => ?_) (fun hc5 => absurd hc5 (by omega))
          refine x_iload_n rfl rfl rfl ?_
          refine x_bipush (v := nI 10) rfl rfl (by decide +kernel) ?_
          refine x_icmpN_ne (by omega) (by omega) rfl rfl (fun hc6 => absurd hc6 (by omega)) (fun hc6 => ?_)
          refine x_iload rfl rfl rfl ?_
          refine x_bipush (v := nI 8) rfl rfl (by decide +kernel) ?_
          refine x_iremN (a := b1) (b := 8) (by omega) (by omega) (by omega) rfl rfl ?_
          refine x_bipush (v := nI 7) rfl rfl (by decide +kernel) ?_
          refine x_icmpN_eq (by omega) (by omega) rfl rfl (fun hc7 => ?_) (fun hc7 => ?_)
          · refine x_iconstN (b := 1) rfl rfl ?_
            refine x_goto rfl rfl ?_
            refine x_istore rfl rfl rfl rfl ?_
            refine x_iload rfl rfl rfl ?_
            refine x_if_eq rfl rfl (fun hc8 => absurd hc8 (by decide +kernel)) (fun _ => ?_)
            refine x_aload_n rfl rfl rfl ?_
            refine x_iload_n rfl rfl rfl ?_
            refine x_callVv (d2 := 0) (c_mstopT hG (nI (s0.1)) hw1.1.2.1) rfl rfl v_9_245 rfl rfl (by decide) rfl rfl (Nat.le_of_ble_eq_true rfl) (by omega) (by omega) ?_
            exact q_flV (0, none) (f := s0.1) (by rw [rhT_10 hc2 (by omega) (by omega)]; rw [rTr_x (by omega) (by omega)]; rfl) (hS1.ui (by first | (unfold onMD; simp; done) | (unfold onMD; simp; omega))) (by first | rfl | simp [ui, ul]) (by omega) rfl rfl rfl
          · refine x_iload rfl rfl rfl ?_
            refine x_iconstN (b := 4) rfl rfl ?_
            refine x_iremN (a := b1) (b := 4) (by omega) (by omega) (by omega) rfl rfl ?_
            refine x_iconstN (b := 3) rfl rfl ?_
            refine x_icmpN_ne (by omega) (by omega) rfl rfl (fun hc9 => ?_) (fun hc9 => ?_)
            · refine x_iload rfl rfl rfl ?_
              refine x_iconstN (b := 4) rfl rfl ?_
              refine x_iremN (a := b1) (b := 4) (by omega) (by omega) (by omega) rfl rfl ?_
              refine x_iconstN (b := 1) rfl rfl ?_
              refine x_icmpN_ne (by omega) (by omega) rfl rfl (fun hc10 => ?_) (fun hc10 => ?_)
              · refine x_iconstN (b := 0) rfl rfl ?_
                refine x_goto rfl rfl ?_
                refine x_istore rfl rfl rfl rfl ?_
                refine x_iload rfl rfl rfl ?_
                refine x_if_eq rfl rfl (fun _ => ?_) (fun hc11 => absurd hc11 (by decide +kernel))
                refine x_aload_n rfl rfl rfl ?_
                refine x_iload_n rfl rfl rfl ?_
                refine x_lconst (v := 0) rfl rfl (by decide +kernel) ?_
                refine x_iload_n rfl rfl rfl ?_
                refine x_bipush (v := nI 10) rfl rfl (by decide +kernel) ?_
                refine x_icmpN_eq (by omega) (by omega) rfl rfl (fun hc12 => ?_) (fun hc12 => absurd hc12 (by omega))
                refine x_iconstN (b := 0) rfl rfl ?_
                refine x_goto rfl rfl ?_
                refine x_iconst (v := -1) rfl rfl (by decide +kernel) ?_
                refine x_callVi (d2 := 0) (c_mnewThing hG (nI 10) (nI (0)) (-1) 0 hw1.2.2.1.2.2.2.2.2.2.2.2.1 (by omega)) rfl rfl v_9_134 rfl rfl (by decide) rfl rfl (Nat.le_of_ble_eq_true rfl) (by omega) (by omega) ?_
                refine x_istore rfl rfl rfl rfl ?_
                refine x_aload_n rfl rfl rfl ?_
                refine x_getR0 rfl rfl f_9_60 rfl (by decide) rfl rfl ?_
                refine x_aload_n rfl rfl rfl ?_
                refine x_getIv (v := nI ((pL s1).length)) (by first | exact hw1.2.2.1.1 | (rw [← hw1.2.2.1.1]; rfl) | simp [ui, ul, hw1.2.2.1.1]) rfl rfl f_9_211 rfl (by decide) rfl ?_
                refine x_iload rfl rfl rfl ?_
                refine x_iast (a := (pL s1).length) rfl rfl rfl (by decide) (by omega) (by decide) ?_
                refine x_aload_n rfl rfl rfl ?_
                refine x_dup rfl rfl rfl ?_
                refine x_getIv (v := nI ((pL s1).length)) (by first | exact hw1.2.2.1.1 | (rw [← hw1.2.2.1.1]; rfl) | simp [ui, ul, hw1.2.2.1.1]) rfl rfl f_9_211 rfl (by decide) rfl ?_
                refine x_iconstN (b := 1) rfl rfl ?_
                refine x_iaddN (a := (pL s1).length) (b := 1) rfl rfl ?_
                refine x_putI rfl rfl f_9_211 rfl rfl (by decide) rfl ?_
                refine x_aload_n rfl rfl rfl ?_
                refine x_aload_n rfl rfl rfl ?_
                refine x_iload rfl rfl rfl ?_
                refine x_callVl (d2 := 0) (c_mvalueOf hG (i := (pH s1).length) (by omega)) rfl rfl v_9_138 rfl rfl (by decide) rfl rfl (Nat.le_of_ble_eq_true rfl) (by omega) (by omega) ?_
                refine x_putL rfl rfl f_9_255 rfl rfl (by decide) rfl ?_
                obtain ⟨s2, es2⟩ : ∃ s2, s2 = newH 10 s1 := ⟨_, rfl⟩
                obtain ⟨M2, eM2⟩ : ∃ M2, M2 = (ul (ui (ui (ui (ul (ul (ul (ul (ul (ul (ul (ul (ui (ui (ui (ul (ui M1 (46, 0) ((pH s1).length) (nI 10)) (47, 0) ((pH s1).length) 0) (48, 0) ((pH s1).length) (nI 0)) (49, 0) ((pH s1).length) ((-1))) (51, 0) ((pH s1).length) (nI 0)) (50, 0) (8 * (pH s1).length + 0) 0) (50, 0) (8 * (pH s1).length + 1) 0) (50, 0) (8 * (pH s1).length + 2) 0) (50, 0) (8 * (pH s1).length + 3) 0) (50, 0) (8 * (pH s1).length + 4) 0) (50, 0) (8 * (pH s1).length + 5) 0) (50, 0) (8 * (pH s1).length + 6) 0) (50, 0) (8 * (pH s1).length + 7) 0) (40, 0) 8 (nI ((pH s1).length + 1))) (57, 0) ((pL s1).length) (nI ((pH s1).length))) (40, 0) 24 (nI (((pL s1).length) + 1))) (40, 0) 38 (16 * lN ((pH s1).length) + 7)) := ⟨_, rfl⟩
                have hlt : (pH s1).length < 40 := by omega
                have hw2 : RdM row al s2 M2 := by rw [es2, eM2]; exact hw1.new hlt (by decide)
                have hpt2 : MPt 10 0 (-1) [] [] [] (pH s1).length M2 := by rw [eM2]; exact MPt.new
                have hS2 : EqF (onMD h s0) M M2 := by rw [eM2]; exact hS1.tr (eqM_new.sub fun k j z => onMD_new hphl1 z)
                have ho2 : M2.1 (40, 0) 28 = nI h := by rw [eM2]; exact (eqM_new (40, 0) 28 (by simp)).1.trans ho1
                have hg2 : M2.2 (40, 0) 38 = 16 * lN (pH s1).length + 7 := by rw [eM2]; simp [ul]
                have hp2 : Pre s0 s2 := by rw [es2]; exact hp1.tr Pre.new
                have hphn : (pH s2).length = (pH s1).length + 1 := by rw [es2]; exact newH_len _ _
                have hyn : (pH s2)[(pH s1).length]? = some (10, 0, 0, [], [], []) := by rw [es2]; exact newH_at _ _
                have hRLn : (pR s2).length < (pL s2).length := by rw [es2]; show (pR s1).length < (pL s1 ++ [(pH s1).length]).length; simp; omega
                have hpRn : pR s2 = pR s1 := by rw [es2]; rfl
                refine x_eq (M2 := M2) ?_ rfl rfl eM2.symm
                rw [rhT_10 hc2 (by omega) (by omega), ← es2]
                refine x_iload_n rfl rfl rfl ?_
                refine x_bipush (v := nI 8) rfl rfl (by decide +kernel) ?_
                refine x_icmpN_ne (by omega) (by omega) rfl rfl (fun hc13 => ?_) (fun hc13 => absurd hc13 (by omega))
                refine x_iload_n rfl rfl rfl ?_
                refine x_bipush (v := nI 12) rfl rfl (by decide +kernel) ?_
                refine x_icmpN_ne (by omega) (by omega) rfl rfl (fun hc14 => ?_) (fun hc14 => absurd hc14 (by omega))
                refine x_iload_n rfl rfl rfl ?_
                refine x_bipush (v := nI 10) rfl rfl (by decide +kernel) ?_
                refine x_icmpN_ne (by omega) (by omega) rfl rfl (fun hc15 => absurd hc15 (by omega)) (fun hc15 => ?_)
                refine x_aload_n rfl rfl rfl ?_
                refine x_getR0 rfl rfl f_9_36 rfl (by decide) rfl rfl ?_
                refine x_iload rfl rfl rfl ?_
                refine x_iload rfl rfl rfl ?_
                refine x_iconstN (b := 4) rfl rfl ?_
                refine x_iremN (a := b1) (b := 4) (by omega) (by omega) (by omega) rfl rfl ?_
                refine x_iconstN (b := 1) rfl rfl ?_
                refine x_icmpN_ne (by omega) (by omega) rfl rfl (fun hc16 => ?_) (fun hc16 => ?_)
                · refine x_aload_n rfl rfl rfl ?_
                  refine x_iload rfl rfl rfl ?_
                  refine x_iload_n rfl rfl rfl ?_
                  refine q_call (d2 := 5) (c_mtakeTraits (nn := b1) (np := s0.1) hG (Nat.le_refl 5) hw2 hRLn hn1 (by omega) (by omega) (by omega)) hS2 (fun _ _ z => onMDT (onMD_pre hp2 (Nat.le_refl h) z)) rfl rfl v_9_276 rfl rfl (by decide) rfl rfl (Nat.le_of_ble_eq_true rfl) (by omega) (fun b3 s3 M3 e3 hq3 hE3 hS3 => ?_) (fun f3 b3 M3 e3 hf3 hl3 hS3 => ?_)
                  · have hw3 := hq3
                    have hpp3 := rTr_pre e3 hw2.2.2.2.1.2.2.2.2.2.2.1
                    have hph3 := rTr_H e3
                    have hp3 := hp2.tr hpp3.1
                    have ho3 : M3.1 (40, 0) 28 = nI h := (hE3 _ _ (by simp [onMT])).1.trans ho2
                    have hg3 := (hE3 (40, 0) 38 (by simp [onMT])).2.trans hg2
                    have hpt3 := hpt2.eqM hE3 (fun r h1 => by unfold onMT; simp; omega) (fun j _ => by simp [onMT]) (fun r h1 j _ => by unfold onMT; simp; omega)
                    have htl := hpp3.2
                    have ht12 := hw3.2.2.2.1.2.1
                    have hyn3 : (pH s3)[(pH s1).length]? = some (10, 0, 0, [], [], []) := by rw [hph3]; exact hyn
                    have hphn3 : (pH s3).length = (pH s1).length + 1 := by rw [hph3]; exact hphn
                    obtain ⟨y, hy⟩ : ∃ y, (pT s3)[b3]? = some y := ⟨_, List.getElem?_eq_getElem htl⟩
                    have hyt := hw3.2.2.1.2.2.2.2.2.2.2.1 b3 y hy
                    have etr : trAt s3 b3 = y := by unfold trAt; rw [hy]; rfl
                    dsimp only
                    rw [etr]
                    refine x_iast (a := (pH s1).length) rfl rfl rfl (by decide) (by omega) (by decide) ?_
                    refine x_aload_n rfl rfl rfl ?_
                    refine x_getR0 rfl rfl f_9_33 rfl (by decide) rfl rfl ?_
                    refine x_iload rfl rfl rfl ?_
                    refine x_aload_n rfl rfl rfl ?_
                    refine x_callVi (d2 := 0) (c_mgoesT hG (by first | exact hw3.1.2.1 | (rw [← hw3.1.2.1]; rfl) | simp [ui, ul, hw3.1.2.1])) rfl rfl v_9_238 rfl rfl (by decide) rfl rfl (Nat.le_of_ble_eq_true rfl) (by omega) (by omega) ?_
                    refine x_if_eq rfl rfl (fun hc17 => absurd hc17 (by decide +kernel)) (fun _ => ?_)
                    refine x_aload_n rfl rfl rfl ?_
                    refine x_getR0 rfl rfl f_9_20 rfl (by decide) rfl rfl ?_
                    refine x_aload_n rfl rfl rfl ?_
                    refine x_getR0 rfl rfl f_9_36 rfl (by decide) rfl rfl ?_
                    refine x_iload rfl rfl rfl ?_
                    refine x_ialdv (a := (pH s1).length) (v := nI b3) (by first | rfl | simp [ui, ul]) rfl rfl rfl (by decide) (by omega) (by decide) ?_
                    refine x_ialdv (a := b3) (v := nI ((rM y).length)) (by first | exact hyt.2.2.1 | (rw [← hyt.2.2.1]; rfl) | simp [ui, ul, hyt.2.2.1]) rfl rfl rfl (by decide) (by omega) (by decide) ?_
                    refine x_goto rfl rfl ?_
                    refine x_iast (a := (pH s1).length) rfl rfl rfl (by decide) (by omega) (by decide) ?_
                    refine x_aload_n rfl rfl rfl ?_
                    refine x_callVi (d2 := 0) (c_mgoesT hG (by first | exact hw3.1.2.1 | (rw [← hw3.1.2.1]; rfl) | simp [ui, ul, hw3.1.2.1])) rfl rfl v_9_238 rfl rfl (by decide) rfl rfl (Nat.le_of_ble_eq_true rfl) (by omega) (by omega) ?_
                    refine x_if_eq rfl rfl (fun hc18 => absurd hc18 (by decide +kernel)) (fun _ => ?_)
                    refine x_aload_n rfl rfl rfl ?_
                    refine x_iload rfl rfl rfl ?_
                    by_cases hdy : rD y = true
                    · refine x_callVv (d2 := 2) (c_mpush10D hG (Nat.le_refl 2) (h := h) (n := (pH s3).length) (i := (pH s1).length) (t := b3) (by simpa [ui] using ho3) (by omega) (by simpa [ui] using hw3.2.2.1.2.2.2.2.2.2.2.2.1) (by omega) (by omega) (by simpa [ui] using hpt3.1) (by omega) (rD y = true) (by simp [ui]) (by simpa [ui] using hyt.2.1) hdy) rfl rfl v_9_214 rfl rfl (by decide) rfl rfl (Nat.le_of_ble_eq_true rfl) (by omega) (by omega) ?_
                      exact q_retV rfl (((((((hS3.ui (by first | (unfold onMD; simp; done) | (unfold onMD; simp; omega))).ui (by first | (unfold onMD; simp; done) | (unfold onMD; simp; omega))).ui (by first | (unfold onMD; simp; done) | (unfold onMD; simp; omega))).ui (by first | (unfold onMD; simp; done) | (unfold onMD; simp; omega))).ui (by first | (unfold onMD; simp; done) | (unfold onMD; simp; omega))).ui (by first | (unfold onMD; simp; done) | (unfold onMD; simp; omega))).ui (by first | (unfold onMD; simp; done) | (unfold onMD; simp; omega))) ⟨hw3.eqO ((((((((EqF.rf.ui (by simp [onO])).ui (by simp [onO])).ui (by simp [onO])).ui (by simp [onO])).ui (by simp [onO])).ui (by simp [onO])).ui (by simp [onO]))), by simpa [ui] using hg3, hp3, ⟨hphl1, hyn3, hphn3, by omega, Or.inr rfl, by show (rM y).length ≤ 8; have := hyt.2.2.2.2; omega, fun _ => ⟨htl, by show _ = (rM (trAt s3 b3)).length; rw [etr]⟩, (hpt3.tu (tr2 := nI b3) (c2 := (rM y).length)).eqM (on := fun k _ => k.1 ≠ 40 ∧ ¬ (59 ≤ k.1 ∧ k.1 ≤ 62)) ((((((EqF.rf.ui (by simp)).ui (by simp)).ui (by simp)).ui (by simp)).ui (by simp))) (fun r h1 => by simp; omega) (fun j _ => by simp) (fun r h1 j _ => by simp; omega), by simp [ui], by simp [ui], by simp [ui], by simp [ui], by rw [bI_f (fun z => z.2 (by show rD (trAt s3 b3) = true; rw [etr]; exact hdy))]; simp [ui]⟩⟩ rfl rfl rfl
                    · refine x_callVv (d2 := 2) (c_mpush10S hG (Nat.le_refl 2) (h := h) (n := (pH s3).length) (i := (pH s1).length) (t := b3) (by simpa [ui] using ho3) (by omega) (by simpa [ui] using hw3.2.2.1.2.2.2.2.2.2.2.2.1) (by omega) (by omega) (by simpa [ui] using hpt3.1) (by omega) (rD y = true) (by simp [ui]) (by simpa [ui] using hyt.2.1) hdy) rfl rfl v_9_214 rfl rfl (by decide) rfl rfl (Nat.le_of_ble_eq_true rfl) (by omega) (by omega) ?_
                      exact q_retV rfl (((((((hS3.ui (by first | (unfold onMD; simp; done) | (unfold onMD; simp; omega))).ui (by first | (unfold onMD; simp; done) | (unfold onMD; simp; omega))).ui (by first | (unfold onMD; simp; done) | (unfold onMD; simp; omega))).ui (by first | (unfold onMD; simp; done) | (unfold onMD; simp; omega))).ui (by first | (unfold onMD; simp; done) | (unfold onMD; simp; omega))).ui (by first | (unfold onMD; simp; done) | (unfold onMD; simp; omega))).ui (by first | (unfold onMD; simp; done) | (unfold onMD; simp; omega))) ⟨hw3.eqO ((((((((EqF.rf.ui (by simp [onO])).ui (by simp [onO])).ui (by simp [onO])).ui (by simp [onO])).ui (by simp [onO])).ui (by simp [onO])).ui (by simp [onO]))), by simpa [ui] using hg3, hp3, ⟨hphl1, hyn3, hphn3, by omega, Or.inr rfl, by show (rM y).length ≤ 8; have := hyt.2.2.2.2; omega, fun _ => ⟨htl, by show _ = (rM (trAt s3 b3)).length; rw [etr]⟩, (hpt3.tu (tr2 := nI b3) (c2 := (rM y).length)).eqM (on := fun k _ => k.1 ≠ 40 ∧ ¬ (59 ≤ k.1 ∧ k.1 ≤ 62)) ((((((EqF.rf.ui (by simp)).ui (by simp)).ui (by simp)).ui (by simp)).ui (by simp))) (fun r h1 => by simp; omega) (fun j _ => by simp) (fun r h1 j _ => by simp; omega), by simp [ui], by simp [ui], by simp [ui], by simp [ui], by rw [bI_t ⟨rfl, fun z => hdy (by rw [← etr]; exact z)⟩]; simp [ui]⟩⟩ rfl rfl rfl
                  · refine x_iast (a := (pH s1).length) rfl rfl rfl (by decide) (by omega) (by decide) ?_
                    refine x_aload_n rfl rfl rfl ?_
                    refine x_getR0 rfl rfl f_9_33 rfl (by decide) rfl rfl ?_
                    refine x_iload rfl rfl rfl ?_
                    refine x_aload_n rfl rfl rfl ?_
                    refine x_callVi (d2 := 0) (c_mgoesF hG (f := f3) (by first | exact hf3 | (rw [← hf3]; rfl) | simp [ui, ul, hf3]) (by omega)) rfl rfl v_9_238 rfl rfl (by decide) rfl rfl (Nat.le_of_ble_eq_true rfl) (by omega) (by omega) ?_
                    refine x_if_eq rfl rfl (fun _ => ?_) (fun hc19 => absurd hc19 (by decide +kernel))
                    refine x_iconstN (b := 0) rfl rfl ?_
                    refine x_iast (a := (pH s1).length) rfl rfl rfl (by decide) (by omega) (by decide) ?_
                    refine x_aload_n rfl rfl rfl ?_
                    refine x_callVi (d2 := 0) (c_mgoesF hG (f := f3) (by first | exact hf3 | (rw [← hf3]; rfl) | simp [ui, ul, hf3]) (by omega)) rfl rfl v_9_238 rfl rfl (by decide) rfl rfl (Nat.le_of_ble_eq_true rfl) (by omega) (by omega) ?_
                    refine x_if_eq rfl rfl (fun _ => ?_) (fun hc20 => absurd hc20 (by decide +kernel))
                    exact q_flV (0, none) (f := f3) (rfl) ((hS3.ui (by first | (unfold onMD; simp; done) | (unfold onMD; simp; omega))).ui (by first | (unfold onMD; simp; done) | (unfold onMD; simp; omega))) (by first | exact hf3 | (rw [← hf3]; rfl) | simp [ui, ul, hf3]) (by omega) rfl rfl rfl
                · obtain ⟨t, ht⟩ : ∃ t, (pR s2)[b1 / 4]? = some t := ⟨_, List.getElem?_eq_getElem (by rw [hpRn]; omega)⟩
                  have htl := hw2.2.2.2.1.2.2.2.2.2.2.1 t (at_mem ht)
                  have ht12 := hw2.2.2.2.1.2.1
                  obtain ⟨y, hy⟩ : ∃ y, (pT s2)[t]? = some y := ⟨_, List.getElem?_eq_getElem htl⟩
                  have hyt := hw2.2.2.1.2.2.2.2.2.2.2.1 t y hy
                  have etr : trAt s2 t = y := by unfold trAt; rw [hy]; rfl
                  rw [rTr_k1 (by omega) ht]
                  dsimp only [rb]
                  rw [etr]
                  refine x_aload_n rfl rfl rfl ?_
                  refine x_getR0 rfl rfl f_9_63 rfl (by decide) rfl rfl ?_
                  refine x_iload rfl rfl rfl ?_
                  refine x_iconstN (b := 4) rfl rfl ?_
                  refine x_idivN (a := b1) (b := 4) (by omega) (by omega) (by omega) rfl rfl ?_
                  refine x_ialdv (a := b1 / 4) (v := nI t) (hw2.2.2.1.2.2.2.1 _ _ ht) rfl rfl rfl (by decide) (by omega) (by decide) ?_
                  refine x_goto rfl rfl ?_
                  refine x_iast (a := (pH s1).length) rfl rfl rfl (by decide) (by omega) (by decide) ?_
                  refine x_aload_n rfl rfl rfl ?_
                  refine x_getR0 rfl rfl f_9_33 rfl (by decide) rfl rfl ?_
                  refine x_iload rfl rfl rfl ?_
                  refine x_aload_n rfl rfl rfl ?_
                  refine x_callVi (d2 := 0) (c_mgoesT hG (by first | exact hw2.1.2.1 | (rw [← hw2.1.2.1]; rfl) | simp [ui, ul, hw2.1.2.1])) rfl rfl v_9_238 rfl rfl (by decide) rfl rfl (Nat.le_of_ble_eq_true rfl) (by omega) (by omega) ?_
                  refine x_if_eq rfl rfl (fun hc21 => absurd hc21 (by decide +kernel)) (fun _ => ?_)
                  refine x_aload_n rfl rfl rfl ?_
                  refine x_getR0 rfl rfl f_9_20 rfl (by decide) rfl rfl ?_
                  refine x_aload_n rfl rfl rfl ?_
                  refine x_getR0 rfl rfl f_9_36 rfl (by decide) rfl rfl ?_
                  refine x_iload rfl rfl rfl ?_
                  refine x_ialdv (a := (pH s1).length) (v := nI t) (by first | rfl | simp [ui, ul]) rfl rfl rfl (by decide) (by omega) (by decide) ?_
                  refine x_ialdv (a := t) (v := nI ((rM y).length)) (by first | exact hyt.2.2.1 | (rw [← hyt.2.2.1]; rfl) | simp [ui, ul, hyt.2.2.1]) rfl rfl rfl (by decide) (by omega) (by decide) ?_
                  refine x_goto rfl rfl ?_
                  refine x_iast (a := (pH s1).length) rfl rfl rfl (by decide) (by omega) (by decide) ?_
                  refine x_aload_n rfl rfl rfl ?_
                  refine x_callVi (d2 := 0) (c_mgoesT hG (by first | exact hw2.1.2.1 | (rw [← hw2.1.2.1]; rfl) | simp [ui, ul, hw2.1.2.1])) rfl rfl v_9_238 rfl rfl (by decide) rfl rfl (Nat.le_of_ble_eq_true rfl) (by omega) (by omega) ?_
                  refine x_if_eq rfl rfl (fun hc22 => absurd hc22 (by decide +kernel)) (fun _ => ?_)
                  refine x_aload_n rfl rfl rfl ?_
                  refine x_iload rfl rfl rfl ?_
                  by_cases hdy : rD y = true
                  · refine x_callVv (d2 := 2) (c_mpush10D hG (Nat.le_refl 2) (h := h) (n := (pH s2).length) (i := (pH s1).length) (t := t) (by simpa [ui] using ho2) (by omega) (by simpa [ui] using hw2.2.2.1.2.2.2.2.2.2.2.2.1) (by omega) (by omega) (by simpa [ui] using hpt2.1) (by omega) (rD y = true) (by simp [ui]) (by simpa [ui] using hyt.2.1) hdy) rfl rfl v_9_214 rfl rfl (by decide) rfl rfl (Nat.le_of_ble_eq_true rfl) (by omega) (by omega) ?_
                    exact q_retV rfl (((((((hS2.ui (by first | (unfold onMD; simp; done) | (unfold onMD; simp; omega))).ui (by first | (unfold onMD; simp; done) | (unfold onMD; simp; omega))).ui (by first | (unfold onMD; simp; done) | (unfold onMD; simp; omega))).ui (by first | (unfold onMD; simp; done) | (unfold onMD; simp; omega))).ui (by first | (unfold onMD; simp; done) | (unfold onMD; simp; omega))).ui (by first | (unfold onMD; simp; done) | (unfold onMD; simp; omega))).ui (by first | (unfold onMD; simp; done) | (unfold onMD; simp; omega))) ⟨hw2.eqO ((((((((EqF.rf.ui (by simp [onO])).ui (by simp [onO])).ui (by simp [onO])).ui (by simp [onO])).ui (by simp [onO])).ui (by simp [onO])).ui (by simp [onO]))), by simpa [ui] using hg2, hp2, ⟨hphl1, hyn, hphn, by omega, Or.inr rfl, by show (rM y).length ≤ 8; have := hyt.2.2.2.2; omega, fun _ => ⟨htl, by show _ = (rM (trAt s2 t)).length; rw [etr]⟩, (hpt2.tu (tr2 := nI t) (c2 := (rM y).length)).eqM (on := fun k _ => k.1 ≠ 40 ∧ ¬ (59 ≤ k.1 ∧ k.1 ≤ 62)) ((((((EqF.rf.ui (by simp)).ui (by simp)).ui (by simp)).ui (by simp)).ui (by simp))) (fun r h1 => by simp; omega) (fun j _ => by simp) (fun r h1 j _ => by simp; omega), by simp [ui], by simp [ui], by simp [ui], by simp [ui], by rw [bI_f (fun z => z.2 (by show rD (trAt s2 t) = true; rw [etr]; exact hdy))]; simp [ui]⟩⟩ rfl rfl rfl
                  · refine x_callVv (d2 := 2) (c_mpush10S hG (Nat.le_refl 2) (h := h) (n := (pH s2).length) (i := (pH s1).length) (t := t) (by simpa [ui] using ho2) (by omega) (by simpa [ui] using hw2.2.2.1.2.2.2.2.2.2.2.2.1) (by omega) (by omega) (by simpa [ui] using hpt2.1) (by omega) (rD y = true) (by simp [ui]) (by simpa [ui] using hyt.2.1) hdy) rfl rfl v_9_214 rfl rfl (by decide) rfl rfl (Nat.le_of_ble_eq_true rfl) (by omega) (by omega) ?_
                    exact q_retV rfl (((((((hS2.ui (by first | (unfold onMD; simp; done) | (unfold onMD; simp; omega))).ui (by first | (unfold onMD; simp; done) | (unfold onMD; simp; omega))).ui (by first | (unfold onMD; simp; done) | (unfold onMD; simp; omega))).ui (by first | (unfold onMD; simp; done) | (unfold onMD; simp; omega))).ui (by first | (unfold onMD; simp; done) | (unfold onMD; simp; omega))).ui (by first | (unfold onMD; simp; done) | (unfold onMD; simp; omega))).ui (by first | (unfold onMD; simp; done) | (unfold onMD; simp; omega))) ⟨hw2.eqO ((((((((EqF.rf.ui (by simp [onO])).ui (by simp [onO])).ui (by simp [onO])).ui (by simp [onO])).ui (by simp [onO])).ui (by simp [onO])).ui (by simp [onO]))), by simpa [ui] using hg2, hp2, ⟨hphl1, hyn, hphn, by omega, Or.inr rfl, by show (rM y).length ≤ 8; have := hyt.2.2.2.2; omega, fun _ => ⟨htl, by show _ = (rM (trAt s2 t)).length; rw [etr]⟩, (hpt2.tu (tr2 := nI t) (c2 := (rM y).length)).eqM (on := fun k _ => k.1 ≠ 40 ∧ ¬ (59 ≤ k.1 ∧ k.1 ≤ 62)) ((((((EqF.rf.ui (by simp)).ui (by simp)).ui (by simp)).ui (by simp)).ui (by simp))) (fun r h1 => by simp; omega) (fun j _ => by simp) (fun r h1 j _ => by simp; omega), by simp [ui], by simp [ui], by simp [ui], by simp [ui], by rw [bI_t ⟨rfl, fun z => hdy (by rw [← etr]; exact z)⟩]; simp [ui]⟩⟩ rfl rfl rfl
              · refine x_iload rfl rfl rfl ?_
                refine x_iconstN (b := 4) rfl rfl ?_
                refine x_idivN (a := b1) (b := 4) (by omega) (by omega) (by omega) rfl rfl ?_
                refine x_aload_n rfl rfl rfl ?_
                refine x_getIv (v := nI ((pR s1).length)) hw1.2.2.1.2.2.1 rfl rfl f_9_220 rfl (by decide) rfl ?_
                refine x_icmpN_lt (by omega) (by omega) rfl rfl (fun hc23 => ?_) (fun hc23 => ?_)
                · refine x_iconstN (b := 0) rfl rfl ?_
                  refine x_goto rfl rfl ?_
                  refine x_istore rfl rfl rfl rfl ?_
                  refine x_iload rfl rfl rfl ?_
                  refine x_if_eq rfl rfl (fun _ => ?_) (fun hc24 => absurd hc24 (by decide +kernel))
                  refine x_aload_n rfl rfl rfl ?_
                  refine x_iload_n rfl rfl rfl ?_
                  refine x_lconst (v := 0) rfl rfl (by decide +kernel) ?_
                  refine x_iload_n rfl rfl rfl ?_
                  refine x_bipush (v := nI 10) rfl rfl (by decide +kernel) ?_
                  refine x_icmpN_eq (by omega) (by omega) rfl rfl (fun hc25 => ?_) (fun hc25 => absurd hc25 (by omega))
                  refine x_iconstN (b := 0) rfl rfl ?_
                  refine x_goto rfl rfl ?_
                  refine x_iconst (v := -1) rfl rfl (by decide +kernel) ?_
                  refine x_callVi (d2 := 0) (c_mnewThing hG (nI 10) (nI (0)) (-1) 0 hw1.2.2.1.2.2.2.2.2.2.2.2.1 (by omega)) rfl rfl v_9_134 rfl rfl (by decide) rfl rfl (Nat.le_of_ble_eq_true rfl) (by omega) (by omega) ?_
                  refine x_istore rfl rfl rfl rfl ?_
                  refine x_aload_n rfl rfl rfl ?_
                  refine x_getR0 rfl rfl f_9_60 rfl (by decide) rfl rfl ?_
                  refine x_aload_n rfl rfl rfl ?_
                  refine x_getIv (v := nI ((pL s1).length)) (by first | exact hw1.2.2.1.1 | (rw [← hw1.2.2.1.1]; rfl) | simp [ui, ul, hw1.2.2.1.1]) rfl rfl f_9_211 rfl (by decide) rfl ?_
                  refine x_iload rfl rfl rfl ?_
                  refine x_iast (a := (pL s1).length) rfl rfl rfl (by decide) (by omega) (by decide) ?_
                  refine x_aload_n rfl rfl rfl ?_
                  refine x_dup rfl rfl rfl ?_
                  refine x_getIv (v := nI ((pL s1).length)) (by first | exact hw1.2.2.1.1 | (rw [← hw1.2.2.1.1]; rfl) | simp [ui, ul, hw1.2.2.1.1]) rfl rfl f_9_211 rfl (by decide) rfl ?_
                  refine x_iconstN (b := 1) rfl rfl ?_
                  refine x_iaddN (a := (pL s1).length) (b := 1) rfl rfl ?_
                  refine x_putI rfl rfl f_9_211 rfl rfl (by decide) rfl ?_
                  refine x_aload_n rfl rfl rfl ?_
                  refine x_aload_n rfl rfl rfl ?_
                  refine x_iload rfl rfl rfl ?_
                  refine x_callVl (d2 := 0) (c_mvalueOf hG (i := (pH s1).length) (by omega)) rfl rfl v_9_138 rfl rfl (by decide) rfl rfl (Nat.le_of_ble_eq_true rfl) (by omega) (by omega) ?_
                  refine x_putL rfl rfl f_9_255 rfl rfl (by decide) rfl ?_
                  obtain ⟨s2, es2⟩ : ∃ s2, s2 = newH 10 s1 := ⟨_, rfl⟩
                  obtain ⟨M2, eM2⟩ : ∃ M2, M2 = (ul (ui (ui (ui (ul (ul (ul (ul (ul (ul (ul (ul (ui (ui (ui (ul (ui M1 (46, 0) ((pH s1).length) (nI 10)) (47, 0) ((pH s1).length) 0) (48, 0) ((pH s1).length) (nI 0)) (49, 0) ((pH s1).length) ((-1))) (51, 0) ((pH s1).length) (nI 0)) (50, 0) (8 * (pH s1).length + 0) 0) (50, 0) (8 * (pH s1).length + 1) 0) (50, 0) (8 * (pH s1).length + 2) 0) (50, 0) (8 * (pH s1).length + 3) 0) (50, 0) (8 * (pH s1).length + 4) 0) (50, 0) (8 * (pH s1).length + 5) 0) (50, 0) (8 * (pH s1).length + 6) 0) (50, 0) (8 * (pH s1).length + 7) 0) (40, 0) 8 (nI ((pH s1).length + 1))) (57, 0) ((pL s1).length) (nI ((pH s1).length))) (40, 0) 24 (nI (((pL s1).length) + 1))) (40, 0) 38 (16 * lN ((pH s1).length) + 7)) := ⟨_, rfl⟩
                  have hlt : (pH s1).length < 40 := by omega
                  have hw2 : RdM row al s2 M2 := by rw [es2, eM2]; exact hw1.new hlt (by decide)
                  have hpt2 : MPt 10 0 (-1) [] [] [] (pH s1).length M2 := by rw [eM2]; exact MPt.new
                  have hS2 : EqF (onMD h s0) M M2 := by rw [eM2]; exact hS1.tr (eqM_new.sub fun k j z => onMD_new hphl1 z)
                  have ho2 : M2.1 (40, 0) 28 = nI h := by rw [eM2]; exact (eqM_new (40, 0) 28 (by simp)).1.trans ho1
                  have hg2 : M2.2 (40, 0) 38 = 16 * lN (pH s1).length + 7 := by rw [eM2]; simp [ul]
                  have hp2 : Pre s0 s2 := by rw [es2]; exact hp1.tr Pre.new
                  have hphn : (pH s2).length = (pH s1).length + 1 := by rw [es2]; exact newH_len _ _
                  have hyn : (pH s2)[(pH s1).length]? = some (10, 0, 0, [], [], []) := by rw [es2]; exact newH_at _ _
                  have hRLn : (pR s2).length < (pL s2).length := by rw [es2]; show (pR s1).length < (pL s1 ++ [(pH s1).length]).length; simp; omega
                  have hpRn : pR s2 = pR s1 := by rw [es2]; rfl
                  refine x_eq (M2 := M2) ?_ rfl rfl eM2.symm
                  rw [rhT_10 hc2 (by omega) (by omega), ← es2]
                  refine x_iload_n rfl rfl rfl ?_
                  refine x_bipush (v := nI 8) rfl rfl (by decide +kernel) ?_
                  refine x_icmpN_ne (by omega) (by omega) rfl rfl (fun hc26 => ?_) (fun hc26 => absurd hc26 (by omega))
                  refine x_iload_n rfl rfl rfl ?_
                  refine x_bipush (v := nI 12) rfl rfl (by decide +kernel) ?_
                  refine x_icmpN_ne (by omega) (by omega) rfl rfl (fun hc27 => ?_) (fun hc27 => absurd hc27 (by omega))
                  refine x_iload_n rfl rfl rfl ?_
                  refine x_bipush (v := nI 10) rfl rfl (by decide +kernel) ?_
                  refine x_icmpN_ne (by omega) (by omega) rfl rfl (fun hc28 => absurd hc28 (by omega)) (fun hc28 => ?_)
                  refine x_aload_n rfl rfl rfl ?_
                  refine x_getR0 rfl rfl f_9_36 rfl (by decide) rfl rfl ?_
                  refine x_iload rfl rfl rfl ?_
                  refine x_iload rfl rfl rfl ?_
                  refine x_iconstN (b := 4) rfl rfl ?_
                  refine x_iremN (a := b1) (b := 4) (by omega) (by omega) (by omega) rfl rfl ?_
                  refine x_iconstN (b := 1) rfl rfl ?_
                  refine x_icmpN_ne (by omega) (by omega) rfl rfl (fun hc29 => ?_) (fun hc29 => ?_)
                  · refine x_aload_n rfl rfl rfl ?_
                    refine x_iload rfl rfl rfl ?_
                    refine x_iload_n rfl rfl rfl ?_
                    refine q_call (d2 := 5) (c_mtakeTraits (nn := b1) (np := s0.1) hG (Nat.le_refl 5) hw2 hRLn hn1 (by omega) (by omega) (by omega)) hS2 (fun _ _ z => onMDT (onMD_pre hp2 (Nat.le_refl h) z)) rfl rfl v_9_276 rfl rfl (by decide) rfl rfl (Nat.le_of_ble_eq_true rfl) (by omega) (fun b3 s3 M3 e3 hq3 hE3 hS3 => ?_) (fun f3 b3 M3 e3 hf3 hl3 hS3 => ?_)
                    · have hw3 := hq3
                      have hpp3 := rTr_pre e3 hw2.2.2.2.1.2.2.2.2.2.2.1
                      have hph3 := rTr_H e3
                      have hp3 := hp2.tr hpp3.1
                      have ho3 : M3.1 (40, 0) 28 = nI h := (hE3 _ _ (by simp [onMT])).1.trans ho2
                      have hg3 := (hE3 (40, 0) 38 (by simp [onMT])).2.trans hg2
                      have hpt3 := hpt2.eqM hE3 (fun r h1 => by unfold onMT; simp; omega) (fun j _ => by simp [onMT]) (fun r h1 j _ => by unfold onMT; simp; omega)
                      have htl := hpp3.2
                      have ht12 := hw3.2.2.2.1.2.1
                      have hyn3 : (pH s3)[(pH s1).length]? = some (10, 0, 0, [], [], []) := by rw [hph3]; exact hyn
                      have hphn3 : (pH s3).length = (pH s1).length + 1 := by rw [hph3]; exact hphn
                      obtain ⟨y, hy⟩ : ∃ y, (pT s3)[b3]? = some y := ⟨_, List.getElem?_eq_getElem htl⟩
                      have hyt := hw3.2.2.1.2.2.2.2.2.2.2.1 b3 y hy
                      have etr : trAt s3 b3 = y := by unfold trAt; rw [hy]; rfl
                      dsimp only
                      rw [etr]
                      refine x_iast (a := (pH s1).length) rfl rfl rfl (by decide) (by omega) (by decide) ?_
                      refine x_aload_n rfl rfl rfl ?_
                      refine x_getR0 rfl rfl f_9_33 rfl (by decide) rfl rfl ?_
                      refine x_iload rfl rfl rfl ?_
                      refine x_aload_n rfl rfl rfl ?_
                      refine x_callVi (d2 := 0) (c_mgoesT hG (by first | exact hw3.1.2.1 | (rw [← hw3.1.2.1]; rfl) | simp [ui, ul, hw3.1.2.1])) rfl rfl v_9_238 rfl rfl (by decide) rfl rfl (Nat.le_of_ble_eq_true rfl) (by omega) (by omega) ?_
                      refine x_if_eq rfl rfl (fun hc30 => absurd hc30 (by decide +kernel)) (fun _ => ?_)
                      refine x_aload_n rfl rfl rfl ?_
                      refine x_getR0 rfl rfl f_9_20 rfl (by decide) rfl rfl ?_
                      refine x_aload_n rfl rfl rfl ?_
                      refine x_getR0 rfl rfl f_9_36 rfl (by decide) rfl rfl ?_
                      refine x_iload rfl rfl rfl ?_
                      refine x_ialdv (a := (pH s1).length) (v := nI b3) (by first | rfl | simp [ui, ul]) rfl rfl rfl (by decide) (by omega) (by decide) ?_
                      refine x_ialdv (a := b3) (v := nI ((rM y).length)) (by first | exact hyt.2.2.1 | (rw [← hyt.2.2.1]; rfl) | simp [ui, ul, hyt.2.2.1]) rfl rfl rfl (by decide) (by omega) (by decide) ?_
                      refine x_goto rfl rfl ?_
                      refine x_iast (a := (pH s1).length) rfl rfl rfl (by decide) (by omega) (by decide) ?_
                      refine x_aload_n rfl rfl rfl ?_
                      refine x_callVi (d2 := 0) (c_mgoesT hG (by first | exact hw3.1.2.1 | (rw [← hw3.1.2.1]; rfl) | simp [ui, ul, hw3.1.2.1])) rfl rfl v_9_238 rfl rfl (by decide) rfl rfl (Nat.le_of_ble_eq_true rfl) (by omega) (by omega) ?_
                      refine x_if_eq rfl rfl (fun hc31 => absurd hc31 (by decide +kernel)) (fun _ => ?_)
                      refine x_aload_n rfl rfl rfl ?_
                      refine x_iload rfl rfl rfl ?_
                      by_cases hdy : rD y = true
                      · refine x_callVv (d2 := 2) (c_mpush10D hG (Nat.le_refl 2) (h := h) (n := (pH s3).length) (i := (pH s1).length) (t := b3) (by simpa [ui] using ho3) (by omega) (by simpa [ui] using hw3.2.2.1.2.2.2.2.2.2.2.2.1) (by omega) (by omega) (by simpa [ui] using hpt3.1) (by omega) (rD y = true) (by simp [ui]) (by simpa [ui] using hyt.2.1) hdy) rfl rfl v_9_214 rfl rfl (by decide) rfl rfl (Nat.le_of_ble_eq_true rfl) (by omega) (by omega) ?_
                        exact q_retV rfl (((((((hS3.ui (by first | (unfold onMD; simp; done) | (unfold onMD; simp; omega))).ui (by first | (unfold onMD; simp; done) | (unfold onMD; simp; omega))).ui (by first | (unfold onMD; simp; done) | (unfold onMD; simp; omega))).ui (by first | (unfold onMD; simp; done) | (unfold onMD; simp; omega))).ui (by first | (unfold onMD; simp; done) | (unfold onMD; simp; omega))).ui (by first | (unfold onMD; simp; done) | (unfold onMD; simp; omega))).ui (by first | (unfold onMD; simp; done) | (unfold onMD; simp; omega))) ⟨hw3.eqO ((((((((EqF.rf.ui (by simp [onO])).ui (by simp [onO])).ui (by simp [onO])).ui (by simp [onO])).ui (by simp [onO])).ui (by simp [onO])).ui (by simp [onO]))), by simpa [ui] using hg3, hp3, ⟨hphl1, hyn3, hphn3, by omega, Or.inr rfl, by show (rM y).length ≤ 8; have := hyt.2.2.2.2; omega, fun _ => ⟨htl, by show _ = (rM (trAt s3 b3)).length; rw [etr]⟩, (hpt3.tu (tr2 := nI b3) (c2 := (rM y).length)).eqM (on := fun k _ => k.1 ≠ 40 ∧ ¬ (59 ≤ k.1 ∧ k.1 ≤ 62)) ((((((EqF.rf.ui (by simp)).ui (by simp)).ui (by simp)).ui (by simp)).ui (by simp))) (fun r h1 => by simp; omega) (fun j _ => by simp) (fun r h1 j _ => by simp; omega), by simp [ui], by simp [ui], by simp [ui], by simp [ui], by rw [bI_f (fun z => z.2 (by show rD (trAt s3 b3) = true; rw [etr]; exact hdy))]; simp [ui]⟩⟩ rfl rfl rfl
                      · refine x_callVv (d2 := 2) (c_mpush10S hG (Nat.le_refl 2) (h := h) (n := (pH s3).length) (i := (pH s1).length) (t := b3) (by simpa [ui] using ho3) (by omega) (by simpa [ui] using hw3.2.2.1.2.2.2.2.2.2.2.2.1) (by omega) (by omega) (by simpa [ui] using hpt3.1) (by omega) (rD y = true) (by simp [ui]) (by simpa [ui] using hyt.2.1) hdy) rfl rfl v_9_214 rfl rfl (by decide) rfl rfl (Nat.le_of_ble_eq_true rfl) (by omega) (by omega) ?_
                        exact q_retV rfl (((((((hS3.ui (by first | (unfold onMD; simp; done) | (unfold onMD; simp; omega))).ui (by first | (unfold onMD; simp; done) | (unfold onMD; simp; omega))).ui (by first | (unfold onMD; simp; done) | (unfold onMD; simp; omega))).ui (by first | (unfold onMD; simp; done) | (unfold onMD; simp; omega))).ui (by first | (unfold onMD; simp; done) | (unfold onMD; simp; omega))).ui (by first | (unfold onMD; simp; done) | (unfold onMD; simp; omega))).ui (by first | (unfold onMD; simp; done) | (unfold onMD; simp; omega))) ⟨hw3.eqO ((((((((EqF.rf.ui (by simp [onO])).ui (by simp [onO])).ui (by simp [onO])).ui (by simp [onO])).ui (by simp [onO])).ui (by simp [onO])).ui (by simp [onO]))), by simpa [ui] using hg3, hp3, ⟨hphl1, hyn3, hphn3, by omega, Or.inr rfl, by show (rM y).length ≤ 8; have := hyt.2.2.2.2; omega, fun _ => ⟨htl, by show _ = (rM (trAt s3 b3)).length; rw [etr]⟩, (hpt3.tu (tr2 := nI b3) (c2 := (rM y).length)).eqM (on := fun k _ => k.1 ≠ 40 ∧ ¬ (59 ≤ k.1 ∧ k.1 ≤ 62)) ((((((EqF.rf.ui (by simp)).ui (by simp)).ui (by simp)).ui (by simp)).ui (by simp))) (fun r h1 => by simp; omega) (fun j _ => by simp) (fun r h1 j _ => by simp; omega), by simp [ui], by simp [ui], by simp [ui], by simp [ui], by rw [bI_t ⟨rfl, fun z => hdy (by rw [← etr]; exact z)⟩]; simp [ui]⟩⟩ rfl rfl rfl
                    · refine x_iast (a := (pH s1).length) rfl rfl rfl (by decide) (by omega) (by decide) ?_
                      refine x_aload_n rfl rfl rfl ?_
                      refine x_getR0 rfl rfl f_9_33 rfl (by decide) rfl rfl ?_
                      refine x_iload rfl rfl rfl ?_
                      refine x_aload_n rfl rfl rfl ?_
                      refine x_callVi (d2 := 0) (c_mgoesF hG (f := f3) (by first | exact hf3 | (rw [← hf3]; rfl) | simp [ui, ul, hf3]) (by omega)) rfl rfl v_9_238 rfl rfl (by decide) rfl rfl (Nat.le_of_ble_eq_true rfl) (by omega) (by omega) ?_
                      refine x_if_eq rfl rfl (fun _ => ?_) (fun hc32 => absurd hc32 (by decide +kernel))
                      refine x_iconstN (b := 0) rfl rfl ?_
                      refine x_iast (a := (pH s1).length) rfl rfl rfl (by decide) (by omega) (by decide) ?_
                      refine x_aload_n rfl rfl rfl ?_
                      refine x_callVi (d2 := 0) (c_mgoesF hG (f := f3) (by first | exact hf3 | (rw [← hf3]; rfl) | simp [ui, ul, hf3]) (by omega)) rfl rfl v_9_238 rfl rfl (by decide) rfl rfl (Nat.le_of_ble_eq_true rfl) (by omega) (by omega) ?_
                      refine x_if_eq rfl rfl (fun _ => ?_) (fun hc33 => absurd hc33 (by decide +kernel))
                      exact q_flV (0, none) (f := f3) (rfl) ((hS3.ui (by first | (unfold onMD; simp; done) | (unfold onMD; simp; omega))).ui (by first | (unfold onMD; simp; done) | (unfold onMD; simp; omega))) (by first | exact hf3 | (rw [← hf3]; rfl) | simp [ui, ul, hf3]) (by omega) rfl rfl rfl
                  · obtain ⟨t, ht⟩ : ∃ t, (pR s2)[b1 / 4]? = some t := ⟨_, List.getElem?_eq_getElem (by rw [hpRn]; omega)⟩
                    have htl := hw2.2.2.2.1.2.2.2.2.2.2.1 t (at_mem ht)
                    have ht12 := hw2.2.2.2.1.2.1
                    obtain ⟨y, hy⟩ : ∃ y, (pT s2)[t]? = some y := ⟨_, List.getElem?_eq_getElem htl⟩
                    have hyt := hw2.2.2.1.2.2.2.2.2.2.2.1 t y hy
                    have etr : trAt s2 t = y := by unfold trAt; rw [hy]; rfl
                    rw [rTr_k1 (by omega) ht]
                    dsimp only [rb]
                    rw [etr]
                    refine x_aload_n rfl rfl rfl ?_
                    refine x_getR0 rfl rfl f_9_63 rfl (by decide) rfl rfl ?_
                    refine x_iload rfl rfl rfl ?_
                    refine x_iconstN (b := 4) rfl rfl ?_
                    refine x_idivN (a := b1) (b := 4) (by omega) (by omega) (by omega) rfl rfl ?_
                    refine x_ialdv (a := b1 / 4) (v := nI t) (hw2.2.2.1.2.2.2.1 _ _ ht) rfl rfl rfl (by decide) (by omega) (by decide) ?_
                    refine x_goto rfl rfl ?_
                    refine x_iast (a := (pH s1).length) rfl rfl rfl (by decide) (by omega) (by decide) ?_
                    refine x_aload_n rfl rfl rfl ?_
                    refine x_getR0 rfl rfl f_9_33 rfl (by decide) rfl rfl ?_
                    refine x_iload rfl rfl rfl ?_
                    refine x_aload_n rfl rfl rfl ?_
                    refine x_callVi (d2 := 0) (c_mgoesT hG (by first | exact hw2.1.2.1 | (rw [← hw2.1.2.1]; rfl) | simp [ui, ul, hw2.1.2.1])) rfl rfl v_9_238 rfl rfl (by decide) rfl rfl (Nat.le_of_ble_eq_true rfl) (by omega) (by omega) ?_
                    refine x_if_eq rfl rfl (fun hc34 => absurd hc34 (by decide +kernel)) (fun _ => ?_)
                    refine x_aload_n rfl rfl rfl ?_
                    refine x_getR0 rfl rfl f_9_20 rfl (by decide) rfl rfl ?_
                    refine x_aload_n rfl rfl rfl ?_
                    refine x_getR0 rfl rfl f_9_36 rfl (by decide) rfl rfl ?_
                    refine x_iload rfl rfl rfl ?_
                    refine x_ialdv (a := (pH s1).length) (v := nI t) (by first | rfl | simp [ui, ul]) rfl rfl rfl (by decide) (by omega) (by decide) ?_
                    refine x_ialdv (a := t) (v := nI ((rM y).length)) (by first | exact hyt.2.2.1 | (rw [← hyt.2.2.1]; rfl) | simp [ui, ul, hyt.2.2.1]) rfl rfl rfl (by decide) (by omega) (by decide) ?_
                    refine x_goto rfl rfl ?_
                    refine x_iast (a := (pH s1).length) rfl rfl rfl (by decide) (by omega) (by decide) ?_
                    refine x_aload_n rfl rfl rfl ?_
                    refine x_callVi (d2 := 0) (c_mgoesT hG (by first | exact hw2.1.2.1 | (rw [← hw2.1.2.1]; rfl) | simp [ui, ul, hw2.1.2.1])) rfl rfl v_9_238 rfl rfl (by decide) rfl rfl (Nat.le_of_ble_eq_true rfl) (by omega) (by omega) ?_
                    refine x_if_eq rfl rfl (fun hc35 => absurd hc35 (by decide +kernel)) (fun _ => ?_)
                    refine x_aload_n rfl rfl rfl ?_
                    refine x_iload rfl rfl rfl ?_
                    by_cases hdy : rD y = true
                    · refine x_callVv (d2 := 2) (c_mpush10D hG (Nat.le_refl 2) (h := h) (n := (pH s2).length) (i := (pH s1).length) (t := t) (by simpa [ui] using ho2) (by omega) (by simpa [ui] using hw2.2.2.1.2.2.2.2.2.2.2.2.1) (by omega) (by omega) (by simpa [ui] using hpt2.1) (by omega) (rD y = true) (by simp [ui]) (by simpa [ui] using hyt.2.1) hdy) rfl rfl v_9_214 rfl rfl (by decide) rfl rfl (Nat.le_of_ble_eq_true rfl) (by omega) (by omega) ?_
                      exact q_retV rfl (((((((hS2.ui (by first | (unfold onMD; simp; done) | (unfold onMD; simp; omega))).ui (by first | (unfold onMD; simp; done) | (unfold onMD; simp; omega))).ui (by first | (unfold onMD; simp; done) | (unfold onMD; simp; omega))).ui (by first | (unfold onMD; simp; done) | (unfold onMD; simp; omega))).ui (by first | (unfold onMD; simp; done) | (unfold onMD; simp; omega))).ui (by first | (unfold onMD; simp; done) | (unfold onMD; simp; omega))).ui (by first | (unfold onMD; simp; done) | (unfold onMD; simp; omega))) ⟨hw2.eqO ((((((((EqF.rf.ui (by simp [onO])).ui (by simp [onO])).ui (by simp [onO])).ui (by simp [onO])).ui (by simp [onO])).ui (by simp [onO])).ui (by simp [onO]))), by simpa [ui] using hg2, hp2, ⟨hphl1, hyn, hphn, by omega, Or.inr rfl, by show (rM y).length ≤ 8; have := hyt.2.2.2.2; omega, fun _ => ⟨htl, by show _ = (rM (trAt s2 t)).length; rw [etr]⟩, (hpt2.tu (tr2 := nI t) (c2 := (rM y).length)).eqM (on := fun k _ => k.1 ≠ 40 ∧ ¬ (59 ≤ k.1 ∧ k.1 ≤ 62)) ((((((EqF.rf.ui (by simp)).ui (by simp)).ui (by simp)).ui (by simp)).ui (by simp))) (fun r h1 => by simp; omega) (fun j _ => by simp) (fun r h1 j _ => by simp; omega), by simp [ui], by simp [ui], by simp [ui], by simp [ui], by rw [bI_f (fun z => z.2 (by show rD (trAt s2 t) = true; rw [etr]; exact hdy))]; simp [ui]⟩⟩ rfl rfl rfl
                    · refine x_callVv (d2 := 2) (c_mpush10S hG (Nat.le_refl 2) (h := h) (n := (pH s2).length) (i := (pH s1).length) (t := t) (by simpa [ui] using ho2) (by omega) (by simpa [ui] using hw2.2.2.1.2.2.2.2.2.2.2.2.1) (by omega) (by omega) (by simpa [ui] using hpt2.1) (by omega) (rD y = true) (by simp [ui]) (by simpa [ui] using hyt.2.1) hdy) rfl rfl v_9_214 rfl rfl (by decide) rfl rfl (Nat.le_of_ble_eq_true rfl) (by omega) (by omega) ?_
                      exact q_retV rfl (((((((hS2.ui (by first | (unfold onMD; simp; done) | (unfold onMD; simp; omega))).ui (by first | (unfold onMD; simp; done) | (unfold onMD; simp; omega))).ui (by first | (unfold onMD; simp; done) | (unfold onMD; simp; omega))).ui (by first | (unfold onMD; simp; done) | (unfold onMD; simp; omega))).ui (by first | (unfold onMD; simp; done) | (unfold onMD; simp; omega))).ui (by first | (unfold onMD; simp; done) | (unfold onMD; simp; omega))).ui (by first | (unfold onMD; simp; done) | (unfold onMD; simp; omega))) ⟨hw2.eqO ((((((((EqF.rf.ui (by simp [onO])).ui (by simp [onO])).ui (by simp [onO])).ui (by simp [onO])).ui (by simp [onO])).ui (by simp [onO])).ui (by simp [onO]))), by simpa [ui] using hg2, hp2, ⟨hphl1, hyn, hphn, by omega, Or.inr rfl, by show (rM y).length ≤ 8; have := hyt.2.2.2.2; omega, fun _ => ⟨htl, by show _ = (rM (trAt s2 t)).length; rw [etr]⟩, (hpt2.tu (tr2 := nI t) (c2 := (rM y).length)).eqM (on := fun k _ => k.1 ≠ 40 ∧ ¬ (59 ≤ k.1 ∧ k.1 ≤ 62)) ((((((EqF.rf.ui (by simp)).ui (by simp)).ui (by simp)).ui (by simp)).ui (by simp))) (fun r h1 => by simp; omega) (fun j _ => by simp) (fun r h1 j _ => by simp; omega), by simp [ui], by simp [ui], by simp [ui], by simp [ui], by rw [bI_t ⟨rfl, fun z => hdy (by rw [← etr]; exact z)⟩]; simp [ui]⟩⟩ rfl rfl rfl
                · refine x_iconstN (b := 1) rfl rfl ?_
                  refine x_goto rfl rfl ?_
                  refine x_istore rfl rfl rfl rfl ?_
                  refine x_iload rfl rfl rfl ?_
                  refine x_if_eq rfl rfl (fun hc36 => absurd hc36 (by decide +kernel)) (fun _ => ?_)
                  refine x_aload_n rfl rfl rfl ?_
                  refine x_iload_n rfl rfl rfl ?_
                  refine x_callVv (d2 := 0) (c_mstopT hG (nI (s0.1)) hw1.1.2.1) rfl rfl v_9_245 rfl rfl (by decide) rfl rfl (Nat.le_of_ble_eq_true rfl) (by omega) (by omega) ?_
                  exact q_flV (0, none) (f := s0.1) (by rw [rhT_10 hc2 (by omega) (by omega)]; rw [rTr_k0 (s := newH 10 s1) (by omega) (List.getElem?_eq_none (show (pR s1).length ≤ _ by omega))]; rfl) (hS1.ui (by first | (unfold onMD; simp; done) | (unfold onMD; simp; omega))) (by first | rfl | simp [ui, ul]) (by omega) rfl rfl rfl
            · refine x_iload rfl rfl rfl ?_
              refine x_bipush (v := nI 16) rfl rfl (by decide +kernel) ?_
              refine x_idivN (a := b1) (b := 16) (by omega) (by omega) (by omega) rfl rfl ?_
              refine x_iconstN (b := 3) rfl rfl ?_
              refine x_icmpN_gt (by omega) (by omega) rfl rfl (fun hc37 => ?_) (fun hc37 => ?_)
              · refine x_iconstN (b := 1) rfl rfl ?_
                refine x_goto rfl rfl ?_
                refine x_istore rfl rfl rfl rfl ?_
                refine x_iload rfl rfl rfl ?_
                refine x_if_eq rfl rfl (fun hc38 => absurd hc38 (by decide +kernel)) (fun _ => ?_)
                refine x_aload_n rfl rfl rfl ?_
                refine x_iload_n rfl rfl rfl ?_
                refine x_callVv (d2 := 0) (c_mstopT hG (nI (s0.1)) hw1.1.2.1) rfl rfl v_9_245 rfl rfl (by decide) rfl rfl (Nat.le_of_ble_eq_true rfl) (by omega) (by omega) ?_
                exact q_flV (0, none) (f := s0.1) (by rw [rhT_10 hc2 (by omega) (by omega)]; rw [rTr_x (by omega) (by omega)]; rfl) (hS1.ui (by first | (unfold onMD; simp; done) | (unfold onMD; simp; omega))) (by first | rfl | simp [ui, ul]) (by omega) rfl rfl rfl
              · refine x_iload rfl rfl rfl ?_
                refine x_iconstN (b := 4) rfl rfl ?_
                refine x_iremN (a := b1) (b := 4) (by omega) (by omega) (by omega) rfl rfl ?_
                refine x_iconstN (b := 1) rfl rfl ?_
                refine x_icmpN_ne (by omega) (by omega) rfl rfl (fun hc39 => ?_) (fun hc39 => ?_)
                · refine x_iconstN (b := 0) rfl rfl ?_
                  refine x_goto rfl rfl ?_
                  refine x_istore rfl rfl rfl rfl ?_
                  refine x_iload rfl rfl rfl ?_
                  refine x_if_eq rfl rfl (fun _ => ?_) (fun hc40 => absurd hc40 (by decide +kernel))
                  refine x_aload_n rfl rfl rfl ?_
                  refine x_iload_n rfl rfl rfl ?_
                  refine x_lconst (v := 0) rfl rfl (by decide +kernel) ?_
                  refine x_iload_n rfl rfl rfl ?_
                  refine x_bipush (v := nI 10) rfl rfl (by decide +kernel) ?_
                  refine x_icmpN_eq (by omega) (by omega) rfl rfl (fun hc41 => ?_) (fun hc41 => absurd hc41 (by omega))
                  refine x_iconstN (b := 0) rfl rfl ?_
                  refine x_goto rfl rfl ?_
                  refine x_iconst (v := -1) rfl rfl (by decide +kernel) ?_
                  refine x_callVi (d2 := 0) (c_mnewThing hG (nI 10) (nI (0)) (-1) 0 hw1.2.2.1.2.2.2.2.2.2.2.2.1 (by omega)) rfl rfl v_9_134 rfl rfl (by decide) rfl rfl (Nat.le_of_ble_eq_true rfl) (by omega) (by omega) ?_
                  refine x_istore rfl rfl rfl rfl ?_
                  refine x_aload_n rfl rfl rfl ?_
                  refine x_getR0 rfl rfl f_9_60 rfl (by decide) rfl rfl ?_
                  refine x_aload_n rfl rfl rfl ?_
                  refine x_getIv (v := nI ((pL s1).length)) (by first | exact hw1.2.2.1.1 | (rw [← hw1.2.2.1.1]; rfl) | simp [ui, ul, hw1.2.2.1.1]) rfl rfl f_9_211 rfl (by decide) rfl ?_
                  refine x_iload rfl rfl rfl ?_
                  refine x_iast (a := (pL s1).length) rfl rfl rfl (by decide) (by omega) (by decide) ?_
                  refine x_aload_n rfl rfl rfl ?_
                  refine x_dup rfl rfl rfl ?_
                  refine x_getIv (v := nI ((pL s1).length)) (by first | exact hw1.2.2.1.1 | (rw [← hw1.2.2.1.1]; rfl) | simp [ui, ul, hw1.2.2.1.1]) rfl rfl f_9_211 rfl (by decide) rfl ?_
                  refine x_iconstN (b := 1) rfl rfl ?_
                  refine x_iaddN (a := (pL s1).length) (b := 1) rfl rfl ?_
                  refine x_putI rfl rfl f_9_211 rfl rfl (by decide) rfl ?_
                  refine x_aload_n rfl rfl rfl ?_
                  refine x_aload_n rfl rfl rfl ?_
                  refine x_iload rfl rfl rfl ?_
                  refine x_callVl (d2 := 0) (c_mvalueOf hG (i := (pH s1).length) (by omega)) rfl rfl v_9_138 rfl rfl (by decide) rfl rfl (Nat.le_of_ble_eq_true rfl) (by omega) (by omega) ?_
                  refine x_putL rfl rfl f_9_255 rfl rfl (by decide) rfl ?_
                  obtain ⟨s2, es2⟩ : ∃ s2, s2 = newH 10 s1 := ⟨_, rfl⟩
                  obtain ⟨M2, eM2⟩ : ∃ M2, M2 = (ul (ui (ui (ui (ul (ul (ul (ul (ul (ul (ul (ul (ui (ui (ui (ul (ui M1 (46, 0) ((pH s1).length) (nI 10)) (47, 0) ((pH s1).length) 0) (48, 0) ((pH s1).length) (nI 0)) (49, 0) ((pH s1).length) ((-1))) (51, 0) ((pH s1).length) (nI 0)) (50, 0) (8 * (pH s1).length + 0) 0) (50, 0) (8 * (pH s1).length + 1) 0) (50, 0) (8 * (pH s1).length + 2) 0) (50, 0) (8 * (pH s1).length + 3) 0) (50, 0) (8 * (pH s1).length + 4) 0) (50, 0) (8 * (pH s1).length + 5) 0) (50, 0) (8 * (pH s1).length + 6) 0) (50, 0) (8 * (pH s1).length + 7) 0) (40, 0) 8 (nI ((pH s1).length + 1))) (57, 0) ((pL s1).length) (nI ((pH s1).length))) (40, 0) 24 (nI (((pL s1).length) + 1))) (40, 0) 38 (16 * lN ((pH s1).length) + 7)) := ⟨_, rfl⟩
                  have hlt : (pH s1).length < 40 := by omega
                  have hw2 : RdM row al s2 M2 := by rw [es2, eM2]; exact hw1.new hlt (by decide)
                  have hpt2 : MPt 10 0 (-1) [] [] [] (pH s1).length M2 := by rw [eM2]; exact MPt.new
                  have hS2 : EqF (onMD h s0) M M2 := by rw [eM2]; exact hS1.tr (eqM_new.sub fun k j z => onMD_new hphl1 z)
                  have ho2 : M2.1 (40, 0) 28 = nI h := by rw [eM2]; exact (eqM_new (40, 0) 28 (by simp)).1.trans ho1
                  have hg2 : M2.2 (40, 0) 38 = 16 * lN (pH s1).length + 7 := by rw [eM2]; simp [ul]
                  have hp2 : Pre s0 s2 := by rw [es2]; exact hp1.tr Pre.new
                  have hphn : (pH s2).length = (pH s1).length + 1 := by rw [es2]; exact newH_len _ _
                  have hyn : (pH s2)[(pH s1).length]? = some (10, 0, 0, [], [], []) := by rw [es2]; exact newH_at _ _
                  have hRLn : (pR s2).length < (pL s2).length := by rw [es2]; show (pR s1).length < (pL s1 ++ [(pH s1).length]).length; simp; omega
                  have hpRn : pR s2 = pR s1 := by rw [es2]; rfl
                  refine x_eq (M2 := M2) ?_ rfl rfl eM2.symm
                  rw [rhT_10 hc2 (by omega) (by omega), ← es2]
                  refine x_iload_n rfl rfl rfl ?_
                  refine x_bipush (v := nI 8) rfl rfl (by decide +kernel) ?_
                  refine x_icmpN_ne (by omega) (by omega) rfl rfl (fun hc42 => ?_) (fun hc42 => absurd hc42 (by omega))
                  refine x_iload_n rfl rfl rfl ?_
                  refine x_bipush (v := nI 12) rfl rfl (by decide +kernel) ?_
                  refine x_icmpN_ne (by omega) (by omega) rfl rfl (fun hc43 => ?_) (fun hc43 => absurd hc43 (by omega))
                  refine x_iload_n rfl rfl rfl ?_
                  refine x_bipush (v := nI 10) rfl rfl (by decide +kernel) ?_
                  refine x_icmpN_ne (by omega) (by omega) rfl rfl (fun hc44 => absurd hc44 (by omega)) (fun hc44 => ?_)
                  refine x_aload_n rfl rfl rfl ?_
                  refine x_getR0 rfl rfl f_9_36 rfl (by decide) rfl rfl ?_
                  refine x_iload rfl rfl rfl ?_
                  refine x_iload rfl rfl rfl ?_
                  refine x_iconstN (b := 4) rfl rfl ?_
                  refine x_iremN (a := b1) (b := 4) (by omega) (by omega) (by omega) rfl rfl ?_
                  refine x_iconstN (b := 1) rfl rfl ?_
                  refine x_icmpN_ne (by omega) (by omega) rfl rfl (fun hc45 => ?_) (fun hc45 => ?_)
                  · refine x_aload_n rfl rfl rfl ?_
                    refine x_iload rfl rfl rfl ?_
                    refine x_iload_n rfl rfl rfl ?_
                    refine q_call (d2 := 5) (c_mtakeTraits (nn := b1) (np := s0.1) hG (Nat.le_refl 5) hw2 hRLn hn1 (by omega) (by omega) (by omega)) hS2 (fun _ _ z => onMDT (onMD_pre hp2 (Nat.le_refl h) z)) rfl rfl v_9_276 rfl rfl (by decide) rfl rfl (Nat.le_of_ble_eq_true rfl) (by omega) (fun b3 s3 M3 e3 hq3 hE3 hS3 => ?_) (fun f3 b3 M3 e3 hf3 hl3 hS3 => ?_)
                    · have hw3 := hq3
                      have hpp3 := rTr_pre e3 hw2.2.2.2.1.2.2.2.2.2.2.1
                      have hph3 := rTr_H e3
                      have hp3 := hp2.tr hpp3.1
                      have ho3 : M3.1 (40, 0) 28 = nI h := (hE3 _ _ (by simp [onMT])).1.trans ho2
                      have hg3 := (hE3 (40, 0) 38 (by simp [onMT])).2.trans hg2
                      have hpt3 := hpt2.eqM hE3 (fun r h1 => by unfold onMT; simp; omega) (fun j _ => by simp [onMT]) (fun r h1 j _ => by unfold onMT; simp; omega)
                      have htl := hpp3.2
                      have ht12 := hw3.2.2.2.1.2.1
                      have hyn3 : (pH s3)[(pH s1).length]? = some (10, 0, 0, [], [], []) := by rw [hph3]; exact hyn
                      have hphn3 : (pH s3).length = (pH s1).length + 1 := by rw [hph3]; exact hphn
                      obtain ⟨y, hy⟩ : ∃ y, (pT s3)[b3]? = some y := ⟨_, List.getElem?_eq_getElem htl⟩
                      have hyt := hw3.2.2.1.2.2.2.2.2.2.2.1 b3 y hy
                      have etr : trAt s3 b3 = y := by unfold trAt; rw [hy]; rfl
                      dsimp only
                      rw [etr]
                      refine x_iast (a := (pH s1).length) rfl rfl rfl (by decide) (by omega) (by decide) ?_
                      refine x_aload_n rfl rfl rfl ?_
                      refine x_getR0 rfl rfl f_9_33 rfl (by decide) rfl rfl ?_
                      refine x_iload rfl rfl rfl ?_
                      refine x_aload_n rfl rfl rfl ?_
                      refine x_callVi (d2 := 0) (c_mgoesT hG (by first | exact hw3.1.2.1 | (rw [← hw3.1.2.1]; rfl) | simp [ui, ul, hw3.1.2.1])) rfl rfl v_9_238 rfl rfl (by decide) rfl rfl (Nat.le_of_ble_eq_true rfl) (by omega) (by omega) ?_
                      refine x_if_eq rfl rfl (fun hc46 => absurd hc46 (by decide +kernel)) (fun _ => ?_)
                      refine x_aload_n rfl rfl rfl ?_
                      refine x_getR0 rfl rfl f_9_20 rfl (by decide) rfl rfl ?_
                      refine x_aload_n rfl rfl rfl ?_
                      refine x_getR0 rfl rfl f_9_36 rfl (by decide) rfl rfl ?_
                      refine x_iload rfl rfl rfl ?_
                      refine x_ialdv (a := (pH s1).length) (v := nI b3) (by first | rfl | simp [ui, ul]) rfl rfl rfl (by decide) (by omega) (by decide) ?_
                      refine x_ialdv (a := b3) (v := nI ((rM y).length)) (by first | exact hyt.2.2.1 | (rw [← hyt.2.2.1]; rfl) | simp [ui, ul, hyt.2.2.1]) rfl rfl rfl (by decide) (by omega) (by decide) ?_
                      refine x_goto rfl rfl ?_
                      refine x_iast (a := (pH s1).length) rfl rfl rfl (by decide) (by omega) (by decide) ?_
                      refine x_aload_n rfl rfl rfl ?_
                      refine x_callVi (d2 := 0) (c_mgoesT hG (by first | exact hw3.1.2.1 | (rw [← hw3.1.2.1]; rfl) | simp [ui, ul, hw3.1.2.1])) rfl rfl v_9_238 rfl rfl (by decide) rfl rfl (Nat.le_of_ble_eq_true rfl) (by omega) (by omega) ?_
                      refine x_if_eq rfl rfl (fun hc47 => absurd hc47 (by decide +kernel)) (fun _ => ?_)
                      refine x_aload_n rfl rfl rfl ?_
                      refine x_iload rfl rfl rfl ?_
                      by_cases hdy : rD y = true
                      · refine x_callVv (d2 := 2) (c_mpush10D hG (Nat.le_refl 2) (h := h) (n := (pH s3).length) (i := (pH s1).length) (t := b3) (by simpa [ui] using ho3) (by omega) (by simpa [ui] using hw3.2.2.1.2.2.2.2.2.2.2.2.1) (by omega) (by omega) (by simpa [ui] using hpt3.1) (by omega) (rD y = true) (by simp [ui]) (by simpa [ui] using hyt.2.1) hdy) rfl rfl v_9_214 rfl rfl (by decide) rfl rfl (Nat.le_of_ble_eq_true rfl) (by omega) (by omega) ?_
                        exact q_retV rfl (((((((hS3.ui (by first | (unfold onMD; simp; done) | (unfold onMD; simp; omega))).ui (by first | (unfold onMD; simp; done) | (unfold onMD; simp; omega))).ui (by first | (unfold onMD; simp; done) | (unfold onMD; simp; omega))).ui (by first | (unfold onMD; simp; done) | (unfold onMD; simp; omega))).ui (by first | (unfold onMD; simp; done) | (unfold onMD; simp; omega))).ui (by first | (unfold onMD; simp; done) | (unfold onMD; simp; omega))).ui (by first | (unfold onMD; simp; done) | (unfold onMD; simp; omega))) ⟨hw3.eqO ((((((((EqF.rf.ui (by simp [onO])).ui (by simp [onO])).ui (by simp [onO])).ui (by simp [onO])).ui (by simp [onO])).ui (by simp [onO])).ui (by simp [onO]))), by simpa [ui] using hg3, hp3, ⟨hphl1, hyn3, hphn3, by omega, Or.inr rfl, by show (rM y).length ≤ 8; have := hyt.2.2.2.2; omega, fun _ => ⟨htl, by show _ = (rM (trAt s3 b3)).length; rw [etr]⟩, (hpt3.tu (tr2 := nI b3) (c2 := (rM y).length)).eqM (on := fun k _ => k.1 ≠ 40 ∧ ¬ (59 ≤ k.1 ∧ k.1 ≤ 62)) ((((((EqF.rf.ui (by simp)).ui (by simp)).ui (by simp)).ui (by simp)).ui (by simp))) (fun r h1 => by simp; omega) (fun j _ => by simp) (fun r h1 j _ => by simp; omega), by simp [ui], by simp [ui], by simp [ui], by simp [ui], by rw [bI_f (fun z => z.2 (by show rD (trAt s3 b3) = true; rw [etr]; exact hdy))]; simp [ui]⟩⟩ rfl rfl rfl
                      · refine x_callVv (d2 := 2) (c_mpush10S hG (Nat.le_refl 2) (h := h) (n := (pH s3).length) (i := (pH s1).length) (t := b3) (by simpa [ui] using ho3) (by omega) (by simpa [ui] using hw3.2.2.1.2.2.2.2.2.2.2.2.1) (by omega) (by omega) (by simpa [ui] using hpt3.1) (by omega) (rD y = true) (by simp [ui]) (by simpa [ui] using hyt.2.1) hdy) rfl rfl v_9_214 rfl rfl (by decide) rfl rfl (Nat.le_of_ble_eq_true rfl) (by omega) (by omega) ?_
                        exact q_retV rfl (((((((hS3.ui (by first | (unfold onMD; simp; done) | (unfold onMD; simp; omega))).ui (by first | (unfold onMD; simp; done) | (unfold onMD; simp; omega))).ui (by first | (unfold onMD; simp; done) | (unfold onMD; simp; omega))).ui (by first | (unfold onMD; simp; done) | (unfold onMD; simp; omega))).ui (by first | (unfold onMD; simp; done) | (unfold onMD; simp; omega))).ui (by first | (unfold onMD; simp; done) | (unfold onMD; simp; omega))).ui (by first | (unfold onMD; simp; done) | (unfold onMD; simp; omega))) ⟨hw3.eqO ((((((((EqF.rf.ui (by simp [onO])).ui (by simp [onO])).ui (by simp [onO])).ui (by simp [onO])).ui (by simp [onO])).ui (by simp [onO])).ui (by simp [onO]))), by simpa [ui] using hg3, hp3, ⟨hphl1, hyn3, hphn3, by omega, Or.inr rfl, by show (rM y).length ≤ 8; have := hyt.2.2.2.2; omega, fun _ => ⟨htl, by show _ = (rM (trAt s3 b3)).length; rw [etr]⟩, (hpt3.tu (tr2 := nI b3) (c2 := (rM y).length)).eqM (on := fun k _ => k.1 ≠ 40 ∧ ¬ (59 ≤ k.1 ∧ k.1 ≤ 62)) ((((((EqF.rf.ui (by simp)).ui (by simp)).ui (by simp)).ui (by simp)).ui (by simp))) (fun r h1 => by simp; omega) (fun j _ => by simp) (fun r h1 j _ => by simp; omega), by simp [ui], by simp [ui], by simp [ui], by simp [ui], by rw [bI_t ⟨rfl, fun z => hdy (by rw [← etr]; exact z)⟩]; simp [ui]⟩⟩ rfl rfl rfl
                    · refine x_iast (a := (pH s1).length) rfl rfl rfl (by decide) (by omega) (by decide) ?_
                      refine x_aload_n rfl rfl rfl ?_
                      refine x_getR0 rfl rfl f_9_33 rfl (by decide) rfl rfl ?_
                      refine x_iload rfl rfl rfl ?_
                      refine x_aload_n rfl rfl rfl ?_
                      refine x_callVi (d2 := 0) (c_mgoesF hG (f := f3) (by first | exact hf3 | (rw [← hf3]; rfl) | simp [ui, ul, hf3]) (by omega)) rfl rfl v_9_238 rfl rfl (by decide) rfl rfl (Nat.le_of_ble_eq_true rfl) (by omega) (by omega) ?_
                      refine x_if_eq rfl rfl (fun _ => ?_) (fun hc48 => absurd hc48 (by decide +kernel))
                      refine x_iconstN (b := 0) rfl rfl ?_
                      refine x_iast (a := (pH s1).length) rfl rfl rfl (by decide) (by omega) (by decide) ?_
                      refine x_aload_n rfl rfl rfl ?_
                      refine x_callVi (d2 := 0) (c_mgoesF hG (f := f3) (by first | exact hf3 | (rw [← hf3]; rfl) | simp [ui, ul, hf3]) (by omega)) rfl rfl v_9_238 rfl rfl (by decide) rfl rfl (Nat.le_of_ble_eq_true rfl) (by omega) (by omega) ?_
                      refine x_if_eq rfl rfl (fun _ => ?_) (fun hc49 => absurd hc49 (by decide +kernel))
                      exact q_flV (0, none) (f := f3) (rfl) ((hS3.ui (by first | (unfold onMD; simp; done) | (unfold onMD; simp; omega))).ui (by first | (unfold onMD; simp; done) | (unfold onMD; simp; omega))) (by first | exact hf3 | (rw [← hf3]; rfl) | simp [ui, ul, hf3]) (by omega) rfl rfl rfl
                  · obtain ⟨t, ht⟩ : ∃ t, (pR s2)[b1 / 4]? = some t := ⟨_, List.getElem?_eq_getElem (by rw [hpRn]; omega)⟩
                    have htl := hw2.2.2.2.1.2.2.2.2.2.2.1 t (at_mem ht)
                    have ht12 := hw2.2.2.2.1.2.1
                    obtain ⟨y, hy⟩ : ∃ y, (pT s2)[t]? = some y := ⟨_, List.getElem?_eq_getElem htl⟩
                    have hyt := hw2.2.2.1.2.2.2.2.2.2.2.1 t y hy
                    have etr : trAt s2 t = y := by unfold trAt; rw [hy]; rfl
                    rw [rTr_k1 (by omega) ht]
                    dsimp only [rb]
                    rw [etr]
                    refine x_aload_n rfl rfl rfl ?_
                    refine x_getR0 rfl rfl f_9_63 rfl (by decide) rfl rfl ?_
                    refine x_iload rfl rfl rfl ?_
                    refine x_iconstN (b := 4) rfl rfl ?_
                    refine x_idivN (a := b1) (b := 4) (by omega) (by omega) (by omega) rfl rfl ?_
                    refine x_ialdv (a := b1 / 4) (v := nI t) (hw2.2.2.1.2.2.2.1 _ _ ht) rfl rfl rfl (by decide) (by omega) (by decide) ?_
                    refine x_goto rfl rfl ?_
                    refine x_iast (a := (pH s1).length) rfl rfl rfl (by decide) (by omega) (by decide) ?_
                    refine x_aload_n rfl rfl rfl ?_
                    refine x_getR0 rfl rfl f_9_33 rfl (by decide) rfl rfl ?_
                    refine x_iload rfl rfl rfl ?_
                    refine x_aload_n rfl rfl rfl ?_
                    refine x_callVi (d2 := 0) (c_mgoesT hG (by first | exact hw2.1.2.1 | (rw [← hw2.1.2.1]; rfl) | simp [ui, ul, hw2.1.2.1])) rfl rfl v_9_238 rfl rfl (by decide) rfl rfl (Nat.le_of_ble_eq_true rfl) (by omega) (by omega) ?_
                    refine x_if_eq rfl rfl (fun hc50 => absurd hc50 (by decide +kernel)) (fun _ => ?_)
                    refine x_aload_n rfl rfl rfl ?_
                    refine x_getR0 rfl rfl f_9_20 rfl (by decide) rfl rfl ?_
                    refine x_aload_n rfl rfl rfl ?_
                    refine x_getR0 rfl rfl f_9_36 rfl (by decide) rfl rfl ?_
                    refine x_iload rfl rfl rfl ?_
                    refine x_ialdv (a := (pH s1).length) (v := nI t) (by first | rfl | simp [ui, ul]) rfl rfl rfl (by decide) (by omega) (by decide) ?_
                    refine x_ialdv (a := t) (v := nI ((rM y).length)) (by first | exact hyt.2.2.1 | (rw [← hyt.2.2.1]; rfl) | simp [ui, ul, hyt.2.2.1]) rfl rfl rfl (by decide) (by omega) (by decide) ?_
                    refine x_goto rfl rfl ?_
                    refine x_iast (a := (pH s1).length) rfl rfl rfl (by decide) (by omega) (by decide) ?_
                    refine x_aload_n rfl rfl rfl ?_
                    refine x_callVi (d2 := 0) (c_mgoesT hG (by first | exact hw2.1.2.1 | (rw [← hw2.1.2.1]; rfl) | simp [ui, ul, hw2.1.2.1])) rfl rfl v_9_238 rfl rfl (by decide) rfl rfl (Nat.le_of_ble_eq_true rfl) (by omega) (by omega) ?_
                    refine x_if_eq rfl rfl (fun hc51 => absurd hc51 (by decide +kernel)) (fun _ => ?_)
                    refine x_aload_n rfl rfl rfl ?_
                    refine x_iload rfl rfl rfl ?_
                    by_cases hdy : rD y = true
                    · refine x_callVv (d2 := 2) (c_mpush10D hG (Nat.le_refl 2) (h := h) (n := (pH s2).length) (i := (pH s1).length) (t := t) (by simpa [ui] using ho2) (by omega) (by simpa [ui] using hw2.2.2.1.2.2.2.2.2.2.2.2.1) (by omega) (by omega) (by simpa [ui] using hpt2.1) (by omega) (rD y = true) (by simp [ui]) (by simpa [ui] using hyt.2.1) hdy) rfl rfl v_9_214 rfl rfl (by decide) rfl rfl (Nat.le_of_ble_eq_true rfl) (by omega) (by omega) ?_
                      exact q_retV rfl (((((((hS2.ui (by first | (unfold onMD; simp; done) | (unfold onMD; simp; omega))).ui (by first | (unfold onMD; simp; done) | (unfold onMD; simp; omega))).ui (by first | (unfold onMD; simp; done) | (unfold onMD; simp; omega))).ui (by first | (unfold onMD; simp; done) | (unfold onMD; simp; omega))).ui (by first | (unfold onMD; simp; done) | (unfold onMD; simp; omega))).ui (by first | (unfold onMD; simp; done) | (unfold onMD; simp; omega))).ui (by first | (unfold onMD; simp; done) | (unfold onMD; simp; omega))) ⟨hw2.eqO ((((((((EqF.rf.ui (by simp [onO])).ui (by simp [onO])).ui (by simp [onO])).ui (by simp [onO])).ui (by simp [onO])).ui (by simp [onO])).ui (by simp [onO]))), by simpa [ui] using hg2, hp2, ⟨hphl1, hyn, hphn, by omega, Or.inr rfl, by show (rM y).length ≤ 8; have := hyt.2.2.2.2; omega, fun _ => ⟨htl, by show _ = (rM (trAt s2 t)).length; rw [etr]⟩, (hpt2.tu (tr2 := nI t) (c2 := (rM y).length)).eqM (on := fun k _ => k.1 ≠ 40 ∧ ¬ (59 ≤ k.1 ∧ k.1 ≤ 62)) ((((((EqF.rf.ui (by simp)).ui (by simp)).ui (by simp)).ui (by simp)).ui (by simp))) (fun r h1 => by simp; omega) (fun j _ => by simp) (fun r h1 j _ => by simp; omega), by simp [ui], by simp [ui], by simp [ui], by simp [ui], by rw [bI_f (fun z => z.2 (by show rD (trAt s2 t) = true; rw [etr]; exact hdy))]; simp [ui]⟩⟩ rfl rfl rfl
                    · refine x_callVv (d2 := 2) (c_mpush10S hG (Nat.le_refl 2) (h := h) (n := (pH s2).length) (i := (pH s1).length) (t := t) (by simpa [ui] using ho2) (by omega) (by simpa [ui] using hw2.2.2.1.2.2.2.2.2.2.2.2.1) (by omega) (by omega) (by simpa [ui] using hpt2.1) (by omega) (rD y = true) (by simp [ui]) (by simpa [ui] using hyt.2.1) hdy) rfl rfl v_9_214 rfl rfl (by decide) rfl rfl (Nat.le_of_ble_eq_true rfl) (by omega) (by omega) ?_
                      exact q_retV rfl (((((((hS2.ui (by first | (unfold onMD; simp; done) | (unfold onMD; simp; omega))).ui (by first | (unfold onMD; simp; done) | (unfold onMD; simp; omega))).ui (by first | (unfold onMD; simp; done) | (unfold onMD; simp; omega))).ui (by first | (unfold onMD; simp; done) | (unfold onMD; simp; omega))).ui (by first | (unfold onMD; simp; done) | (unfold onMD; simp; omega))).ui (by first | (unfold onMD; simp; done) | (unfold onMD; simp; omega))).ui (by first | (unfold onMD; simp; done) | (unfold onMD; simp; omega))) ⟨hw2.eqO ((((((((EqF.rf.ui (by simp [onO])).ui (by simp [onO])).ui (by simp [onO])).ui (by simp [onO])).ui (by simp [onO])).ui (by simp [onO])).ui (by simp [onO]))), by simpa [ui] using hg2, hp2, ⟨hphl1, hyn, hphn, by omega, Or.inr rfl, by show (rM y).length ≤ 8; have := hyt.2.2.2.2; omega, fun _ => ⟨htl, by show _ = (rM (trAt s2 t)).length; rw [etr]⟩, (hpt2.tu (tr2 := nI t) (c2 := (rM y).length)).eqM (on := fun k _ => k.1 ≠ 40 ∧ ¬ (59 ≤ k.1 ∧ k.1 ≤ 62)) ((((((EqF.rf.ui (by simp)).ui (by simp)).ui (by simp)).ui (by simp)).ui (by simp))) (fun r h1 => by simp; omega) (fun j _ => by simp) (fun r h1 j _ => by simp; omega), by simp [ui], by simp [ui], by simp [ui], by simp [ui], by rw [bI_t ⟨rfl, fun z => hdy (by rw [← etr]; exact z)⟩]; simp [ui]⟩⟩ rfl rfl rfl
                · refine x_iload rfl rfl rfl ?_
                  refine x_iconstN (b := 4) rfl rfl ?_
                  refine x_idivN (a := b1) (b := 4) (by omega) (by omega) (by omega) rfl rfl ?_
                  refine x_aload_n rfl rfl rfl ?_
                  refine x_getIv (v := nI ((pR s1).length)) hw1.2.2.1.2.2.1 rfl rfl f_9_220 rfl (by decide) rfl ?_
                  refine x_icmpN_lt (by omega) (by omega) rfl rfl (fun hc52 => ?_) (fun hc52 => ?_)
                  · refine x_iconstN (b := 0) rfl rfl ?_
                    refine x_goto rfl rfl ?_
                    refine x_istore rfl rfl rfl rfl ?_
                    refine x_iload rfl rfl rfl ?_
                    refine x_if_eq rfl rfl (fun _ => ?_) (fun hc53 => absurd hc53 (by decide +kernel))
                    refine x_aload_n rfl rfl rfl ?_
                    refine x_iload_n rfl rfl rfl ?_
                    refine x_lconst (v := 0) rfl rfl (by decide +kernel) ?_
                    refine x_iload_n rfl rfl rfl ?_
                    refine x_bipush (v := nI 10) rfl rfl (by decide +kernel) ?_
                    refine x_icmpN_eq (by omega) (by omega) rfl rfl (fun hc54 => ?_) (fun hc54 => absurd hc54 (by omega))
                    refine x_iconstN (b := 0) rfl rfl ?_
                    refine x_goto rfl rfl ?_
                    refine x_iconst (v := -1) rfl rfl (by decide +kernel) ?_
                    refine x_callVi (d2 := 0) (c_mnewThing hG (nI 10) (nI (0)) (-1) 0 hw1.2.2.1.2.2.2.2.2.2.2.2.1 (by omega)) rfl rfl v_9_134 rfl rfl (by decide) rfl rfl (Nat.le_of_ble_eq_true rfl) (by omega) (by omega) ?_
                    refine x_istore rfl rfl rfl rfl ?_
                    refine x_aload_n rfl rfl rfl ?_
                    refine x_getR0 rfl rfl f_9_60 rfl (by decide) rfl rfl ?_
                    refine x_aload_n rfl rfl rfl ?_
                    refine x_getIv (v := nI ((pL s1).length)) (by first | exact hw1.2.2.1.1 | (rw [← hw1.2.2.1.1]; rfl) | simp [ui, ul, hw1.2.2.1.1]) rfl rfl f_9_211 rfl (by decide) rfl ?_
                    refine x_iload rfl rfl rfl ?_
                    refine x_iast (a := (pL s1).length) rfl rfl rfl (by decide) (by omega) (by decide) ?_
                    refine x_aload_n rfl rfl rfl ?_
                    refine x_dup rfl rfl rfl ?_
                    refine x_getIv (v := nI ((pL s1).length)) (by first | exact hw1.2.2.1.1 | (rw [← hw1.2.2.1.1]; rfl) | simp [ui, ul, hw1.2.2.1.1]) rfl rfl f_9_211 rfl (by decide) rfl ?_
                    refine x_iconstN (b := 1) rfl rfl ?_
                    refine x_iaddN (a := (pL s1).length) (b := 1) rfl rfl ?_
                    refine x_putI rfl rfl f_9_211 rfl rfl (by decide) rfl ?_
                    refine x_aload_n rfl rfl rfl ?_
                    refine x_aload_n rfl rfl rfl ?_
                    refine x_iload rfl rfl rfl ?_
                    refine x_callVl (d2 := 0) (c_mvalueOf hG (i := (pH s1).length) (by omega)) rfl rfl v_9_138 rfl rfl (by decide) rfl rfl (Nat.le_of_ble_eq_true rfl) (by omega) (by omega) ?_
                    refine x_putL rfl rfl f_9_255 rfl rfl (by decide) rfl ?_
                    obtain ⟨s2, es2⟩ : ∃ s2, s2 = newH 10 s1 := ⟨_, rfl⟩
                    obtain ⟨M2, eM2⟩ : ∃ M2, M2 = (ul (ui (ui (ui (ul (ul (ul (ul (ul (ul (ul (ul (ui (ui (ui (ul (ui M1 (46, 0) ((pH s1).length) (nI 10)) (47, 0) ((pH s1).length) 0) (48, 0) ((pH s1).length) (nI 0)) (49, 0) ((pH s1).length) ((-1))) (51, 0) ((pH s1).length) (nI 0)) (50, 0) (8 * (pH s1).length + 0) 0) (50, 0) (8 * (pH s1).length + 1) 0) (50, 0) (8 * (pH s1).length + 2) 0) (50, 0) (8 * (pH s1).length + 3) 0) (50, 0) (8 * (pH s1).length + 4) 0) (50, 0) (8 * (pH s1).length + 5) 0) (50, 0) (8 * (pH s1).length + 6) 0) (50, 0) (8 * (pH s1).length + 7) 0) (40, 0) 8 (nI ((pH s1).length + 1))) (57, 0) ((pL s1).length) (nI ((pH s1).length))) (40, 0) 24 (nI (((pL s1).length) + 1))) (40, 0) 38 (16 * lN ((pH s1).length) + 7)) := ⟨_, rfl⟩
                    have hlt : (pH s1).length < 40 := by omega
                    have hw2 : RdM row al s2 M2 := by rw [es2, eM2]; exact hw1.new hlt (by decide)
                    have hpt2 : MPt 10 0 (-1) [] [] [] (pH s1).length M2 := by rw [eM2]; exact MPt.new
                    have hS2 : EqF (onMD h s0) M M2 := by rw [eM2]; exact hS1.tr (eqM_new.sub fun k j z => onMD_new hphl1 z)
                    have ho2 : M2.1 (40, 0) 28 = nI h := by rw [eM2]; exact (eqM_new (40, 0) 28 (by simp)).1.trans ho1
                    have hg2 : M2.2 (40, 0) 38 = 16 * lN (pH s1).length + 7 := by rw [eM2]; simp [ul]
                    have hp2 : Pre s0 s2 := by rw [es2]; exact hp1.tr Pre.new
                    have hphn : (pH s2).length = (pH s1).length + 1 := by rw [es2]; exact newH_len _ _
                    have hyn : (pH s2)[(pH s1).length]? = some (10, 0, 0, [], [], []) := by rw [es2]; exact newH_at _ _
                    have hRLn : (pR s2).length < (pL s2).length := by rw [es2]; show (pR s1).length < (pL s1 ++ [(pH s1).length]).length; simp; omega
                    have hpRn : pR s2 = pR s1 := by rw [es2]; rfl
                    refine x_eq (M2 := M2) ?_ rfl rfl eM2.symm
                    rw [rhT_10 hc2 (by omega) (by omega), ← es2]
                    refine x_iload_n rfl rfl rfl ?_
                    refine x_bipush (v := nI 8) rfl rfl (by decide +kernel) ?_
                    refine x_icmpN_ne (by omega) (by omega) rfl rfl (fun hc55 => ?_) (fun hc55 => absurd hc55 (by omega))
                    refine x_iload_n rfl rfl rfl ?_
                    refine x_bipush (v := nI 12) rfl rfl (by decide +kernel) ?_
                    refine x_icmpN_ne (by omega) (by omega) rfl rfl (fun hc56 => ?_) (fun hc56 => absurd hc56 (by omega))
                    refine x_iload_n rfl rfl rfl ?_
                    refine x_bipush (v := nI 10) rfl rfl (by decide +kernel) ?_
                    refine x_icmpN_ne (by omega) (by omega) rfl rfl (fun hc57 => absurd hc57 (by omega)) (fun hc57 => ?_)
                    refine x_aload_n rfl rfl rfl ?_
                    refine x_getR0 rfl rfl f_9_36 rfl (by decide) rfl rfl ?_
                    refine x_iload rfl rfl rfl ?_
                    refine x_iload rfl rfl rfl ?_
                    refine x_iconstN (b := 4) rfl rfl ?_
                    refine x_iremN (a := b1) (b := 4) (by omega) (by omega) (by omega) rfl rfl ?_
                    refine x_iconstN (b := 1) rfl rfl ?_
                    refine x_icmpN_ne (by omega) (by omega) rfl rfl (fun hc58 => ?_) (fun hc58 => ?_)
                    · refine x_aload_n rfl rfl rfl ?_
                      refine x_iload rfl rfl rfl ?_
                      refine x_iload_n rfl rfl rfl ?_
                      refine q_call (d2 := 5) (c_mtakeTraits (nn := b1) (np := s0.1) hG (Nat.le_refl 5) hw2 hRLn hn1 (by omega) (by omega) (by omega)) hS2 (fun _ _ z => onMDT (onMD_pre hp2 (Nat.le_refl h) z)) rfl rfl v_9_276 rfl rfl (by decide) rfl rfl (Nat.le_of_ble_eq_true rfl) (by omega) (fun b3 s3 M3 e3 hq3 hE3 hS3 => ?_) (fun f3 b3 M3 e3 hf3 hl3 hS3 => ?_)
                      · have hw3 := hq3
                        have hpp3 := rTr_pre e3 hw2.2.2.2.1.2.2.2.2.2.2.1
                        have hph3 := rTr_H e3
                        have hp3 := hp2.tr hpp3.1
                        have ho3 : M3.1 (40, 0) 28 = nI h := (hE3 _ _ (by simp [onMT])).1.trans ho2
                        have hg3 := (hE3 (40, 0) 38 (by simp [onMT])).2.trans hg2
                        have hpt3 := hpt2.eqM hE3 (fun r h1 => by unfold onMT; simp; omega) (fun j _ => by simp [onMT]) (fun r h1 j _ => by unfold onMT; simp; omega)
                        have htl := hpp3.2
                        have ht12 := hw3.2.2.2.1.2.1
                        have hyn3 : (pH s3)[(pH s1).length]? = some (10, 0, 0, [], [], []) := by rw [hph3]; exact hyn
                        have hphn3 : (pH s3).length = (pH s1).length + 1 := by rw [hph3]; exact hphn
                        obtain ⟨y, hy⟩ : ∃ y, (pT s3)[b3]? = some y := ⟨_, List.getElem?_eq_getElem htl⟩
                        have hyt := hw3.2.2.1.2.2.2.2.2.2.2.1 b3 y hy
                        have etr : trAt s3 b3 = y := by unfold trAt; rw [hy]; rfl
                        dsimp only
                        rw [etr]
                        refine x_iast (a := (pH s1).length) rfl rfl rfl (by decide) (by omega) (by decide) ?_
                        refine x_aload_n rfl rfl rfl ?_
                        refine x_getR0 rfl rfl f_9_33 rfl (by decide) rfl rfl ?_
                        refine x_iload rfl rfl rfl ?_
                        refine x_aload_n rfl rfl rfl ?_
                        refine x_callVi (d2 := 0) (c_mgoesT hG (by first | exact hw3.1.2.1 | (rw [← hw3.1.2.1]; rfl) | simp [ui, ul, hw3.1.2.1])) rfl rfl v_9_238 rfl rfl (by decide) rfl rfl (Nat.le_of_ble_eq_true rfl) (by omega) (by omega) ?_
                        refine x_if_eq rfl rfl (fun hc59 => absurd hc59 (by decide +kernel)) (fun _ => ?_)
                        refine x_aload_n rfl rfl rfl ?_
                        refine x_getR0 rfl rfl f_9_20 rfl (by decide) rfl rfl ?_
                        refine x_aload_n rfl rfl rfl ?_
                        refine x_getR0 rfl rfl f_9_36 rfl (by decide) rfl rfl ?_
                        refine x_iload rfl rfl rfl ?_
                        refine x_ialdv (a := (pH s1).length) (v := nI b3) (by first | rfl | simp [ui, ul]) rfl rfl rfl (by decide) (by omega) (by decide) ?_
                        refine x_ialdv (a := b3) (v := nI ((rM y).length)) (by first | exact hyt.2.2.1 | (rw [← hyt.2.2.1]; rfl) | simp [ui, ul, hyt.2.2.1]) rfl rfl rfl (by decide) (by omega) (by decide) ?_
                        refine x_goto rfl rfl ?_
                        refine x_iast (a := (pH s1).length) rfl rfl rfl (by decide) (by omega) (by decide) ?_
                        refine x_aload_n rfl rfl rfl ?_
                        refine x_callVi (d2 := 0) (c_mgoesT hG (by first | exact hw3.1.2.1 | (rw [← hw3.1.2.1]; rfl) | simp [ui, ul, hw3.1.2.1])) rfl rfl v_9_238 rfl rfl (by decide) rfl rfl (Nat.le_of_ble_eq_true rfl) (by omega) (by omega) ?_
                        refine x_if_eq rfl rfl (fun hc60 => absurd hc60 (by decide +kernel)) (fun _ => ?_)
                        refine x_aload_n rfl rfl rfl ?_
                        refine x_iload rfl rfl rfl ?_
                        by_cases hdy : rD y = true
                        · refine x_callVv (d2 := 2) (c_mpush10D hG (Nat.le_refl 2) (h := h) (n := (pH s3).length) (i := (pH s1).length) (t := b3) (by simpa [ui] using ho3) (by omega) (by simpa [ui] using hw3.2.2.1.2.2.2.2.2.2.2.2.1) (by omega) (by omega) (by simpa [ui] using hpt3.1) (by omega) (rD y = true) (by simp [ui]) (by simpa [ui] using hyt.2.1) hdy) rfl rfl v_9_214 rfl rfl (by decide) rfl rfl (Nat.le_of_ble_eq_true rfl) (by omega) (by omega) ?_
                          exact q_retV rfl (((((((hS3.ui (by first | (unfold onMD; simp; done) | (unfold onMD; simp; omega))).ui (by first | (unfold onMD; simp; done) | (unfold onMD; simp; omega))).ui (by first | (unfold onMD; simp; done) | (unfold onMD; simp; omega))).ui (by first | (unfold onMD; simp; done) | (unfold onMD; simp; omega))).ui (by first | (unfold onMD; simp; done) | (unfold onMD; simp; omega))).ui (by first | (unfold onMD; simp; done) | (unfold onMD; simp; omega))).ui (by first | (unfold onMD; simp; done) | (unfold onMD; simp; omega))) ⟨hw3.eqO ((((((((EqF.rf.ui (by simp [onO])).ui (by simp [onO])).ui (by simp [onO])).ui (by simp [onO])).ui (by simp [onO])).ui (by simp [onO])).ui (by simp [onO]))), by simpa [ui] using hg3, hp3, ⟨hphl1, hyn3, hphn3, by omega, Or.inr rfl, by show (rM y).length ≤ 8; have := hyt.2.2.2.2; omega, fun _ => ⟨htl, by show _ = (rM (trAt s3 b3)).length; rw [etr]⟩, (hpt3.tu (tr2 := nI b3) (c2 := (rM y).length)).eqM (on := fun k _ => k.1 ≠ 40 ∧ ¬ (59 ≤ k.1 ∧ k.1 ≤ 62)) ((((((EqF.rf.ui (by simp)).ui (by simp)).ui (by simp)).ui (by simp)).ui (by simp))) (fun r h1 => by simp; omega) (fun j _ => by simp) (fun r h1 j _ => by simp; omega), by simp [ui], by simp [ui], by simp [ui], by simp [ui], by rw [bI_f (fun z => z.2 (by show rD (trAt s3 b3) = true; rw [etr]; exact hdy))]; simp [ui]⟩⟩ rfl rfl rfl
                        · refine x_callVv (d2 := 2) (c_mpush10S hG (Nat.le_refl 2) (h := h) (n := (pH s3).length) (i := (pH s1).length) (t := b3) (by simpa [ui] using ho3) (by omega) (by simpa [ui] using hw3.2.2.1.2.2.2.2.2.2.2.2.1) (by omega) (by omega) (by simpa [ui] using hpt3.1) (by omega) (rD y = true) (by simp [ui]) (by simpa [ui] using hyt.2.1) hdy) rfl rfl v_9_214 rfl rfl (by decide) rfl rfl (Nat.le_of_ble_eq_true rfl) (by omega) (by omega) ?_
                          exact q_retV rfl (((((((hS3.ui (by first | (unfold onMD; simp; done) | (unfold onMD; simp; omega))).ui (by first | (unfold onMD; simp; done) | (unfold onMD; simp; omega))).ui (by first | (unfold onMD; simp; done) | (unfold onMD; simp; omega))).ui (by first | (unfold onMD; simp; done) | (unfold onMD; simp; omega))).ui (by first | (unfold onMD; simp; done) | (unfold onMD; simp; omega))).ui (by first | (unfold onMD; simp; done) | (unfold onMD; simp; omega))).ui (by first | (unfold onMD; simp; done) | (unfold onMD; simp; omega))) ⟨hw3.eqO ((((((((EqF.rf.ui (by simp [onO])).ui (by simp [onO])).ui (by simp [onO])).ui (by simp [onO])).ui (by simp [onO])).ui (by simp [onO])).ui (by simp [onO]))), by simpa [ui] using hg3, hp3, ⟨hphl1, hyn3, hphn3, by omega, Or.inr rfl, by show (rM y).length ≤ 8; have := hyt.2.2.2.2; omega, fun _ => ⟨htl, by show _ = (rM (trAt s3 b3)).length; rw [etr]⟩, (hpt3.tu (tr2 := nI b3) (c2 := (rM y).length)).eqM (on := fun k _ => k.1 ≠ 40 ∧ ¬ (59 ≤ k.1 ∧ k.1 ≤ 62)) ((((((EqF.rf.ui (by simp)).ui (by simp)).ui (by simp)).ui (by simp)).ui (by simp))) (fun r h1 => by simp; omega) (fun j _ => by simp) (fun r h1 j _ => by simp; omega), by simp [ui], by simp [ui], by simp [ui], by simp [ui], by rw [bI_t ⟨rfl, fun z => hdy (by rw [← etr]; exact z)⟩]; simp [ui]⟩⟩ rfl rfl rfl
                      · refine x_iast (a := (pH s1).length) rfl rfl rfl (by decide) (by omega) (by decide) ?_
                        refine x_aload_n rfl rfl rfl ?_
                        refine x_getR0 rfl rfl f_9_33 rfl (by decide) rfl rfl ?_
                        refine x_iload rfl rfl rfl ?_
                        refine x_aload_n rfl rfl rfl ?_
                        refine x_callVi (d2 := 0) (c_mgoesF hG (f := f3) (by first | exact hf3 | (rw [← hf3]; rfl) | simp [ui, ul, hf3]) (by omega)) rfl rfl v_9_238 rfl rfl (by decide) rfl rfl (Nat.le_of_ble_eq_true rfl) (by omega) (by omega) ?_
                        refine x_if_eq rfl rfl (fun _ => ?_) (fun hc61 => absurd hc61 (by decide +kernel))
                        refine x_iconstN (b := 0) rfl rfl ?_
                        refine x_iast (a := (pH s1).length) rfl rfl rfl (by decide) (by omega) (by decide) ?_
                        refine x_aload_n rfl rfl rfl ?_
                        refine x_callVi (d2 := 0) (c_mgoesF hG (f := f3) (by first | exact hf3 | (rw [← hf3]; rfl) | simp [ui, ul, hf3]) (by omega)) rfl rfl v_9_238 rfl rfl (by decide) rfl rfl (Nat.le_of_ble_eq_true rfl) (by omega) (by omega) ?_
                        refine x_if_eq rfl rfl (fun _ => ?_) (fun hc62 => absurd hc62 (by decide +kernel))
                        exact q_flV (0, none) (f := f3) (rfl) ((hS3.ui (by first | (unfold onMD; simp; done) | (unfold onMD; simp; omega))).ui (by first | (unfold onMD; simp; done) | (unfold onMD; simp; omega))) (by first | exact hf3 | (rw [← hf3]; rfl) | simp [ui, ul, hf3]) (by omega) rfl rfl rfl
                    · obtain ⟨t, ht⟩ : ∃ t, (pR s2)[b1 / 4]? = some t := ⟨_, List.getElem?_eq_getElem (by rw [hpRn]; omega)⟩
                      have htl := hw2.2.2.2.1.2.2.2.2.2.2.1 t (at_mem ht)
                      have ht12 := hw2.2.2.2.1.2.1
                      obtain ⟨y, hy⟩ : ∃ y, (pT s2)[t]? = some y := ⟨_, List.getElem?_eq_getElem htl⟩
                      have hyt := hw2.2.2.1.2.2.2.2.2.2.2.1 t y hy
                      have etr : trAt s2 t = y := by unfold trAt; rw [hy]; rfl
                      rw [rTr_k1 (by omega) ht]
                      dsimp only [rb]
                      rw [etr]
                      refine x_aload_n rfl rfl rfl ?_
                      refine x_getR0 rfl rfl f_9_63 rfl (by decide) rfl rfl ?_
                      refine x_iload rfl rfl rfl ?_
                      refine x_iconstN (b := 4) rfl rfl ?_
                      refine x_idivN (a := b1) (b := 4) (by omega) (by omega) (by omega) rfl rfl ?_
                      refine x_ialdv (a := b1 / 4) (v := nI t) (hw2.2.2.1.2.2.2.1 _ _ ht) rfl rfl rfl (by decide) (by omega) (by decide) ?_
                      refine x_goto rfl rfl ?_
                      refine x_iast (a := (pH s1).length) rfl rfl rfl (by decide) (by omega) (by decide) ?_
                      refine x_aload_n rfl rfl rfl ?_
                      refine x_getR0 rfl rfl f_9_33 rfl (by decide) rfl rfl ?_
                      refine x_iload rfl rfl rfl ?_
                      refine x_aload_n rfl rfl rfl ?_
                      refine x_callVi (d2 := 0) (c_mgoesT hG (by first | exact hw2.1.2.1 | (rw [← hw2.1.2.1]; rfl) | simp [ui, ul, hw2.1.2.1])) rfl rfl v_9_238 rfl rfl (by decide) rfl rfl (Nat.le_of_ble_eq_true rfl) (by omega) (by omega) ?_
                      refine x_if_eq rfl rfl (fun hc63 => absurd hc63 (by decide +kernel)) (fun _ => ?_)
                      refine x_aload_n rfl rfl rfl ?_
                      refine x_getR0 rfl rfl f_9_20 rfl (by decide) rfl rfl ?_
                      refine x_aload_n rfl rfl rfl ?_
                      refine x_getR0 rfl rfl f_9_36 rfl (by decide) rfl rfl ?_
                      refine x_iload rfl rfl rfl ?_
                      refine x_ialdv (a := (pH s1).length) (v := nI t) (by first | rfl | simp [ui, ul]) rfl rfl rfl (by decide) (by omega) (by decide) ?_
                      refine x_ialdv (a := t) (v := nI ((rM y).length)) (by first | exact hyt.2.2.1 | (rw [← hyt.2.2.1]; rfl) | simp [ui, ul, hyt.2.2.1]) rfl rfl rfl (by decide) (by omega) (by decide) ?_
                      refine x_goto rfl rfl ?_
                      refine x_iast (a := (pH s1).length) rfl rfl rfl (by decide) (by omega) (by decide) ?_
                      refine x_aload_n rfl rfl rfl ?_
                      refine x_callVi (d2 := 0) (c_mgoesT hG (by first | exact hw2.1.2.1 | (rw [← hw2.1.2.1]; rfl) | simp [ui, ul, hw2.1.2.1])) rfl rfl v_9_238 rfl rfl (by decide) rfl rfl (Nat.le_of_ble_eq_true rfl) (by omega) (by omega) ?_
                      refine x_if_eq rfl rfl (fun hc64 => absurd hc64 (by decide +kernel)) (fun _ => ?_)
                      refine x_aload_n rfl rfl rfl ?_
                      refine x_iload rfl rfl rfl ?_
                      by_cases hdy : rD y = true
                      · refine x_callVv (d2 := 2) (c_mpush10D hG (Nat.le_refl 2) (h := h) (n := (pH s2).length) (i := (pH s1).length) (t := t) (by simpa [ui] using ho2) (by omega) (by simpa [ui] using hw2.2.2.1.2.2.2.2.2.2.2.2.1) (by omega) (by omega) (by simpa [ui] using hpt2.1) (by omega) (rD y = true) (by simp [ui]) (by simpa [ui] using hyt.2.1) hdy) rfl rfl v_9_214 rfl rfl (by decide) rfl rfl (Nat.le_of_ble_eq_true rfl) (by omega) (by omega) ?_
                        exact q_retV rfl (((((((hS2.ui (by first | (unfold onMD; simp; done) | (unfold onMD; simp; omega))).ui (by first | (unfold onMD; simp; done) | (unfold onMD; simp; omega))).ui (by first | (unfold onMD; simp; done) | (unfold onMD; simp; omega))).ui (by first | (unfold onMD; simp; done) | (unfold onMD; simp; omega))).ui (by first | (unfold onMD; simp; done) | (unfold onMD; simp; omega))).ui (by first | (unfold onMD; simp; done) | (unfold onMD; simp; omega))).ui (by first | (unfold onMD; simp; done) | (unfold onMD; simp; omega))) ⟨hw2.eqO ((((((((EqF.rf.ui (by simp [onO])).ui (by simp [onO])).ui (by simp [onO])).ui (by simp [onO])).ui (by simp [onO])).ui (by simp [onO])).ui (by simp [onO]))), by simpa [ui] using hg2, hp2, ⟨hphl1, hyn, hphn, by omega, Or.inr rfl, by show (rM y).length ≤ 8; have := hyt.2.2.2.2; omega, fun _ => ⟨htl, by show _ = (rM (trAt s2 t)).length; rw [etr]⟩, (hpt2.tu (tr2 := nI t) (c2 := (rM y).length)).eqM (on := fun k _ => k.1 ≠ 40 ∧ ¬ (59 ≤ k.1 ∧ k.1 ≤ 62)) ((((((EqF.rf.ui (by simp)).ui (by simp)).ui (by simp)).ui (by simp)).ui (by simp))) (fun r h1 => by simp; omega) (fun j _ => by simp) (fun r h1 j _ => by simp; omega), by simp [ui], by simp [ui], by simp [ui], by simp [ui], by rw [bI_f (fun z => z.2 (by show rD (trAt s2 t) = true; rw [etr]; exact hdy))]; simp [ui]⟩⟩ rfl rfl rfl
                      · refine x_callVv (d2 := 2) (c_mpush10S hG (Nat.le_refl 2) (h := h) (n := (pH s2).length) (i := (pH s1).length) (t := t) (by simpa [ui] using ho2) (by omega) (by simpa [ui] using hw2.2.2.1.2.2.2.2.2.2.2.2.1) (by omega) (by omega) (by simpa [ui] using hpt2.1) (by omega) (rD y = true) (by simp [ui]) (by simpa [ui] using hyt.2.1) hdy) rfl rfl v_9_214 rfl rfl (by decide) rfl rfl (Nat.le_of_ble_eq_true rfl) (by omega) (by omega) ?_
                        exact q_retV rfl (((((((hS2.ui (by first | (unfold onMD; simp; done) | (unfold onMD; simp; omega))).ui (by first | (unfold onMD; simp; done) | (unfold onMD; simp; omega))).ui (by first | (unfold onMD; simp; done) | (unfold onMD; simp; omega))).ui (by first | (unfold onMD; simp; done) | (unfold onMD; simp; omega))).ui (by first | (unfold onMD; simp; done) | (unfold onMD; simp; omega))).ui (by first | (unfold onMD; simp; done) | (unfold onMD; simp; omega))).ui (by first | (unfold onMD; simp; done) | (unfold onMD; simp; omega))) ⟨hw2.eqO ((((((((EqF.rf.ui (by simp [onO])).ui (by simp [onO])).ui (by simp [onO])).ui (by simp [onO])).ui (by simp [onO])).ui (by simp [onO])).ui (by simp [onO]))), by simpa [ui] using hg2, hp2, ⟨hphl1, hyn, hphn, by omega, Or.inr rfl, by show (rM y).length ≤ 8; have := hyt.2.2.2.2; omega, fun _ => ⟨htl, by show _ = (rM (trAt s2 t)).length; rw [etr]⟩, (hpt2.tu (tr2 := nI t) (c2 := (rM y).length)).eqM (on := fun k _ => k.1 ≠ 40 ∧ ¬ (59 ≤ k.1 ∧ k.1 ≤ 62)) ((((((EqF.rf.ui (by simp)).ui (by simp)).ui (by simp)).ui (by simp)).ui (by simp))) (fun r h1 => by simp; omega) (fun j _ => by simp) (fun r h1 j _ => by simp; omega), by simp [ui], by simp [ui], by simp [ui], by simp [ui], by rw [bI_t ⟨rfl, fun z => hdy (by rw [← etr]; exact z)⟩]; simp [ui]⟩⟩ rfl rfl rfl
                  · refine x_iconstN (b := 1) rfl rfl ?_
                    refine x_goto rfl rfl ?_
                    refine x_istore rfl rfl rfl rfl ?_
                    refine x_iload rfl rfl rfl ?_
                    refine x_if_eq rfl rfl (fun hc65 => absurd hc65 (by decide +kernel)) (fun _ => ?_)
                    refine x_aload_n rfl rfl rfl ?_
                    refine x_iload_n rfl rfl rfl ?_
                    refine x_callVv (d2 := 0) (c_mstopT hG (nI (s0.1)) hw1.1.2.1) rfl rfl v_9_245 rfl rfl (by decide) rfl rfl (Nat.le_of_ble_eq_true rfl) (by omega) (by omega) ?_
                    exact q_flV (0, none) (f := s0.1) (by rw [rhT_10 hc2 (by omega) (by omega)]; rw [rTr_k0 (s := newH 10 s1) (by omega) (List.getElem?_eq_none (show (pR s1).length ≤ _ by omega))]; rfl) (hS1.ui (by first | (unfold onMD; simp; done) | (unfold onMD; simp; omega))) (by first | rfl | simp [ui, ul]) (by omega) rfl rfl rfl
        · refine x_aload_n rfl rfl rfl ?_
          refine x_iload_n rfl rfl rfl ?_
          refine x_callVv (d2 := 0) (c_mstopT hG (nI kp) hw1.1.2.1) rfl rfl v_9_245 rfl rfl (by decide) rfl rfl (Nat.le_of_ble_eq_true rfl) (by omega) (by omega) ?_
          exact q_flV (0, none) (f := kp) (rhT_f hc2 (by omega)) (hS1.ui (by first | (unfold onMD; simp; done) | (unfold onMD; simp; omega))) (by first | rfl | simp [ui, ul]) (by omega) rfl rfl rfl
    · refine x_iload rfl rfl rfl ?_
      refine x_iconstN (b := 2) rfl rfl ?_
      refine x_idivN (a := b1) (b := 2) (by omega) (by omega) (by omega) rfl rfl ?_
      refine x_aload_n rfl rfl rfl ?_
      refine x_getIv (v := nI ((pL s1).length)) hw1.2.2.1.1 rfl rfl f_9_211 rfl (by decide) rfl ?_
      refine x_icmpN_ge (by omega) (by omega) rfl rfl (fun hc66 => ?_) (fun hc66 => ?_)
      · refine x_iconstN (b := 0) rfl rfl ?_
        refine x_istore rfl rfl rfl rfl ?_
        refine x_iload rfl rfl rfl ?_
        refine x_if_eq rfl rfl (fun _ => ?_) (fun hc67 => absurd hc67 (by decide +kernel))
        refine x_aload_n rfl rfl rfl ?_
        refine x_iload_n rfl rfl rfl ?_
        refine x_callVv (d2 := 0) (c_mstopT hG (nI (s0.1)) hw1.1.2.1) rfl rfl v_9_245 rfl rfl (by decide) rfl rfl (Nat.le_of_ble_eq_true rfl) (by omega) (by omega) ?_
        exact q_flV (0, none) (f := s0.1) (by rw [rhT_k hc2]; unfold rKnown; rw [List.getElem?_eq_none (by omega)]; rfl) (hS1.ui (by first | (unfold onMD; simp; done) | (unfold onMD; simp; omega))) (by first | rfl | simp [ui, ul]) (by omega) rfl rfl rfl
      · obtain ⟨i, hj⟩ : ∃ i, (pL s1)[b1 / 2]? = some i := ⟨_, List.getElem?_eq_getElem (by omega)⟩
        have hil := hw1.2.2.2.1.2.2.2.2.2.1 i (at_mem hj)
        obtain ⟨x, hx⟩ : ∃ x, (pH s1)[i]? = some x := ⟨_, List.getElem?_eq_getElem hil⟩
        have hkd : kdAt s1 i = tK x := by unfold kdAt; rw [hx]
        have hk16 := hw1.2.2.2.1.2.2.2.2.2.2.2.1 x (at_mem hx)
        refine x_aload_n rfl rfl rfl ?_
        refine x_getR0 rfl rfl f_9_27 rfl (by decide) rfl rfl ?_
        refine x_aload_n rfl rfl rfl ?_
        refine x_getR0 rfl rfl f_9_60 rfl (by decide) rfl rfl ?_
        refine x_iload rfl rfl rfl ?_
        refine x_iconstN (b := 2) rfl rfl ?_
        refine x_idivN (a := b1) (b := 2) (by omega) (by omega) (by omega) rfl rfl ?_
        refine x_aload_n rfl rfl rfl ?_
        refine x_getIv (v := nI ((pL s1).length)) hw1.2.2.1.1 rfl rfl f_9_211 rfl (by decide) rfl ?_
        refine x_icmpN_ge (by omega) (by omega) rfl rfl (fun hc68 => absurd hc68 (by omega)) (fun hc68 => ?_)
        refine x_iload rfl rfl rfl ?_
        refine x_iconstN (b := 2) rfl rfl ?_
        refine x_idivN (a := b1) (b := 2) (by omega) (by omega) (by omega) rfl rfl ?_
        refine x_goto rfl rfl ?_
        refine x_ialdv (a := b1 / 2) (v := nI i) (hw1.2.2.1.2.1 _ _ hj) rfl rfl rfl (by decide) (by omega) (by decide) ?_
        refine x_ialdv (a := i) (v := nI (tK x)) (hw1.2.2.1.2.2.2.2.2.2.2.2.2.1 i x hx) rfl rfl rfl (by decide) (by omega) (by decide) ?_
        refine x_iload_n rfl rfl rfl ?_
        refine x_icmpN_ne (by omega) (by omega) rfl rfl (fun hc69 => ?_) (fun hc69 => ?_)
        · refine x_iconstN (b := 0) rfl rfl ?_
          refine x_istore rfl rfl rfl rfl ?_
          refine x_iload rfl rfl rfl ?_
          refine x_if_eq rfl rfl (fun _ => ?_) (fun hc70 => absurd hc70 (by decide +kernel))
          refine x_aload_n rfl rfl rfl ?_
          refine x_iload_n rfl rfl rfl ?_
          refine x_callVv (d2 := 0) (c_mstopT hG (nI (s0.1)) hw1.1.2.1) rfl rfl v_9_245 rfl rfl (by decide) rfl rfl (Nat.le_of_ble_eq_true rfl) (by omega) (by omega) ?_
          exact q_flV (0, none) (f := s0.1) (by rw [rhT_k hc2]; unfold rKnown; rw [hj]; dsimp only; rw [if_neg (by rw [hkd]; exact hc69)]; rfl) (hS1.ui (by first | (unfold onMD; simp; done) | (unfold onMD; simp; omega))) (by first | rfl | simp [ui, ul]) (by omega) rfl rfl rfl
        · refine x_iconstN (b := 1) rfl rfl ?_
          refine x_goto rfl rfl ?_
          refine x_istore rfl rfl rfl rfl ?_
          refine x_iload rfl rfl rfl ?_
          refine x_if_eq rfl rfl (fun hc71 => absurd hc71 (by decide +kernel)) (fun _ => ?_)
          refine x_aload_n rfl rfl rfl ?_
          refine x_aload_n rfl rfl rfl ?_
          refine x_aload_n rfl rfl rfl ?_
          refine x_getR0 rfl rfl f_9_60 rfl (by decide) rfl rfl ?_
          refine x_iload rfl rfl rfl ?_
          refine x_iconstN (b := 2) rfl rfl ?_
          refine x_idivN (a := b1) (b := 2) (by omega) (by omega) (by omega) rfl rfl ?_
          refine x_ialdv (a := b1 / 2) (v := nI i) (hw1.2.2.1.2.1 _ _ hj) rfl rfl rfl (by decide) (by omega) (by decide) ?_
          refine x_callVl (d2 := 0) (c_mvalueOf hG (i := i) (by omega)) rfl rfl v_9_138 rfl rfl (by decide) rfl rfl (Nat.le_of_ble_eq_true rfl) (by omega) (by omega) ?_
          refine x_putL rfl rfl f_9_255 rfl rfl (by decide) rfl ?_
          refine x_goto rfl rfl ?_
          exact q_retV (b := (16 * lN i + 7, none)) (s := s1) (by rw [rhT_k hc2]; unfold rKnown; rw [hj]; dsimp only; rw [if_pos (by rw [hkd]; exact hc69)]; rfl) (hS1.ul (by first | (unfold onMD; simp; done) | (unfold onMD; simp; omega))) ⟨hw1.eqO (EqF.rf.ul (by simp [onO])), by simp [ul], hp1, by simpa [ul] using ho1, CmM.nil (by rw [hph1]; exact Nat.le_refl _)⟩ rfl rfl rfl
  · refine x_istore rfl rfl rfl rfl ?_
    refine x_aload_n rfl rfl rfl ?_
    refine x_callVi (d2 := 0) (c_mgoesF hG (f := f1) hf1 (by omega)) rfl rfl v_9_238 rfl rfl (by decide) rfl rfl (Nat.le_of_ble_eq_true rfl) (by omega) (by omega) ?_
    refine x_if_ne rfl rfl (fun hc72 => absurd hc72 (by decide +kernel)) (fun _ => ?_)
    exact q_flV (0, none) (f := f1) (rfl) hS1 hf1 (by omega) rfl rfl rfl
end N3
