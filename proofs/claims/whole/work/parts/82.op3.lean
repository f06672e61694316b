/-! the model's memory -/
def thc (i : Nat) (k : Ky) (j : Nat) : Prop := ((46 ≤ k.1 ∧ k.1 ≤ 49 ∨ k.1 = 51) ∧ j = i) ∨ (k.1 = 50 ∧ 8 * i ≤ j ∧ j < 8 * i + 8) ∨ ((k.1 = 52 ∨ k.1 = 53) ∧ 6 * i ≤ j ∧ j < 6 * i + 6)
section U2
variable {A : Ab} {M M' : Mm}
theorem mTh_ne {x : Th} {i j : Nat} {on : Ky → Nat → Prop} (h : mTh x M j) (hS : EqF on M M') (hne : ¬ j = i) (ho : ∀ (k : Ky) (j : Nat), 46 ≤ k.1 → k.1 ≤ 53 → ¬ thc i k j → on k j) : mTh x M' j :=
  h.eqM hS (fun r h1 => ho _ _ (by simp; omega) (by simp; omega) (by unfold thc; simp; omega)) (fun j' h1 => ho _ _ (by simp) (by simp) (by unfold thc; simp; omega)) (fun r h1 j' h2 => ho _ _ (by simp; omega) (by simp; omega) (by unfold thc; simp; omega))
theorem rm_aW {b : Int64} (hR : RM A M) (hl : (aW A).length < 40) : PMo M (addWd A b) 0 (ui (ul (ui M (40, 0) 0 (nI 0)) (41, 0) (aW A).length b) (40, 0) 1 (nI ((aW A).length + 1))) := by
  have hS : EqF (fun k j => k.1 ≠ 41 ∧ ¬ (k.1 = 40 ∧ (j = 0 ∨ j = 1))) M (ui (ul (ui M (40, 0) 0 (nI 0)) (41, 0) (aW A).length b) (40, 0) 1 (nI ((aW A).length + 1))) := ((EqF.rf.ui (by simp)).ul (by simp)).ui (by simp)
  obtain ⟨⟨a, b1, c, e1, e2, f, g, r1, r2, r3, r4, r5⟩, h3, h4, h5, hf⟩ := hR
  refine ⟨⟨⟨?_, fun t x hx => (b1 t x hx).eqM hS (fun r h1 h2 => by simp; omega) (fun j _ => by simp), fun i x hx => (c i x hx).eqM hS (fun r h1 => by simp; omega) (fun j _ => by simp) (fun r h1 j _ => by simp; omega), (hS _ _ (by simp)).1.trans e1, e2.to fun k => (hS _ _ (by simp)).2, (hS _ _ (by simp)).1.trans f, g.to fun k => (hS _ _ (by simp)).1, ?_, r2, r3, r4, r5⟩, ?_, (hS _ _ (by simp)).1.trans h4, (hS _ _ (by simp)).1.trans h5, (hS _ _ (by simp)).1.trans hf⟩, by simp [ui, ul], fun k hk j => hS k j (by omega)⟩
  · exact a.push (fun k hk => by have hne : k ≠ (aW A).length := Nat.ne_of_lt hk; simp [ui, ul, hne]) (by simp [ui, ul])
  · show (aW A ++ [b]).length ≤ 40
    simp; omega
  · show _ = nI (aW A ++ [b]).length
    simp [ui]
theorem rm_aH {x : Th} (hR : RM A M) (hl : (aH A).length < 40) (hS : EqF (fun k j => ¬ thc (aH A).length k j ∧ ¬ (k.1 = 40 ∧ (j = 0 ∨ j = 8))) M M') (h9 : M'.1 (40, 0) 8 = nI ((aH A).length + 1)) (h0 : M'.1 (40, 0) 0 = nI 0) (hx : mTh x M' (aH A).length) : PMo M (addTh A x) 0 M' := by
  obtain ⟨⟨a, b1, c, e1, e2, f, g, r1, r2, r3, r4, r5⟩, h3, h4, h5, hf⟩ := hR
  refine ⟨⟨⟨a.to fun k => (hS _ _ (by simp [thc])).2, fun t x hx => (b1 t x hx).eqM hS (fun r h1 h2 => by unfold thc; simp; omega) (fun j _ => by simp [thc]), fun i y hy => ?_, (hS _ _ (by simp [thc])).1.trans e1, e2.to fun k => (hS _ _ (by simp [thc])).2, (hS _ _ (by simp [thc])).1.trans f, g.to fun k => (hS _ _ (by simp [thc])).1, r1, r2, ?_, r4, r5⟩, (hS _ _ (by simp [thc])).1.trans h3, (hS _ _ (by simp [thc])).1.trans h4, ?_, (hS _ _ (by simp [thc])).1.trans hf⟩, h0, fun k hk j => hS k j (by unfold thc; omega)⟩
  · rcases app_at (show (aH A ++ [x])[i]? = some y from hy) with ⟨q, h1⟩ | ⟨rfl, rfl⟩
    · exact mTh_ne (c i y h1) hS (i := (aH A).length) (by omega) (fun k j h1 h2 h3 => ⟨h3, by omega⟩)
    · exact hx
  · show (aH A ++ [x]).length ≤ 40
    simp; omega
  · show _ = nI (aH A ++ [x]).length
    rw [h9]; simp
theorem rm_sH {x : Th} {i : Nat} (hR : RM A M) (hS : EqF (fun k j => ¬ thc i k j ∧ ¬ (k.1 = 40 ∧ j = 0)) M M') (h0 : M'.1 (40, 0) 0 = nI 0) (hx : mTh x M' i) : PMo M (setTh A i x) 0 M' := by
  obtain ⟨⟨a, b1, c, e1, e2, f, g, r1, r2, r3, r4, r5⟩, h3, h4, h5, hf⟩ := hR
  have hlen : (aH (setTh A i x)).length = (aH A).length := List.length_set
  refine ⟨⟨⟨a.to fun k => (hS _ _ (by simp [thc])).2, fun t x hx => (b1 t x hx).eqM hS (fun r h1 h2 => by unfold thc; simp; omega) (fun j _ => by simp [thc]), fun j y hy => ?_, (hS _ _ (by simp [thc])).1.trans e1, e2.to fun k => (hS _ _ (by simp [thc])).2, (hS _ _ (by simp [thc])).1.trans f, g.to fun k => (hS _ _ (by simp [thc])).1, r1, r2, by rw [hlen]; exact r3, r4, r5⟩, (hS _ _ (by simp [thc])).1.trans h3, (hS _ _ (by simp [thc])).1.trans h4, by rw [hlen]; exact (hS _ _ (by simp [thc])).1.trans h5, (hS _ _ (by simp [thc])).1.trans hf⟩, h0, fun k hk j => hS k j (by unfold thc; omega)⟩
  rcases set_at (show ((aH A).set i x)[j]? = some y from hy) with ⟨q, h1⟩ | ⟨rfl, rfl, -⟩
  · exact mTh_ne (c j y h1) hS (i := i) q (fun k j h1 h2 h3 => ⟨h3, by omega⟩)
  · exact hx
theorem rm_aT {x : Tr} {a b c : Int64} (hR : RM A M) (hl : (aT A).length < 12) (hx3 : (rM x).length ≤ 3) (ha : a = (rM x)[0]?.getD 0) (hb : b = (rM x)[1]?.getD 0) (hc : c = (rM x)[2]?.getD 0) : PMo M (addTr A x) 0 (ui (ul (ul (ul (ui (ui (ul (ui M (40, 0) 0 (nI 0)) (42, 0) (aT A).length (rN x)) (43, 0) (aT A).length (bI (rD x = true))) (44, 0) (aT A).length (nI (rM x).length)) (45, 0) (3 * (aT A).length) a) (45, 0) (3 * (aT A).length + 1) b) (45, 0) (3 * (aT A).length + 2) c) (40, 0) 3 (nI ((aT A).length + 1))) := by
  have hS : EqF (fun k j => ¬ (k.1 = 40 ∧ (j = 0 ∨ j = 3)) ∧ (42 ≤ k.1 ∧ k.1 ≤ 44 → j ≠ (aT A).length) ∧ (k.1 = 45 → j < 3 * (aT A).length)) M (ui (ul (ul (ul (ui (ui (ul (ui M (40, 0) 0 (nI 0)) (42, 0) (aT A).length (rN x)) (43, 0) (aT A).length (bI (rD x = true))) (44, 0) (aT A).length (nI (rM x).length)) (45, 0) (3 * (aT A).length) a) (45, 0) (3 * (aT A).length + 1) b) (45, 0) (3 * (aT A).length + 2) c) (40, 0) 3 (nI ((aT A).length + 1))) := (((((((EqF.rf.ui (by simp)).ul (by simp)).ui (by simp)).ui (by simp)).ul (by simp)).ul (by simp)).ul (by simp)).ui (by simp)
  obtain ⟨⟨a0, b1, c0, e1, e2, f, g, r1, r2, r3, r4, r5⟩, h3, h4, h5, hf⟩ := hR
  refine ⟨⟨⟨a0.to fun k => (hS _ _ (by simp)).2, fun t y hy => ?_, fun i y hy => (c0 i y hy).eqM hS (fun r h1 => by simp; omega) (fun j _ => by simp) (fun r h1 j _ => by simp; omega), (hS _ _ (by simp)).1.trans e1, e2.to fun k => (hS _ _ (by simp)).2, (hS _ _ (by simp)).1.trans f, g.to fun k => (hS _ _ (by simp)).1, r1, ?_, r3, r4, r5⟩, (hS _ _ (by simp)).1.trans h3, ?_, (hS _ _ (by simp)).1.trans h5, (hS _ _ (by simp)).1.trans hf⟩, by simp [ui, ul], fun k hk j => hS k j (by omega)⟩
  · rcases app_at (show (aT A ++ [x])[t]? = some y from hy) with ⟨q, h1⟩ | ⟨rfl, rfl⟩
    · exact (b1 t y h1).eqM hS (fun r h1 h2 => by simp; omega) (fun j hj => by simp; omega)
    · refine ⟨by simp [ui, ul], by simp [ui, ul], by simp [ui, ul], fun k v hv => ?_, hx3⟩
      have hk := at_lt hv
      rcases (show k = 0 ∨ k = 1 ∨ k = 2 by omega) with rfl | rfl | rfl
      · rw [hv] at ha; simp [ui, ul]; exact ha
      · rw [hv] at hb; simp [ui, ul]; exact hb
      · rw [hv] at hc; simp [ui, ul]; exact hc
  · show (aT A ++ [x]).length ≤ 12
    simp; omega
  · show _ = nI (aT A ++ [x]).length
    simp [ui]
theorem rm_aA {n : Int64} (hR : RM A M) (hl : (aA A).length < 6) : PMo M (addAl A n) 0 (ui (ul (ui M (40, 0) 0 (nI 0)) (54, 0) ((aA A).length + 1) n) (40, 0) 17 (nI ((aA A).length + 1 + 1))) := by
  have hS : EqF (fun k j => k.1 ≠ 54 ∧ ¬ (k.1 = 40 ∧ (j = 0 ∨ j = 17))) M (ui (ul (ui M (40, 0) 0 (nI 0)) (54, 0) ((aA A).length + 1) n) (40, 0) 17 (nI ((aA A).length + 1 + 1))) := ((EqF.rf.ui (by simp)).ul (by simp)).ui (by simp)
  obtain ⟨⟨a, b1, c, e1, e2, f, g, r1, r2, r3, r4, r5⟩, h3, h4, h5, hf⟩ := hR
  refine ⟨⟨⟨a.to fun k => (hS _ _ (by simp)).2, fun t x hx => (b1 t x hx).eqM hS (fun r h1 h2 => by simp; omega) (fun j _ => by simp), fun i x hx => (c i x hx).eqM hS (fun r h1 => by simp; omega) (fun j _ => by simp) (fun r h1 j _ => by simp; omega), ?_, ?_, (hS _ _ (by simp)).1.trans f, g.to fun k => (hS _ _ (by simp)).1, r1, r2, r3, ?_, r5⟩, (hS _ _ (by simp)).1.trans h3, (hS _ _ (by simp)).1.trans h4, (hS _ _ (by simp)).1.trans h5, (hS _ _ (by simp)).1.trans hf⟩, by simp [ui, ul], fun k hk j => hS k j (by omega)⟩
  · show _ = nI ((aA A ++ [n]).length + 1)
    simp [ui]
  · show LI _ ((0 :: aA A) ++ [n])
    exact e2.push (fun k hk => by have hne : k ≠ (aA A).length + 1 := by simp at hk; omega
                                  simp [ui, ul, hne]) (by simp [ui, ul])
  · show (aA A ++ [n]).length ≤ 6
    simp; omega
theorem rm_row {l : List Nat} (hR : RM A M) (hl : l.length ≤ 600) (hS : EqF (fun k j => k.1 ≠ 55 ∧ ¬ (k.1 = 40 ∧ (j = 0 ∨ j = 19))) M M') (h0 : M'.1 (40, 0) 0 = nI 0) (h1 : M'.1 (40, 0) 19 = nI l.length) (h2 : LN (M'.1 (55, 0)) l) : PMo M (setR A l) 0 M' := by
  obtain ⟨⟨a, b1, c, e1, e2, f, g, r1, r2, r3, r4, r5⟩, h3, h4, h5, hf⟩ := hR
  exact ⟨⟨⟨a.to fun k => (hS _ _ (by simp)).2, fun t x hx => (b1 t x hx).eqM hS (fun r h1 h2 => by simp; omega) (fun j _ => by simp), fun i x hx => (c i x hx).eqM hS (fun r h1 => by simp; omega) (fun j _ => by simp) (fun r h1 j _ => by simp; omega), (hS _ _ (by simp)).1.trans e1, e2.to fun k => (hS _ _ (by simp)).2, h1, h2, r1, r2, r3, r4, hl⟩, (hS _ _ (by simp)).1.trans h3, (hS _ _ (by simp)).1.trans h4, (hS _ _ (by simp)).1.trans h5, (hS _ _ (by simp)).1.trans hf⟩, h0, fun k hk j => hS k j (by omega)⟩
theorem rm_clr (hR : RM A M) : PMo M (clrA A) 0 (ui (ui (ui (ui M (40, 0) 0 (nI 0)) (40, 0) 1 (nI 0)) (40, 0) 3 (nI 0)) (40, 0) 8 (nI 0)) := by
  have hS : EqF (fun k j => ¬ (k.1 = 40 ∧ (j = 0 ∨ j = 1 ∨ j = 3 ∨ j = 8))) M (ui (ui (ui (ui M (40, 0) 0 (nI 0)) (40, 0) 1 (nI 0)) (40, 0) 3 (nI 0)) (40, 0) 8 (nI 0)) := (((EqF.rf.ui (by simp)).ui (by simp)).ui (by simp)).ui (by simp)
  obtain ⟨⟨a, b1, c, e1, e2, f, g, r1, r2, r3, r4, r5⟩, h3, h4, h5, hf⟩ := hR
  exact ⟨⟨⟨LI_nil _, (fun t x hx => by cases hx), (fun t x hx => by cases hx), (hS _ _ (by simp)).1.trans e1, e2.to fun k => (hS _ _ (by simp)).2, (hS _ _ (by simp)).1.trans f, g.to fun k => (hS _ _ (by simp)).1, Nat.zero_le _, Nat.zero_le _, Nat.zero_le _, r4, r5⟩, by simp [ui, clrA, aW], by simp [ui, clrA, aT], by simp [ui, clrA, aH], (hS _ _ (by simp)).1.trans hf⟩, by simp [ui], fun k hk j => hS k j (by omega)⟩
end U2
