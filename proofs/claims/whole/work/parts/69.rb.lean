/-! decode, as the class does it -/
def rs0 (A : Ab) : RS := (0, [], [], [], aW A, aT A, aH A)
def aD (A : Ab) (s : RS) : Ab := (pW s, pT s, pH s, aA A, aR A, -1)
def setF (A : Ab) (f : Int32) : Ab := (A.1, A.2.1, A.2.2.1, A.2.2.2.1, A.2.2.2.2.1, f)
section RB
variable {G : Gd} {d : Nat} {M : Mm} {A : Ab}
set_option maxHeartbeats 4000000 in
set_option maxRecDepth 20000 in
theorem c_rstart (hG : Gok G) (hd : 1 ≤ d) (hR : RC A M) : Ct G mX2_start d [.ref (ga G (27, 0))] M (.inl none) (ui (ui (ui (ui (ui (ui (ui (ui M (28, 0) 1 (nI 0)) (30, 0) 1 (nI 0)) (32, 0) 1 (nI 0)) (27, 0) 6 (nI (aW A).length)) (27, 0) 7 (nI (aT A).length)) (27, 0) 8 (nI (aH A).length)) (27, 0) 9 (nI 0)) (27, 0) 10 (-1)) 0 := by
  refine ct_of hG okX2_start (by decide +kernel) rfl (Nat.le_of_ble_eq_true rfl) ?_
  refine x_aload_n rfl rfl rfl ?_
  refine x_getR0 rfl rfl f_2_14 rfl (by decide) rfl rfl ?_
  refine x_callVv (d2 := 0) (c_LL_empty hG (lk_28 (by decide))) rfl rfl v_2_41 rfl rfl (by decide) rfl rfl (Nat.le_of_ble_eq_true rfl) (by omega) (by omega) ?_
  refine x_aload_n rfl rfl rfl ?_
  refine x_getR0 rfl rfl f_2_20 rfl (by decide) rfl rfl ?_
  refine x_callVv (d2 := 0) (c_LL_empty hG (lk_30 (by decide))) rfl rfl v_2_41 rfl rfl (by decide) rfl rfl (Nat.le_of_ble_eq_true rfl) (by omega) (by omega) ?_
  refine x_aload_n rfl rfl rfl ?_
  refine x_getR0 rfl rfl f_2_23 rfl (by decide) rfl rfl ?_
  refine x_callVv (d2 := 0) (c_LL_empty hG (lk_32 (by decide))) rfl rfl v_2_41 rfl rfl (by decide) rfl rfl (Nat.le_of_ble_eq_true rfl) (by omega) (by omega) ?_
  refine x_aload_n rfl rfl rfl ?_
  refine x_aload_n rfl rfl rfl ?_
  refine x_getR0 rfl rfl f_2_30 rfl (by decide) rfl rfl ?_
  refine x_getIv (v := nI ((aW A).length)) (by first | exact hR.2.1 | (rw [← hR.2.1]; rfl) | simp [ui, ul, hR.2.1]) rfl rfl f_2_44 rfl (by decide) rfl ?_
  refine x_putI rfl rfl f_2_49 rfl rfl (by decide) rfl ?_
  refine x_aload_n rfl rfl rfl ?_
  refine x_aload_n rfl rfl rfl ?_
  refine x_getR0 rfl rfl f_2_30 rfl (by decide) rfl rfl ?_
  refine x_getIv (v := nI ((aT A).length)) (by first | exact hR.2.2.1 | (rw [← hR.2.2.1]; rfl) | simp [ui, ul, hR.2.2.1]) rfl rfl f_2_50 rfl (by decide) rfl ?_
  refine x_putI rfl rfl f_2_53 rfl rfl (by decide) rfl ?_
  refine x_aload_n rfl rfl rfl ?_
  refine x_aload_n rfl rfl rfl ?_
  refine x_getR0 rfl rfl f_2_30 rfl (by decide) rfl rfl ?_
  refine x_getIv (v := nI ((aH A).length)) (by first | exact hR.2.2.2.1 | (rw [← hR.2.2.2.1]; rfl) | simp [ui, ul, hR.2.2.2.1]) rfl rfl f_2_54 rfl (by decide) rfl ?_
  refine x_putI rfl rfl f_2_57 rfl rfl (by decide) rfl ?_
  refine x_aload_n rfl rfl rfl ?_
  refine x_iconstN (b := 0) rfl rfl ?_
  refine x_putI rfl rfl f_2_58 rfl rfl (by decide) rfl ?_
  refine x_aload_n rfl rfl rfl ?_
  refine x_iconst (v := -1) rfl rfl (by decide +kernel) ?_
  refine x_putI rfl rfl f_2_26 rfl rfl (by decide) rfl ?_
  exact x_retV rfl rfl rfl (by omega) rfl rfl
set_option maxHeartbeats 4000000 in
set_option maxRecDepth 20000 in
theorem c_rkeep (hG : Gok G) (hd : 1 ≤ d) {a b c : Nat} (h1 : M.1 (27, 0) 6 = nI a) (h2 : M.1 (27, 0) 7 = nI b) (h3 : M.1 (27, 0) 8 = nI c) : Ct G mX2_keep d [.ref (ga G (27, 0))] M (.inl none) (ui (ui (ui M (1, 0) 3 (nI a)) (1, 0) 4 (nI b)) (1, 0) 5 (nI c)) 0 := by
  refine ct_of hG okX2_keep (by decide +kernel) rfl (Nat.le_of_ble_eq_true rfl) ?_
  refine x_aload_n rfl rfl rfl ?_
  refine x_getR0 rfl rfl f_2_30 rfl (by decide) rfl rfl ?_
  refine x_aload_n rfl rfl rfl ?_
  refine x_getIv (v := nI a) h1 rfl rfl f_2_49 rfl (by decide) rfl ?_
  refine x_aload_n rfl rfl rfl ?_
  refine x_getIv (v := nI b) h2 rfl rfl f_2_53 rfl (by decide) rfl ?_
  refine x_aload_n rfl rfl rfl ?_
  refine x_getIv (v := nI c) h3 rfl rfl f_2_57 rfl (by decide) rfl ?_
  refine x_callVv (d2 := 0) (c_St_keepOnly hG _ _ _) rfl rfl v_2_61 rfl rfl (by decide) rfl rfl (Nat.le_of_ble_eq_true rfl) (by omega) (by omega) ?_
  exact x_retV rfl rfl rfl (by omega) rfl rfl
theorem rs_eq : EqF (fun k j => k.1 ≠ 28 ∧ k.1 ≠ 30 ∧ k.1 ≠ 32 ∧ (k.1 = 27 → ¬ (6 ≤ j ∧ j ≤ 10))) M (ui (ui (ui (ui (ui (ui (ui (ui M (28, 0) 1 (nI 0)) (30, 0) 1 (nI 0)) (32, 0) 1 (nI 0)) (27, 0) 6 (nI (aW A).length)) (27, 0) 7 (nI (aT A).length)) (27, 0) 8 (nI (aH A).length)) (27, 0) 9 (nI 0)) (27, 0) 10 (-1)) := (((((((EqF.rf.ui (by simp)).ui (by simp)).ui (by simp)).ui (by simp)).ui (by simp)).ui (by simp)).ui (by simp)).ui (by simp)
theorem rs_start (hwf : wfA A) (hR : RC A M) : RdC (aR A) (aA A) (rs0 A) (ui (ui (ui (ui (ui (ui (ui (ui M (28, 0) 1 (nI 0)) (30, 0) 1 (nI 0)) (32, 0) 1 (nI 0)) (27, 0) 6 (nI (aW A).length)) (27, 0) 7 (nI (aT A).length)) (27, 0) 8 (nI (aH A).length)) (27, 0) 9 (nI 0)) (27, 0) 10 (-1)) := by
  have hS := rs_eq (M := M) (A := A)
  obtain ⟨⟨a, b, c, e, f, g, r1, r2, r3, r4, r5⟩, h3, h4, h5, hf⟩ := hR
  have hL : ∀ f : Nat → Int64, LI f [] := fun f k x h => by cases h
  refine ⟨⟨by simp [ui, rs0], by simp [ui, rs0, pX], hL _⟩, ⟨Nat.zero_le _, Nat.le_refl _, (fun t h => by cases h)⟩, ⟨⟨by simp [ui, rs0, pL], hL _⟩, ⟨by simp [ui, rs0, pR], hL _⟩, by simp [ui, rs0, pW], fun k x hx => (hS (2, 0) k (by simp)).2.trans (a k x hx), by simp [ui, rs0, pT], fun t x hx => (b t x hx).eqF hS (fun r h1 h2 j => by simp; omega), by simp [ui, rs0, pH], fun j x hx => (hS (8, j) 3 (by simp)).1.trans (c j x hx).1⟩, ⟨r1, r2, r3, Nat.le_refl _, Nat.zero_le _, (fun i h => by cases h), (fun i h => by cases h), fun x hx => ?_, hwf.1⟩, ⟨(hS (15, 0) 1 (by simp)).1.trans f, fun k x hx => (hS (16, 0) k (by simp)).1.trans (g k x hx), r5, hwf.2.2.2.2.2, e.eqF hS (by simp) (fun j => by simp), r4⟩⟩
  obtain ⟨j, hj, e1⟩ := List.mem_iff_getElem.mp (show x ∈ aH A from hx)
  exact (c j x (by rw [List.getElem?_eq_getElem hj, e1])).2.2.2.2.2.2.2.2.2
theorem rs_ok {s : RS} {M2 : Mm} (hR : RC A M) (hE : EqF (onD (rs0 A)) (ui (ui (ui (ui (ui (ui (ui (ui M (28, 0) 1 (nI 0)) (30, 0) 1 (nI 0)) (32, 0) 1 (nI 0)) (27, 0) 6 (nI (aW A).length)) (27, 0) 7 (nI (aT A).length)) (27, 0) 8 (nI (aH A).length)) (27, 0) 9 (nI 0)) (27, 0) 10 (-1)) M2) (hw : RdC (aR A) (aA A) s M2) (hp : Pre (rs0 A) s) (hc : Cmp (pH (rs0 A)).length s M2) : PC M (aD A s) (ui (ui (ui M2 (1, 0) 3 (nI (pW s).length)) (1, 0) 4 (nI (pT s).length)) (1, 0) 5 (nI (pH s).length)) := by
  have hS := rs_eq (M := M) (A := A)
  have hS3 : EqF (fun k j => k.1 ≠ 1) M2 (ui (ui (ui M2 (1, 0) 3 (nI (pW s).length)) (1, 0) 4 (nI (pT s).length)) (1, 0) 5 (nI (pH s).length)) := ((EqF.rf.ui (by simp)).ui (by simp)).ui (by simp)
  obtain ⟨⟨a, b, c, e, f, g, r1, r2, r3, r4, r5⟩, h3, h4, h5, hf⟩ := hR
  obtain ⟨ha, hb, ⟨k1, k2, k3, k4, k5, k6, k7, k8⟩, ⟨i1, i2, i3, i4, i5, i6, i7, i8, i9⟩, ⟨q1, q2, q3, q4, q5, q6⟩⟩ := hw
  refine ⟨⟨⟨fun k x hx => (hS3 (2, 0) k (by simp)).2.trans (k4 k x hx), fun t x hx => (k6 t x hx).eqF hS3 (fun r h1 h2 j => by simp; omega), fun i x hx => ?_, q5.eqF hS3 (by simp) (fun j => by simp), (hS3 (15, 0) 1 (by simp)).1.trans q1, fun k x hx => (hS3 (16, 0) k (by simp)).1.trans (q2 k x hx), i1, i2, i3, q6, q3⟩, by simp [ui, aD, aW], by simp [ui, aD, aT], by simp [ui, aD, aH], ?_⟩, ?_⟩
  · have hx2 : (pH s)[i]? = some x := hx
    refine cTh.eqF ?_ hS3 (fun r h1 h2 j => by simp; omega)
    by_cases hl : i < (pH (rs0 A)).length
    · rw [hp.2.2.1 i hl] at hx2
      exact ((c i x hx2).eqF hS (fun r h1 h2 j => by simp; omega)).eqF hE (fun r h1 h2 j => by unfold onD; simp; omega)
    · exact hc i x (by omega) hx2
  · exact (hS3 (27, 0) 10 (by simp)).1.trans ((hE (27, 0) 10 (by unfold onD; simp)).1.trans (by simp [ui, aD, aF]))
  · exact fun k hk j => ⟨((hS3 k j (by omega)).1.trans (hE k j (by unfold onD; omega)).1).trans (hS k j (by omega)).1, ((hS3 k j (by omega)).2.trans (hE k j (by unfold onD; omega)).2).trans (hS k j (by omega)).2⟩
theorem rs_bad {f : Nat} {M2 : Mm} (hR : RC A M) (hE : EqF (fq (onD (rs0 A))) (ui (ui (ui (ui (ui (ui (ui (ui M (28, 0) 1 (nI 0)) (30, 0) 1 (nI 0)) (32, 0) 1 (nI 0)) (27, 0) 6 (nI (aW A).length)) (27, 0) 7 (nI (aT A).length)) (27, 0) 8 (nI (aH A).length)) (27, 0) 9 (nI 0)) (27, 0) 10 (-1)) M2) (hf9 : M2.1 (27, 0) 10 = nI f) : PC M (setF A (nI f)) M2 := by
  have hS := rs_eq (M := M) (A := A)
  have hq : EqF (fun k j => onD (rs0 A) k j ∧ ¬ k.1 = 27) M M2 := (hS.sub (fun k j z => by have z1 := z.1.1; omega)).tr (hE.sub fun k j z => ⟨z.1, fun e => z.2 e.1⟩)
  obtain ⟨⟨a, b, c, e, f, g, r1, r2, r3, r4, r5⟩, h3, h4, h5, hf⟩ := hR
  refine ⟨⟨⟨fun k x hx => (hq (2, 0) k ?_).2.trans (a k x hx), fun t x hx => (b t x hx).eqF hq (fun r h1 h2 j => ?_), fun i x hx => (c i x hx).eqF hq (fun r h1 h2 j => ?_), e.eqF hq (by unfold onD; simp) (fun j => by unfold onD; simp), (hq (15, 0) 1 (by unfold onD; simp)).1.trans f, fun k x hx => (hq (16, 0) k (by unfold onD; simp)).1.trans (g k x hx), r1, r2, r3, r4, r5⟩, (hq (1, 0) 3 (by unfold onD; simp)).1.trans h3, (hq (1, 0) 4 (by unfold onD; simp)).1.trans h4, (hq (1, 0) 5 (by unfold onD; simp)).1.trans h5, hf9⟩, fun k hk j => hq k j ⟨by unfold onD; omega, by omega⟩⟩
  · have h9 : k < (pW (rs0 A)).length := at_lt hx
    unfold onD; simp; omega
  · have h9 : t < (pT (rs0 A)).length := at_lt hx
    unfold onD; simp; omega
  · have h9 : i < (pH (rs0 A)).length := at_lt hx
    unfold onD; simp; omega
set_option maxHeartbeats 4000000 in
set_option maxRecDepth 20000 in
theorem c_decodeF (hG : Gok G) (hd : 62 ≤ d) (hwf : wfA A) (hR : RC A M) {f : Nat} (hr : rVal (aR A) (aA A) 12 (rs0 A) = .inl f) : Ce G mX8_decode d [.ref (ga G (0, 0))] M (.inr IAE) (PC M (setF A (nI f))) 1 := by
  have hcw := c_readValue hG (row := aR A) (al := aA A) 12 0 61 rfl (Nat.le_refl _) (rs0 A) (ui (ui (ui (ui (ui (ui (ui (ui M (28, 0) 1 (nI 0)) (30, 0) 1 (nI 0)) (32, 0) 1 (nI 0)) (27, 0) 6 (nI (aW A).length)) (27, 0) 7 (nI (aT A).length)) (27, 0) 8 (nI (aH A).length)) (27, 0) 9 (nI 0)) (27, 0) 10 (-1)) (rs_start hwf hR)
  have hpr := rVal_pre (row := aR A) (al := aA A) 12 (rs0 A)
  unfold CR2 at hcw
  rw [hr] at hcw
  refine ce_of hG okX8_decode (by decide +kernel) rfl (Nat.le_of_ble_eq_true rfl) ?_
  refine x_aload_n rfl rfl rfl ?_
  refine x_getR0 rfl rfl f_8_46 rfl (by decide) rfl rfl ?_
  refine x_callVv (d2 := 1) (c_rstart hG (Nat.le_refl 1) hR) rfl rfl v_8_187 rfl rfl (by decide) rfl rfl (Nat.le_of_ble_eq_true rfl) (by omega) (by omega) ?_
  refine x_aload_n rfl rfl rfl ?_
  refine x_getR0 rfl rfl f_8_46 rfl (by decide) rfl rfl ?_
  refine x_iconstN (b := 0) rfl rfl ?_
  exact x_throwVe (k2 := 1) (d2 := 61) hcw rfl rfl v_8_188 rfl rfl (by decide) rfl rfl (Nat.le_of_ble_eq_true rfl) (by omega) (by omega) (fun M2 h => rs_bad hR h.1 h.2)
set_option maxHeartbeats 4000000 in
set_option maxRecDepth 20000 in
theorem c_decodeS (hG : Gok G) (hd : 62 ≤ d) (hwf : wfA A) (hR : RC A M) {v : Int64} {s1 : RS} (hr : rVal (aR A) (aA A) 12 (rs0 A) = .inr (v, s1)) : Ce G mX8_decode d [.ref (ga G (0, 0))] M (.inl (some (.long v))) (PC M (aD A s1)) 0 := by
  have hcw := c_readValue hG (row := aR A) (al := aA A) 12 0 61 rfl (Nat.le_refl _) (rs0 A) (ui (ui (ui (ui (ui (ui (ui (ui M (28, 0) 1 (nI 0)) (30, 0) 1 (nI 0)) (32, 0) 1 (nI 0)) (27, 0) 6 (nI (aW A).length)) (27, 0) 7 (nI (aT A).length)) (27, 0) 8 (nI (aH A).length)) (27, 0) 9 (nI 0)) (27, 0) 10 (-1)) (rs_start hwf hR)
  have hpr := rVal_pre (row := aR A) (al := aA A) 12 (rs0 A)
  unfold CR2 at hcw
  rw [hr] at hcw
  refine ce_of hG okX8_decode (by decide +kernel) rfl (Nat.le_of_ble_eq_true rfl) ?_
  refine x_aload_n rfl rfl rfl ?_
  refine x_getR0 rfl rfl f_8_46 rfl (by decide) rfl rfl ?_
  refine x_callVv (d2 := 1) (c_rstart hG (Nat.le_refl 1) hR) rfl rfl v_8_187 rfl rfl (by decide) rfl rfl (Nat.le_of_ble_eq_true rfl) (by omega) (by omega) ?_
  refine x_aload_n rfl rfl rfl ?_
  refine x_getR0 rfl rfl f_8_46 rfl (by decide) rfl rfl ?_
  refine x_iconstN (b := 0) rfl rfl ?_
  refine x_callVe (k2 := 0) (d2 := 61) hcw rfl rfl v_8_188 rfl rfl (by decide) rfl rfl (Nat.le_of_ble_eq_true rfl) (by omega) (by omega) (fun M2 hM2 => ?_)
  obtain ⟨hE, hw, hc⟩ := hM2
  refine x_lstore_n rfl rfl rfl rfl ?_
  refine x_aload_n rfl rfl rfl ?_
  refine x_getR0 rfl rfl f_8_46 rfl (by decide) rfl rfl ?_
  refine x_callVv (d2 := 1) (c_rkeep hG (Nat.le_refl 1) hw.2.2.1.2.2.1 hw.2.2.1.2.2.2.2.1 hw.2.2.1.2.2.2.2.2.2.1) rfl rfl v_8_192 rfl rfl (by decide) rfl rfl (Nat.le_of_ble_eq_true rfl) (by omega) (by omega) ?_
  refine x_lload_n rfl rfl rfl ?_
  exact fr_e (x_retL rfl rfl rfl (by omega) rfl rfl) (rs_ok hR hE hw (hpr v s1 hr) hc)
end RB
