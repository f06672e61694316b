/-! decode, as the model does it -/
section N7
variable {G : Gd} {d : Nat} {M : Mm} {A : Ab} {cw ch ct : Nat} {v0 : Int64}
set_option maxHeartbeats 4000000 in
theorem l_dexS (hG : Gok G) (hd : 2 ≤ d) (ho : M.1 (40, 0) 28 = nI 0) (hs : M.1 (40, 0) 37 = -1) {P : Mm → Prop} (hP : P (ui (ui M (40, 0) 21 (-1)) (40, 0) 0 (nI 0))) : Ld G d 0 (Ze G (.inl (some (.long v0))) P 0) 0 cw ch ct v0 M := by
  show Fr G mX9_decode d 0 _ 0 39 _ [] M
  refine x_aload_n rfl rfl rfl ?_
  refine x_getIv (v := nI 0) ho rfl rfl f_9_196 rfl (by decide) rfl ?_
  refine x_if_le rfl rfl (fun _ => ?_) (fun hc1 => absurd hc1 (by decide +kernel))
  refine x_aload_n rfl rfl rfl ?_
  refine x_aload_n rfl rfl rfl ?_
  refine x_getIv (v := (-1)) hs rfl rfl f_9_235 rfl (by decide) rfl ?_
  refine x_putI rfl rfl f_9_90 rfl rfl (by decide) rfl ?_
  refine x_aload_n rfl rfl rfl ?_
  refine x_aload_n rfl rfl rfl ?_
  refine x_callVi (d2 := 0) (c_mgoesT hG (by first | exact hs | (rw [← hs]; rfl) | simp [ui, ul, hs])) rfl rfl v_9_238 rfl rfl (by decide) rfl rfl (Nat.le_of_ble_eq_true rfl) (by omega) (by omega) ?_
  refine x_if_eq rfl rfl (fun hc2 => absurd hc2 (by decide +kernel)) (fun _ => ?_)
  refine x_iconstN (b := 0) rfl rfl ?_
  refine x_goto rfl rfl ?_
  refine x_putI rfl rfl f_9_97 rfl rfl (by decide) rfl ?_
  refine x_aload_n rfl rfl rfl ?_
  refine x_getIv (v := nI 0) (by first | rfl | simp [ui, ul]) rfl rfl f_9_97 rfl (by decide) rfl ?_
  refine x_if_le rfl rfl (fun _ => ?_) (fun hc3 => absurd hc3 (by decide +kernel))
  refine x_lload rfl rfl rfl ?_
  exact fr_e (x_retL rfl rfl rfl (by omega) rfl rfl) hP
set_option maxHeartbeats 4000000 in
theorem l_dexF (hG : Gok G) (hd : 2 ≤ d) {f : Nat} (hs : M.1 (40, 0) 37 = nI f) (hf : f ≤ 600) {P : Mm → Prop} (hP : P (ui (ui (ui (ui (ui M (40, 0) 21 (nI f)) (40, 0) 0 (nI 1)) (40, 0) 1 (nI cw)) (40, 0) 8 (nI ch)) (40, 0) 3 (nI ct))) : Ld G d 0 (Ze G (.inl (some (.long 0))) P 0) 0 cw ch ct v0 M := by
  show Fr G mX9_decode d 0 _ 0 39 _ [] M
  refine x_aload_n rfl rfl rfl ?_
  refine x_getI rfl rfl f_9_196 rfl (by decide) rfl ?_
  refine x_if_le rfl rfl (fun hc1 => ?_) (fun hc1 => ?_)
  · refine x_aload_n rfl rfl rfl ?_
    refine x_aload_n rfl rfl rfl ?_
    refine x_getIv (v := nI f) hs rfl rfl f_9_235 rfl (by decide) rfl ?_
    refine x_putI rfl rfl f_9_90 rfl rfl (by decide) rfl ?_
    refine x_aload_n rfl rfl rfl ?_
    refine x_aload_n rfl rfl rfl ?_
    refine x_callVi (d2 := 0) (c_mgoesF hG (f := f) (by first | exact hs | (rw [← hs]; rfl) | simp [ui, ul, hs]) (by omega)) rfl rfl v_9_238 rfl rfl (by decide) rfl rfl (Nat.le_of_ble_eq_true rfl) (by omega) (by omega) ?_
    refine x_if_eq rfl rfl (fun _ => ?_) (fun hc2 => absurd hc2 (by decide +kernel))
    refine x_iconstN (b := 1) rfl rfl ?_
    refine x_putI rfl rfl f_9_97 rfl rfl (by decide) rfl ?_
    refine x_aload_n rfl rfl rfl ?_
    refine x_getIv (v := nI 1) (by first | rfl | simp [ui, ul]) rfl rfl f_9_97 rfl (by decide) rfl ?_
    refine x_if_le rfl rfl (fun hc3 => absurd hc3 (by decide +kernel)) (fun _ => ?_)
    refine x_aload_n rfl rfl rfl ?_
    refine x_iload_n rfl rfl rfl ?_
    refine x_putI rfl rfl f_9_114 rfl rfl (by decide) rfl ?_
    refine x_aload_n rfl rfl rfl ?_
    refine x_iload_n rfl rfl rfl ?_
    refine x_putI rfl rfl f_9_121 rfl rfl (by decide) rfl ?_
    refine x_aload_n rfl rfl rfl ?_
    refine x_iload_n rfl rfl rfl ?_
    refine x_putI rfl rfl f_9_142 rfl rfl (by decide) rfl ?_
    refine x_lconst (v := 0) rfl rfl (by decide +kernel) ?_
    exact fr_e (x_retL rfl rfl rfl (by omega) rfl rfl) hP
  · refine x_aload_n rfl rfl rfl ?_
    refine x_callVi (d2 := 0) (c_mgoesF hG (f := f) hs (by omega)) rfl rfl v_9_238 rfl rfl (by decide) rfl rfl (Nat.le_of_ble_eq_true rfl) (by omega) (by omega) ?_
    refine x_if_eq rfl rfl (fun _ => ?_) (fun hc4 => absurd hc4 (by decide +kernel))
    refine x_aload_n rfl rfl rfl ?_
    refine x_aload_n rfl rfl rfl ?_
    refine x_getIv (v := nI f) hs rfl rfl f_9_235 rfl (by decide) rfl ?_
    refine x_putI rfl rfl f_9_90 rfl rfl (by decide) rfl ?_
    refine x_aload_n rfl rfl rfl ?_
    refine x_aload_n rfl rfl rfl ?_
    refine x_callVi (d2 := 0) (c_mgoesF hG (f := f) (by first | exact hs | (rw [← hs]; rfl) | simp [ui, ul, hs]) (by omega)) rfl rfl v_9_238 rfl rfl (by decide) rfl rfl (Nat.le_of_ble_eq_true rfl) (by omega) (by omega) ?_
    refine x_if_eq rfl rfl (fun _ => ?_) (fun hc5 => absurd hc5 (by decide +kernel))
    refine x_iconstN (b := 1) rfl rfl ?_
    refine x_putI rfl rfl f_9_97 rfl rfl (by decide) rfl ?_
    refine x_aload_n rfl rfl rfl ?_
    refine x_getIv (v := nI 1) (by first | rfl | simp [ui, ul]) rfl rfl f_9_97 rfl (by decide) rfl ?_
    refine x_if_le rfl rfl (fun hc6 => absurd hc6 (by decide +kernel)) (fun _ => ?_)
    refine x_aload_n rfl rfl rfl ?_
    refine x_iload_n rfl rfl rfl ?_
    refine x_putI rfl rfl f_9_114 rfl rfl (by decide) rfl ?_
    refine x_aload_n rfl rfl rfl ?_
    refine x_iload_n rfl rfl rfl ?_
    refine x_putI rfl rfl f_9_121 rfl rfl (by decide) rfl ?_
    refine x_aload_n rfl rfl rfl ?_
    refine x_iload_n rfl rfl rfl ?_
    refine x_putI rfl rfl f_9_142 rfl rfl (by decide) rfl ?_
    refine x_lconst (v := 0) rfl rfl (by decide +kernel) ?_
    exact fr_e (x_retL rfl rfl rfl (by omega) rfl rfl) hP
theorem rm_eq : EqF (fun k j => ¬ (k.1 = 40 ∧ (j = 22 ∨ j = 24 ∨ j = 26 ∨ j = 28 ∨ j = 36 ∨ j = 37))) M (ui (ui (ui (ui (ui (ui M (40, 0) 22 (nI 0)) (40, 0) 24 (nI 0)) (40, 0) 26 (nI 0)) (40, 0) 28 (nI 0)) (40, 0) 36 (nI 0)) (40, 0) 37 (-1)) := (((((EqF.rf.ui (by simp)).ui (by simp)).ui (by simp)).ui (by simp)).ui (by simp)).ui (by simp)
theorem rm_eqD : EqF (onMD 0 (rs0 A)) M (ui (ui (ui (ui (ui (ui M (40, 0) 22 (nI 0)) (40, 0) 24 (nI 0)) (40, 0) 26 (nI 0)) (40, 0) 28 (nI 0)) (40, 0) 36 (nI 0)) (40, 0) 37 (-1)) := rm_eq.sub fun k j z => by
  obtain ⟨a1, a2, a3, a4, -⟩ := z
  rintro ⟨e, h⟩
  have := a4 e
  omega
theorem rm_start (hwf : wfA A) (hR : RM A M) : RdM (aR A) (aA A) (rs0 A) (ui (ui (ui (ui (ui (ui M (40, 0) 22 (nI 0)) (40, 0) 24 (nI 0)) (40, 0) 26 (nI 0)) (40, 0) 28 (nI 0)) (40, 0) 36 (nI 0)) (40, 0) 37 (-1)) := by
  have hS := rm_eq (M := M)
  obtain ⟨⟨a, b, c, e1, e2, f, g, r1, r2, r3, r4, r5⟩, h3, h4, h5, hf⟩ := hR
  have hL : ∀ f : Nat → Int64, LI f [] := fun f k x h => by cases h
  have hN : ∀ f : Nat → Int32, LN f [] := fun f k x h => by cases h
  refine ⟨⟨by simp [ui, rs0], by simp [ui], by simp [ui, rs0, pX], hL _⟩, ⟨Nat.zero_le _, Nat.le_refl _, (fun t h => by cases h)⟩, ⟨by simp [ui, rs0, pL], hN _, by simp [ui, rs0, pR], hN _, (hS _ _ (by simp)).1.trans h3, a.to fun k => (hS _ _ (by simp)).2, (hS _ _ (by simp)).1.trans h4, fun t x hx => (b t x hx).eqM hS (fun r h1 h2 => by simp; omega) (fun j _ => by simp), (hS _ _ (by simp)).1.trans h5, fun j x hx => (hS _ _ (by simp)).1.trans (c j x hx).1, hwf.2.1⟩, ⟨r1, r2, r3, Nat.le_refl _, Nat.zero_le _, (fun i h => by cases h), (fun i h => by cases h), fun x hx => ?_, hwf.1⟩, ⟨(hS _ _ (by simp)).1.trans f, g.to fun k => (hS _ _ (by simp)).1, r5, hwf.2.2.2.2.2, (hS _ _ (by simp)).1.trans e1, e2.to fun k => (hS _ _ (by simp)).2, r4⟩⟩
  obtain ⟨j, hj, e1⟩ := List.mem_iff_getElem.mp (show x ∈ aH A from hx)
  exact (c j x (by rw [List.getElem?_eq_getElem hj, e1])).2.2.2.2.2.2.2.2.2.2.2.2
theorem mTh.eqD {h : Nat} {s : RS} {x : Th} {j : Nat} {M M1 : Mm} (hm : mTh x M j) (he : EqF (onMD h s) M M1) (hl : j < (pH s).length) : mTh x M1 j := by
  refine hm.eqM he (fun r h1 => ?_) (fun j' hj => ?_) (fun r h1 j' hj => ?_)
  · have h9 : r = 46 ∨ r = 47 ∨ r = 48 ∨ r = 49 ∨ r = 51 := by omega
    unfold onMD; rcases h9 with rfl | rfl | rfl | rfl | rfl <;> simp <;> omega
  · unfold onMD; simp; omega
  · unfold onMD; rcases h1 with rfl | rfl <;> simp <;> omega
theorem onMD_out {h : Nat} {s : RS} (k : Ky) (j : Nat) (z : k.1 < 40 ∨ 67 ≤ k.1) : onMD h s k j := ⟨by omega, by omega, by omega, fun e => by omega, fun e => by omega, fun e => by omega, fun e => by omega, fun e => by omega, fun e => by omega, fun e => by omega, fun e => by omega, fun e => by omega⟩
theorem rm_ok {s : RS} {M2 : Mm} (hR : RM A M) (hE : EqF (onMD 0 (rs0 A)) M M2) (hw : RdM (aR A) (aA A) s M2) (hp : Pre (rs0 A) s) (hc : CmM (pH (rs0 A)).length s M2) : PMo M (aD A s) 0 (ui (ui M2 (40, 0) 21 (-1)) (40, 0) 0 (nI 0)) := by
  have hS3 : EqF (fun k j => ¬ (k.1 = 40 ∧ (j = 0 ∨ j = 21))) M2 (ui (ui M2 (40, 0) 21 (-1)) (40, 0) 0 (nI 0)) := (EqF.rf.ui (by simp)).ui (by simp)
  obtain ⟨⟨a, b, c, e1, e2, f, g, r1, r2, r3, r4, r5⟩, h3, h4, h5, hf⟩ := hR
  obtain ⟨ha, hb, ⟨k1, k2, k3, k4, k5, k6, k7, k8, k9, k10, k11⟩, ⟨i1, i2, i3, i4, i5, i6, i7, i8, i9⟩, ⟨q1, q2, q3, q4, q5, q6, q7⟩⟩ := hw
  refine ⟨⟨⟨k6.to fun k => (hS3 _ _ (by simp)).2, fun t x hx => (k8 t x hx).eqM hS3 (fun r h1 h2 => by simp; omega) (fun j _ => by simp), fun i x hx => ?_, (hS3 _ _ (by simp)).1.trans q5, q6.to fun k => (hS3 _ _ (by simp)).2, (hS3 _ _ (by simp)).1.trans q1, q2.to fun k => (hS3 _ _ (by simp)).1, i1, i2, i3, q7, q3⟩, (hS3 _ _ (by simp)).1.trans k5, (hS3 _ _ (by simp)).1.trans k7, (hS3 _ _ (by simp)).1.trans k9, by simp [ui, aD, aF]⟩, by simp [ui], fun k hk j => ⟨(hS3 k j (by omega)).1.trans (hE k j (onMD_out k j hk)).1, (hS3 k j (by omega)).2.trans (hE k j (onMD_out k j hk)).2⟩⟩
  have hx2 : (pH s)[i]? = some x := hx
  refine mTh.eqM ?_ hS3 (fun r h1 => by simp; omega) (fun j _ => by simp) (fun r h1 j _ => by simp; omega)
  by_cases hl : i < (pH (rs0 A)).length
  · rw [hp.2.2.1 i hl] at hx2
    exact (c i x hx2).eqD hE hl
  · exact hc i x (by omega) hx2
theorem rm_bad {f : Nat} {M2 : Mm} (hR : RM A M) (hE : EqF (onMD 0 (rs0 A)) M M2) : PMo M (setF A (nI f)) 1 (ui (ui (ui (ui (ui M2 (40, 0) 21 (nI f)) (40, 0) 0 (nI 1)) (40, 0) 1 (nI (aW A).length)) (40, 0) 8 (nI (aH A).length)) (40, 0) 3 (nI (aT A).length)) := by
  have hS3 : EqF (fun k j => ¬ (k.1 = 40 ∧ (j = 0 ∨ j = 21 ∨ j = 1 ∨ j = 8 ∨ j = 3))) M2 (ui (ui (ui (ui (ui M2 (40, 0) 21 (nI f)) (40, 0) 0 (nI 1)) (40, 0) 1 (nI (aW A).length)) (40, 0) 8 (nI (aH A).length)) (40, 0) 3 (nI (aT A).length)) := ((((EqF.rf.ui (by simp)).ui (by simp)).ui (by simp)).ui (by simp)).ui (by simp)
  obtain ⟨⟨a, b, c, e1, e2, f, g, r1, r2, r3, r4, r5⟩, h3, h4, h5, hf⟩ := hR
  refine ⟨⟨⟨fun k x hx => (hS3 _ _ (by simp)).2.trans ((hE _ _ ?_).2.trans (a k x hx)), fun t x hx => ((b t x hx).eqM hE (fun r h1 h2 => ?_) (fun j hj => ?_)).eqM hS3 (fun r h1 h2 => by simp; omega) (fun j _ => by simp), fun i x hx => ((c i x hx).eqD hE (at_lt hx)).eqM hS3 (fun r h1 => by simp; omega) (fun j _ => by simp) (fun r h1 j _ => by simp; omega), (hS3 _ _ (by simp)).1.trans ((hE _ _ (by unfold onMD; simp)).1.trans e1), fun k x hx => (hS3 _ _ (by simp)).2.trans ((hE _ _ (by unfold onMD; simp)).2.trans (e2 k x hx)), (hS3 _ _ (by simp)).1.trans ((hE _ _ (by unfold onMD; simp)).1.trans f), fun k x hx => (hS3 _ _ (by simp)).1.trans ((hE _ _ (by unfold onMD; simp)).1.trans (g k x hx)), r1, r2, r3, r4, r5⟩, by simp [ui, setF, aW], by simp [ui, setF, aT], by simp [ui, setF, aH], by simp [ui, setF, aF]⟩, by simp [ui], fun k hk j => ⟨(hS3 k j (by omega)).1.trans (hE k j (onMD_out k j hk)).1, (hS3 k j (by omega)).2.trans (hE k j (onMD_out k j hk)).2⟩⟩
  · have h9 : k < (pW (rs0 A)).length := at_lt hx
    unfold onMD; simp; omega
  · have h9 : t < (pT (rs0 A)).length := at_lt hx
    have h8 : r = 42 ∨ r = 43 ∨ r = 44 := by omega
    unfold onMD; rcases h8 with rfl | rfl | rfl <;> simp <;> omega
  · have h9 : t < (pT (rs0 A)).length := at_lt hx
    unfold onMD; simp; omega
set_option maxHeartbeats 4000000 in
set_option maxRecDepth 20000 in
theorem c_mdecodeS (hG : Gok G) (hd : 10 ≤ d) (hwf : wfA A) (hR : RM A M) {v : Int64} {s1 : RS} (hr : rVal (aR A) (aA A) 12 (rs0 A) = .inr (v, s1)) : Ce G mX9_decode d [.ref (ga G (40, 0))] M (.inl (some (.long v))) (PMo M (aD A s1) 0) 0 := by
  have hcw := c_mtakeValue hG (Nat.le_refl 7) (rm_start hwf hR) (h := 0) (by decide) (by simp [ui])
  rw [rVal_hd (h := 0) rfl] at hr
  refine ce_of hG okX9_decode (by decide +kernel) rfl (Nat.le_of_ble_eq_true rfl) ?_
  refine x_aload_n rfl rfl rfl ?_
  refine x_getIv (v := nI ((aW A).length)) hR.2.1 rfl rfl f_9_114 rfl (by decide) rfl ?_
  refine x_istore_n rfl rfl rfl rfl ?_
  refine x_aload_n rfl rfl rfl ?_
  refine x_getIv (v := nI ((aH A).length)) hR.2.2.2.1 rfl rfl f_9_121 rfl (by decide) rfl ?_
  refine x_istore_n rfl rfl rfl rfl ?_
  refine x_aload_n rfl rfl rfl ?_
  refine x_getIv (v := nI ((aT A).length)) hR.2.2.1 rfl rfl f_9_142 rfl (by decide) rfl ?_
  refine x_istore_n rfl rfl rfl rfl ?_
  refine x_aload_n rfl rfl rfl ?_
  refine x_callVv (d2 := 0) (c_mclearLists hG) rfl rfl v_9_226 rfl rfl (by decide) rfl rfl (Nat.le_of_ble_eq_true rfl) (by omega) (by omega) ?_
  refine x_aload_n rfl rfl rfl ?_
  refine x_iconstN (b := 0) rfl rfl ?_
  refine x_putI rfl rfl f_9_242 rfl rfl (by decide) rfl ?_
  refine x_aload_n rfl rfl rfl ?_
  refine x_iconst (v := -1) rfl rfl (by decide +kernel) ?_
  refine x_putI rfl rfl f_9_235 rfl rfl (by decide) rfl ?_
  refine x_aload_n rfl rfl rfl ?_
  refine x_callVq (k2 := 0) (d2 := 7) hcw rfl rfl v_9_280 rfl rfl (by decide) rfl rfl (Nat.le_of_ble_eq_true rfl) (by omega) (by omega) (fun w M2 hq => ?_)
  obtain ⟨b, rfl, hE, h2⟩ := hq
  refine x_aload_n rfl rfl rfl ?_
  refine x_getL rfl rfl f_9_255 rfl (by decide) rfl ?_
  refine x_lstore rfl rfl rfl rfl ?_
  show Ld G d 0 _ 0 (aW A).length (aH A).length (aT A).length (M2.2 (40, 0) 38) M2
  have hEM : EqF (onMD 0 (rs0 A)) M M2 := rm_eqD.tr hE
  cases hh : rhd (aR A) (aA A) 0 (rs0 A) with
  | inl e =>
    rw [hh] at hr; cases hr
  | inr q =>
    rw [hh] at hr h2
    obtain ⟨⟨v1, p⟩, s2⟩ := q
    obtain ⟨rfl, w1, w2, w3, w4⟩ := h2
    dsimp only [rb] at hr
    dsimp only at w1 w2 w3 w4
    rw [w2]
    cases p with
    | none =>
      cases hr
      exact l_dexS hG (by omega) w4.1 w1.1.2.1 (rm_ok hR hEM w1 w3 w4.2)
    | some p =>
      refine dec_ins (row := aR A) (al := aA A) (sB := rs0 A) (MB := M) hG (by omega) (Nat.le_refl _) 12 0 rfl p (rs0 A) s2 M2 w4 w1 w3 Pre.rf hEM (fun s3 M3 e3 hD => ?_) (fun f3 M3 e3 hF => ?_)
      · rw [e3] at hr
        cases hr
        obtain ⟨y1, y2, y3, y4, y5, y6⟩ := hD
        have hpi : p.1 = (pH (rs0 A)).length := w4.1
        exact l_dexS hG (by omega) y4 y2.1.2.1 (rm_ok hR y6 y2 y3 (hpi ▸ y5))
      · rw [e3] at hr
        cases hr
set_option maxHeartbeats 4000000 in
set_option maxRecDepth 20000 in
theorem c_mdecodeF (hG : Gok G) (hd : 10 ≤ d) (hwf : wfA A) (hR : RM A M) {f : Nat} (hr : rVal (aR A) (aA A) 12 (rs0 A) = .inl f) : Ce G mX9_decode d [.ref (ga G (40, 0))] M (.inl (some (.long 0))) (PMo M (setF A (nI f)) 1) 0 := by
  have hcw := c_mtakeValue hG (Nat.le_refl 7) (rm_start hwf hR) (h := 0) (by decide) (by simp [ui])
  rw [rVal_hd (h := 0) rfl] at hr
  refine ce_of hG okX9_decode (by decide +kernel) rfl (Nat.le_of_ble_eq_true rfl) ?_
  refine x_aload_n rfl rfl rfl ?_
  refine x_getIv (v := nI ((aW A).length)) hR.2.1 rfl rfl f_9_114 rfl (by decide) rfl ?_
  refine x_istore_n rfl rfl rfl rfl ?_
  refine x_aload_n rfl rfl rfl ?_
  refine x_getIv (v := nI ((aH A).length)) hR.2.2.2.1 rfl rfl f_9_121 rfl (by decide) rfl ?_
  refine x_istore_n rfl rfl rfl rfl ?_
  refine x_aload_n rfl rfl rfl ?_
  refine x_getIv (v := nI ((aT A).length)) hR.2.2.1 rfl rfl f_9_142 rfl (by decide) rfl ?_
  refine x_istore_n rfl rfl rfl rfl ?_
  refine x_aload_n rfl rfl rfl ?_
  refine x_callVv (d2 := 0) (c_mclearLists hG) rfl rfl v_9_226 rfl rfl (by decide) rfl rfl (Nat.le_of_ble_eq_true rfl) (by omega) (by omega) ?_
  refine x_aload_n rfl rfl rfl ?_
  refine x_iconstN (b := 0) rfl rfl ?_
  refine x_putI rfl rfl f_9_242 rfl rfl (by decide) rfl ?_
  refine x_aload_n rfl rfl rfl ?_
  refine x_iconst (v := -1) rfl rfl (by decide +kernel) ?_
  refine x_putI rfl rfl f_9_235 rfl rfl (by decide) rfl ?_
  refine x_aload_n rfl rfl rfl ?_
  refine x_callVq (k2 := 0) (d2 := 7) hcw rfl rfl v_9_280 rfl rfl (by decide) rfl rfl (Nat.le_of_ble_eq_true rfl) (by omega) (by omega) (fun w M2 hq => ?_)
  obtain ⟨b, rfl, hE, h2⟩ := hq
  refine x_aload_n rfl rfl rfl ?_
  refine x_getL rfl rfl f_9_255 rfl (by decide) rfl ?_
  refine x_lstore rfl rfl rfl rfl ?_
  show Ld G d 0 _ 0 (aW A).length (aH A).length (aT A).length (M2.2 (40, 0) 38) M2
  have hEM : EqF (onMD 0 (rs0 A)) M M2 := rm_eqD.tr hE
  cases hh : rhd (aR A) (aA A) 0 (rs0 A) with
  | inl e =>
    rw [hh] at hr h2
    cases hr
    exact l_dexF hG (by omega) h2.1 h2.2 (rm_bad hR hEM)
  | inr q =>
    rw [hh] at hr h2
    obtain ⟨⟨v1, p⟩, s2⟩ := q
    obtain ⟨rfl, w1, w2, w3, w4⟩ := h2
    dsimp only [rb] at hr
    dsimp only at w1 w2 w3 w4
    rw [w2]
    cases p with
    | none =>
      cases hr
    | some p =>
      refine dec_ins (row := aR A) (al := aA A) (sB := rs0 A) (MB := M) hG (by omega) (Nat.le_refl _) 12 0 rfl p (rs0 A) s2 M2 w4 w1 w3 Pre.rf hEM (fun s3 M3 e3 hD => ?_) (fun f3 M3 e3 hF => ?_)
      · rw [e3] at hr
        cases hr
      · rw [e3] at hr
        cases hr
        exact l_dexF hG (by omega) hF.2.1 hF.2.2 (rm_bad hR hF.1)
end N7
