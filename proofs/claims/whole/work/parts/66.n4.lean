theorem rh1_x {row : List Nat} {al : List Int64} {h kp k : Nat} {s : RS} (h4 : ¬ k = 4) (h5 : ¬ k = 5) (h6 : ¬ k = 6) (h8 : ¬ (k = 8 ∨ k = 9 ∨ k = 10 ∨ k = 12)) (h3 : 3 < k) : rh1 row al h kp k s = .inl kp := by
  unfold rh1; rw [if_neg h4, if_neg h5, if_neg h6, if_neg h8, if_pos h3]
theorem vI_s {n : Nat} (h : n < 268435456) : 16 * lN n + 4 = vI n := by unfold vI; rw [if_pos h, nI_l (by omega)]
theorem vI_g {n : Nat} (h : ¬ n < 268435456) : 16 * (nI n - nI 536870912).toInt64 + 4 = vI n := by unfold vI; rw [if_neg h]
theorem PHd.pre {row : List Nat} {al : List Int64} {h : Nat} {s s0 s' : RS} {q : Int64 × Option Pd} {M' : Mm} (z : PHd row al h s q s' M') (hp : Pre s0 s) (he : (pH s).length = (pH s0).length) : PHd row al h s0 q s' M' := by
  obtain ⟨z1, z2, z3, z4⟩ := z
  refine ⟨z1, z2, hp.tr z3, ?_⟩
  obtain ⟨v, p⟩ := q
  cases p with
  | none => exact ⟨z4.1, he ▸ z4.2⟩
  | some p => exact ⟨z4.1.trans he, z4.2⟩
theorem RdM.aW {row : List Nat} {al : List Int64} {s : RS} {M : Mm} {v : Int64} (h : RdM row al s M) (hl : (pW s).length < 40) : RdM row al (addW v s) (ui (ul M (41, 0) (pW s).length v) (40, 0) 1 (nI ((pW s).length + 1))) := by
  have hS : EqF (fun k j => k.1 ≠ 41 ∧ (k.1 = 40 → j ≠ 1)) M (ui (ul M (41, 0) (pW s).length v) (40, 0) 1 (nI ((pW s).length + 1))) := (EqF.rf.ul (by simp)).ui (by simp)
  obtain ⟨⟨a1, a2, a3, a4⟩, hb, ⟨k1, k2, k3, k4, k5, k6, k7, k8, k9, k10, k11⟩, ⟨i1, i2⟩, hw⟩ := id h
  refine ⟨⟨(hS _ _ (by simp)).1.trans a1, (hS _ _ (by simp)).1.trans a2, (hS _ _ (by simp)).1.trans a3, a4.to fun k => (hS _ _ (by simp)).2⟩, hb, ⟨(hS _ _ (by simp)).1.trans k1, k2.to fun k => (hS _ _ (by simp)).1, (hS _ _ (by simp)).1.trans k3, k4.to fun k => (hS _ _ (by simp)).1, ?_, ?_, (hS _ _ (by simp)).1.trans k7, fun t x hx => (k8 t x hx).eqM hS (fun r h1 h2 => by simp; omega) (fun j _ => by simp), (hS _ _ (by simp)).1.trans k9, fun j x hx => (hS _ _ (by simp)).1.trans (k10 j x hx), k11⟩, ⟨?_, i2⟩, hw.eq hS (by simp) (by simp) (fun r h1 h2 j => by simp; omega)⟩
  · simp [ui, addW, pW]
  · show LI _ (pW s ++ [v])
    exact k6.push (fun k hk => by have hne : k ≠ (pW s).length := Nat.ne_of_lt hk; simp [ui, ul, hne]) (by simp [ui, ul])
  · show (pW s ++ [v]).length ≤ 40
    simp; omega
section N4
variable {G : Gd} {d : Nat} {M : Mm}
theorem q_callF {β γ : Type} {y : Mt} {pc n t : Nat} {lv : List (Nat × Value)} {st : List Value} {M0 : Mm} {on : Ky → Nat → Prop} {Ps : β → RS → Mm → Prop} {val : β → Option Value} {y2 : Mt} {d2 np idx : Nat} {q : Ky} {ci : Nat} {u : u_T × Nat} {As rest : List Value} {on1 : Ky → Nat → Prop} {Ps1 : γ → RS → Mm → Prop} {val1 : γ → Option Value} {e : Nat} {r : Nat ⊕ (β × RS)} (hC : CQ G y2 d2 (.ref (ga G q) :: As) M on1 Ps1 val1 (.inl e)) (hS : EqF on M0 M) (hon : ∀ k j, on k j → on1 k j) (hi : tget (yT y) pc = some (.invokevirtual idx, n, t)) (hn : pc + 3 = n) (hl : LkV (yC y) idx y2 np)
    (hs : shp q.1 = some (.inl ci)) (hcl : vwCl[ci]? = some ((yN y2).cls, u)) (hc : q.2 < cnt q.1) (hnp : As.length = np) (hst : st = As.reverse ++ .ref (ga G q) :: rest) (hW : (rest.map fun v => v.category).sum ≤ 8) (hd : d2 + 1 ≤ d)
    (kf : ∀ (b : γ) (M1 : Mm), M1.1 (40, 0) 37 = nI e → EqF on M0 M1 → FQ G y d M0 on Ps val r n lv ((val1 b).toList ++ rest) M1) : FQ G y d M0 on Ps val r pc lv st M := by
  refine x_callVq (k2 := 0) hC hi hn hl hs hcl hc hnp hst hW hd (Nat.zero_le _) (fun v M2 h => ?_)
  obtain ⟨b, rfl, hE, h2⟩ := h
  exact kf b M2 h2.1 (hS.tr (hE.sub hon))
set_option maxHeartbeats 4000000 in
set_option maxRecDepth 20000 in
theorem c_mtakeValue (hG : Gok G) (hd : 7 ≤ d) {row : List Nat} {al : List Int64} {s0 : RS} (hw0 : RdM row al s0 M) {h : Nat} (hh : h ≤ 12) (ho0 : M.1 (40, 0) 28 = nI h) : CQ G mX9_takeValue d [.ref (ga G (40, 0))] M (onMD h s0) (PHd row al h s0) vNo (rhd row al h s0) := by
  have hS0 : EqF (onMD h s0) M M := EqF.rf
  have hp0 : Pre s0 s0 := Pre.rf
  have hA0 := hw0.2.1.1
  have hL6 := hw0.2.2.2.2.2.2.1
  unfold rhd
  refine q_of hG okX9_takeValue (by decide +kernel) rfl (Nat.le_of_ble_eq_true rfl) ?_
  refine x_aload_n rfl rfl rfl ?_
  refine x_getIv (v := nI (s0.1)) hw0.1.1 rfl rfl f_9_242 rfl (by decide) rfl ?_
  refine x_istore_n rfl rfl rfl rfl ?_
  refine x_aload_n rfl rfl rfl ?_
  refine q_take (d := d) hG (by omega) hw0 hS0 (fun _ _ z => onMDA z) rfl rfl v_9_248 rfl (Nat.le_of_ble_eq_true rfl) (fun b1 s1 M1 e1 hw1 hE1 hS1 => ?_) (fun M1 e1 hf1 hS1 => ?_)
  · have hb1 := b256M hw1 e1
    have hz1 : s1.2.2 = s0.2.2 := by rw [(rByte_inr e1).1]
    have hph1 : pH s1 = pH s0 := by unfold pH; rw [hz1]
    have hphl1 : (pH s1).length = (pH s0).length := by rw [hph1]
    have hp1 := hp0.tr (Pre.of2 hz1)
    have ho1 : M1.1 (40, 0) 28 = nI h := (hE1 _ _ (by simp [onMA])).1.trans ho0
    have hW40 := hw1.2.2.2.1.1
    dsimp only
    refine x_istore_n rfl rfl rfl rfl ?_
    refine x_aload_n rfl rfl rfl ?_
    refine x_callVi (d2 := 0) (c_mgoesT hG hw1.1.2.1) rfl rfl v_9_238 rfl rfl (by decide) rfl rfl (Nat.le_of_ble_eq_true rfl) (by omega) (by omega) ?_
    refine x_if_ne rfl rfl (fun _ => ?_) (fun hc1 => absurd hc1 (by decide +kernel))
    refine x_iload_n rfl rfl rfl ?_
    by_cases hs0 : b1 = 0
    · rw [hs0]
      refine x_swIn (off := 65) (tg := 84) rfl (by decide +kernel) (by decide +kernel) rfl (by decide) ?_
      refine x_aload_n rfl rfl rfl ?_
      refine x_iload_n rfl rfl rfl ?_
      refine x_i2lN (a := 0) (by omega) rfl rfl ?_
      refine x_putL rfl rfl f_9_255 rfl rfl (by decide) rfl ?_
      refine x_goto rfl rfl ?_
      exact q_retV (b := (lN 0, none)) (s := s1) rfl (hS1.ul (by first | (unfold onMD; simp; done) | (unfold onMD; simp; intros; first | omega | (rw [hpw2]; have := hp1.W; omega)))) ⟨hw1.eqO (EqF.rf.ul (by simp [onO])), by simp [ul], hp1, by simpa [ul] using ho1, CmM.nil (by rw [hph1]; exact Nat.le_refl _)⟩ rfl rfl rfl
    by_cases hs1 : b1 = 1
    · rw [hs1]
      refine x_swIn (off := 65) (tg := 84) rfl (by decide +kernel) (by decide +kernel) rfl (by decide) ?_
      refine x_aload_n rfl rfl rfl ?_
      refine x_iload_n rfl rfl rfl ?_
      refine x_i2lN (a := 1) (by omega) rfl rfl ?_
      refine x_putL rfl rfl f_9_255 rfl rfl (by decide) rfl ?_
      refine x_goto rfl rfl ?_
      exact q_retV (b := (lN 1, none)) (s := s1) rfl (hS1.ul (by first | (unfold onMD; simp; done) | (unfold onMD; simp; intros; first | omega | (rw [hpw2]; have := hp1.W; omega)))) ⟨hw1.eqO (EqF.rf.ul (by simp [onO])), by simp [ul], hp1, by simpa [ul] using ho1, CmM.nil (by rw [hph1]; exact Nat.le_refl _)⟩ rfl rfl rfl
    by_cases hs2 : b1 = 2
    · rw [hs2]
      refine x_swIn (off := 65) (tg := 84) rfl (by decide +kernel) (by decide +kernel) rfl (by decide) ?_
      refine x_aload_n rfl rfl rfl ?_
      refine x_iload_n rfl rfl rfl ?_
      refine x_i2lN (a := 2) (by omega) rfl rfl ?_
      refine x_putL rfl rfl f_9_255 rfl rfl (by decide) rfl ?_
      refine x_goto rfl rfl ?_
      exact q_retV (b := (lN 2, none)) (s := s1) rfl (hS1.ul (by first | (unfold onMD; simp; done) | (unfold onMD; simp; intros; first | omega | (rw [hpw2]; have := hp1.W; omega)))) ⟨hw1.eqO (EqF.rf.ul (by simp [onO])), by simp [ul], hp1, by simpa [ul] using ho1, CmM.nil (by rw [hph1]; exact Nat.le_refl _)⟩ rfl rfl rfl
    by_cases hs3 : b1 = 3
    · rw [hs3]
      refine x_swIn (off := 65) (tg := 84) rfl (by decide +kernel) (by decide +kernel) rfl (by decide) ?_
      refine x_aload_n rfl rfl rfl ?_
      refine x_iload_n rfl rfl rfl ?_
      refine x_i2lN (a := 3) (by omega) rfl rfl ?_
      refine x_putL rfl rfl f_9_255 rfl rfl (by decide) rfl ?_
      refine x_goto rfl rfl ?_
      exact q_retV (b := (lN 3, none)) (s := s1) rfl (hS1.ul (by first | (unfold onMD; simp; done) | (unfold onMD; simp; intros; first | omega | (rw [hpw2]; have := hp1.W; omega)))) ⟨hw1.eqO (EqF.rf.ul (by simp [onO])), by simp [ul], hp1, by simpa [ul] using ho1, CmM.nil (by rw [hph1]; exact Nat.le_refl _)⟩ rfl rfl rfl
    by_cases hs4 : b1 = 4
    · rw [hs4]
      refine x_swIn (off := 74) (tg := 93) rfl (by decide +kernel) (by decide +kernel) rfl (by decide) ?_
      rw [show rh1 row al h s0.1 4 s1 = rb (rb (rNum row s1) fun q => .inr (vI q.1, q.2)) (fun q => .inr ((q.1, none), q.2)) from rfl, rb_assoc]
      refine x_aload_n rfl rfl rfl ?_
      refine q_call (d2 := 3) (c_mtakeNumber hG (Nat.le_refl 3) hw1) hS1 (fun _ _ z => onMDA z) rfl rfl v_9_252 rfl rfl (by decide) rfl rfl (Nat.le_of_ble_eq_true rfl) (by omega) (fun b2 s2 M2 e2 hq2 hE2 hS2 => ?_) (fun f2 b2 M2 e2 hf2 hl2 hS2 => ?_)
      · have hz2 : s2.2.2 = s1.2.2 := by rw [(rNumF_2 e2).1]
        have hn2 := rNum_lt hq2.2.2.2.2.2.2.2.1 e2
        have hw2 := hq2
        have hph2 : pH s2 = pH s1 := by unfold pH; rw [hz2]
        have hp2 := hp1.tr (Pre.of2 hz2)
        have ho2 : M2.1 (40, 0) 28 = nI h := (hE2 _ _ (by simp [onMA])).1.trans ho1
        dsimp only
        refine x_istore_n rfl rfl rfl rfl ?_
        refine x_aload_n rfl rfl rfl ?_
        refine x_ldc2 (v := 16) rfl rfl k_9_128 ?_
        refine x_iload_n rfl rfl rfl ?_
        refine x_ldcw (v := 268435456) rfl rfl k_9_259 ?_
        refine x_topI (v := nI 268435456) (by decide +kernel) ?_
        refine x_icmpN_lt (by omega) (by omega) rfl rfl (fun hc2 => ?_) (fun hc2 => ?_)
        · refine x_iload_n rfl rfl rfl ?_
          refine x_i2lN (a := b2) (by omega) rfl rfl ?_
          refine x_lmul rfl rfl ?_
          refine x_ldc2 (v := 4) rfl rfl k_9_261 ?_
          refine x_ladd rfl rfl ?_
          refine x_topL (v := vI b2) (vI_s (by omega)) ?_
          refine x_putL rfl rfl f_9_255 rfl rfl (by decide) rfl ?_
          refine x_goto rfl rfl ?_
          exact q_retV (b := (vI b2, none)) (s := s2) rfl (hS2.ul (by first | (unfold onMD; simp; done) | (unfold onMD; simp; intros; first | omega | (rw [hpw2]; have := hp1.W; omega)))) ⟨hw2.eqO (EqF.rf.ul (by simp [onO])), by simp [ul], hp2, by simpa [ul] using ho2, CmM.nil (by rw [hph2, hph1]; exact Nat.le_refl _)⟩ rfl rfl rfl
        · refine x_iload_n rfl rfl rfl ?_
          refine x_ldcw (v := 536870912) rfl rfl k_9_260 ?_
          refine x_topI (v := nI 536870912) (by decide +kernel) ?_
          refine x_isub rfl rfl ?_
          refine x_goto rfl rfl ?_
          refine x_i2l rfl rfl ?_
          refine x_lmul rfl rfl ?_
          refine x_ldc2 (v := 4) rfl rfl k_9_261 ?_
          refine x_ladd rfl rfl ?_
          refine x_topL (v := vI b2) (vI_g (by omega)) ?_
          refine x_putL rfl rfl f_9_255 rfl rfl (by decide) rfl ?_
          refine x_goto rfl rfl ?_
          exact q_retV (b := (vI b2, none)) (s := s2) rfl (hS2.ul (by first | (unfold onMD; simp; done) | (unfold onMD; simp; intros; first | omega | (rw [hpw2]; have := hp1.W; omega)))) ⟨hw2.eqO (EqF.rf.ul (by simp [onO])), by simp [ul], hp2, by simpa [ul] using ho2, CmM.nil (by rw [hph2, hph1]; exact Nat.le_refl _)⟩ rfl rfl rfl
      · refine x_istore_n rfl rfl rfl rfl ?_
        refine x_aload_n rfl rfl rfl ?_
        refine x_ldc2 (v := 16) rfl rfl k_9_128 ?_
        refine x_iload_n rfl rfl rfl ?_
        refine x_ldcw (v := 268435456) rfl rfl k_9_259 ?_
        refine x_topI (v := nI 268435456) (by decide +kernel) ?_
        refine x_icmp_lt rfl rfl (fun hc3 => ?_) (fun hc3 => ?_)
        · refine x_iload_n rfl rfl rfl ?_
          refine x_i2l rfl rfl ?_
          refine x_lmul rfl rfl ?_
          refine x_ldc2 (v := 4) rfl rfl k_9_261 ?_
          refine x_ladd rfl rfl ?_
          refine x_putL rfl rfl f_9_255 rfl rfl (by decide) rfl ?_
          refine x_goto rfl rfl ?_
          exact q_flV (0, none) (f := f2) (rfl) (hS2.ul (by first | (unfold onMD; simp; done) | (unfold onMD; simp; intros; first | omega | (rw [hpw2]; have := hp1.W; omega)))) (by first | exact hf2 | (rw [← hf2]; rfl) | simp [ui, ul, hf2]) (by omega) rfl rfl rfl
        · refine x_iload_n rfl rfl rfl ?_
          refine x_ldcw (v := 536870912) rfl rfl k_9_260 ?_
          refine x_topI (v := nI 536870912) (by decide +kernel) ?_
          refine x_isub rfl rfl ?_
          refine x_goto rfl rfl ?_
          refine x_i2l rfl rfl ?_
          refine x_lmul rfl rfl ?_
          refine x_ldc2 (v := 4) rfl rfl k_9_261 ?_
          refine x_ladd rfl rfl ?_
          refine x_putL rfl rfl f_9_255 rfl rfl (by decide) rfl ?_
          refine x_goto rfl rfl ?_
          exact q_flV (0, none) (f := f2) (rfl) (hS2.ul (by first | (unfold onMD; simp; done) | (unfold onMD; simp; intros; first | omega | (rw [hpw2]; have := hp1.W; omega)))) (by first | exact hf2 | (rw [← hf2]; rfl) | simp [ui, ul, hf2]) (by omega) rfl rfl rfl
    by_cases hs5 : b1 = 5
    · rw [hs5]
      refine x_swIn (off := 111) (tg := 130) rfl (by decide +kernel) (by decide +kernel) rfl (by decide) ?_
      refine x_aload_n rfl rfl rfl ?_
      refine x_getIv (v := nI ((pW s1).length)) hw1.2.2.1.2.2.2.2.1 rfl rfl f_9_114 rfl (by decide) rfl ?_
      refine x_bipush (v := nI 40) rfl rfl (by decide +kernel) ?_
      refine x_icmpN_ne (by omega) (by omega) rfl rfl (fun hc4 => ?_) (fun hc4 => ?_)
      · rw [show rh1 row al h s0.1 5 s1 = rb (rWide row s0.1 s1) (fun q => .inr ((q.1, none), q.2)) from rfl]
        unfold rWide
        rw [if_neg hc4, rb_assoc]
        refine x_aload_n rfl rfl rfl ?_
        refine q_call (d2 := 3) (c_mtakeEight hG (Nat.le_refl 3) hw1) hS1 (fun _ _ z => onMDA z) rfl rfl v_9_263 rfl rfl (by decide) rfl rfl (Nat.le_of_ble_eq_true rfl) (by omega) (fun b2 s2 M2 e2 hq2 hE2 hS2 => ?_) (fun f2 b2 M2 e2 hf2 hl2 hS2 => ?_)
        · have hz2 : s2.2.2 = s1.2.2 := by rw [rEightF_2 e2]
          have hpw2 : pW s2 = pW s1 := by unfold pW; rw [hz2]
          have hw2 := hq2
          have hph2 : pH s2 = pH s1 := by unfold pH; rw [hz2]
          have hp2 := hp1.tr (Pre.of2 hz2)
          have ho2 : M2.1 (40, 0) 28 = nI h := (hE2 _ _ (by simp [onMA])).1.trans ho1
          dsimp only
          refine x_lstore rfl rfl rfl rfl ?_
          refine x_aload_n rfl rfl rfl ?_
          refine x_callVi (d2 := 0) (c_mgoesT hG hw2.1.2.1) rfl rfl v_9_238 rfl rfl (by decide) rfl rfl (Nat.le_of_ble_eq_true rfl) (by omega) (by omega) ?_
          refine x_if_eq rfl rfl (fun hc5 => absurd hc5 (by decide +kernel)) (fun _ => ?_)
          refine x_aload_n rfl rfl rfl ?_
          refine x_aload_n rfl rfl rfl ?_
          refine x_lload rfl rfl rfl ?_
          refine x_callVl (d2 := 0) (c_mnewWide hG (b2) hw2.2.2.1.2.2.2.2.1 (by rw [hpw2]; omega)) rfl rfl v_9_124 rfl rfl (by decide) rfl rfl (Nat.le_of_ble_eq_true rfl) (by omega) (by omega) ?_
          refine x_putL rfl rfl f_9_255 rfl rfl (by decide) rfl ?_
          refine x_goto rfl rfl ?_
          exact q_retV (b := (16 * lN (pW s2).length + 5, none)) (s := addW b2 s2) rfl (((hS2.ul (by first | (unfold onMD; simp; done) | (unfold onMD; simp; intros; first | omega | (rw [hpw2]; have := hp1.W; omega)))).ui (by first | (unfold onMD; simp; done) | (unfold onMD; simp; intros; first | omega | (rw [hpw2]; have := hp1.W; omega)))).ul (by first | (unfold onMD; simp; done) | (unfold onMD; simp; intros; first | omega | (rw [hpw2]; have := hp1.W; omega)))) ⟨(hw2.aW (v := b2) (by rw [hpw2]; omega)).eqO (EqF.rf.ul (by simp [onO])), by simp [ul], hp2.tr pre_addW, by simpa [ul, ui] using ho2, CmM.nil (by show (pH s2).length ≤ _; rw [hph2, hph1]; exact Nat.le_refl _)⟩ rfl rfl rfl
        · refine x_lstore rfl rfl rfl rfl ?_
          refine x_aload_n rfl rfl rfl ?_
          refine x_callVi (d2 := 0) (c_mgoesF hG (f := f2) hf2 (by omega)) rfl rfl v_9_238 rfl rfl (by decide) rfl rfl (Nat.le_of_ble_eq_true rfl) (by omega) (by omega) ?_
          refine x_if_eq rfl rfl (fun _ => ?_) (fun hc6 => absurd hc6 (by decide +kernel))
          exact q_flV (0, none) (f := f2) (rfl) hS2 hf2 (by omega) rfl rfl rfl
      · refine x_aload_n rfl rfl rfl ?_
        refine x_iload_n rfl rfl rfl ?_
        refine x_callVv (d2 := 0) (c_mstopT hG (nI (s0.1)) hw1.1.2.1) rfl rfl v_9_245 rfl rfl (by decide) rfl rfl (Nat.le_of_ble_eq_true rfl) (by omega) (by omega) ?_
        refine x_aload_n rfl rfl rfl ?_
        refine q_callF (d2 := 3) (c_mtakeEightF (row := row) (al := al) hG (Nat.le_refl 3) (f := s0.1) (by first | rfl | simp [ui, ul]) (by omega)) (hS1.ui (by first | (unfold onMD; simp; done) | (unfold onMD; simp; intros; first | omega | (rw [hpw2]; have := hp1.W; omega)))) (fun _ _ z => onMDA z) rfl rfl v_9_263 rfl rfl (by decide) rfl rfl (Nat.le_of_ble_eq_true rfl) (by omega) (fun b2 M2 hf2 hS2 => ?_)
        refine x_lstore rfl rfl rfl rfl ?_
        refine x_aload_n rfl rfl rfl ?_
        refine x_callVi (d2 := 0) (c_mgoesF hG (f := s0.1) hf2 (by omega)) rfl rfl v_9_238 rfl rfl (by decide) rfl rfl (Nat.le_of_ble_eq_true rfl) (by omega) (by omega) ?_
        refine x_if_eq rfl rfl (fun _ => ?_) (fun hc7 => absurd hc7 (by decide +kernel))
        exact q_flV (0, none) (f := s0.1) (by show rb (rWide row s0.1 s1) _ = _; unfold rWide; rw [if_pos hc4]; rfl) hS2 hf2 (by omega) rfl rfl rfl
    by_cases hs6 : b1 = 6
    · rw [hs6]
      refine x_swIn (off := 151) (tg := 170) rfl (by decide +kernel) (by decide +kernel) rfl (by decide) ?_
      rw [show rh1 row al h s0.1 6 s1 = rb (rStr row s1) (fun q => .inr ((16 * q.1 + 6, none), q.2)) from rfl]
      refine x_aload_n rfl rfl rfl ?_
      refine x_ldc2 (v := 16) rfl rfl k_9_128 ?_
      refine x_aload_n rfl rfl rfl ?_
      refine q_call (d2 := 4) (c_mtakeString hG (Nat.le_refl 4) hw1) hS1 (fun _ _ z => onMDA z) rfl rfl v_9_267 rfl rfl (by decide) rfl rfl (Nat.le_of_ble_eq_true rfl) (by omega) (fun b2 s2 M2 e2 hq2 hE2 hS2 => ?_) (fun f2 b2 M2 e2 hf2 hl2 hS2 => ?_)
      · have hz2 := (rStr_2 e2).1
        have hw2 := hq2
        have hph2 : pH s2 = pH s1 := by unfold pH; rw [hz2]
        have hp2 := hp1.tr (Pre.of2 hz2)
        have ho2 : M2.1 (40, 0) 28 = nI h := (hE2 _ _ (by simp [onMA])).1.trans ho1
        dsimp only
        refine x_lmul rfl rfl ?_
        refine x_ldc2 (v := 6) rfl rfl k_9_270 ?_
        refine x_ladd rfl rfl ?_
        refine x_putL rfl rfl f_9_255 rfl rfl (by decide) rfl ?_
        refine x_goto rfl rfl ?_
        exact q_retV (b := (16 * b2 + 6, none)) (s := s2) rfl (hS2.ul (by first | (unfold onMD; simp; done) | (unfold onMD; simp; intros; first | omega | (rw [hpw2]; have := hp1.W; omega)))) ⟨hw2.eqO (EqF.rf.ul (by simp [onO])), by simp [ul], hp2, by simpa [ul] using ho2, CmM.nil (by rw [hph2, hph1]; exact Nat.le_refl _)⟩ rfl rfl rfl
      · refine x_lmul rfl rfl ?_
        refine x_ldc2 (v := 6) rfl rfl k_9_270 ?_
        refine x_ladd rfl rfl ?_
        refine x_putL rfl rfl f_9_255 rfl rfl (by decide) rfl ?_
        refine x_goto rfl rfl ?_
        exact q_flV (0, none) (f := f2) (rfl) (hS2.ul (by first | (unfold onMD; simp; done) | (unfold onMD; simp; intros; first | omega | (rw [hpw2]; have := hp1.W; omega)))) (by first | exact hf2 | (rw [← hf2]; rfl) | simp [ui, ul, hf2]) (by omega) rfl rfl rfl
    by_cases hs7 : b1 = 7
    · rw [hs7]
      refine x_swIn (off := 179) (tg := 198) rfl (by decide +kernel) (by decide +kernel) rfl (by decide) ?_
      refine x_aload_n rfl rfl rfl ?_
      refine x_iload_n rfl rfl rfl ?_
      refine x_callVv (d2 := 0) (c_mstopT hG (nI (s0.1)) hw1.1.2.1) rfl rfl v_9_245 rfl rfl (by decide) rfl rfl (Nat.le_of_ble_eq_true rfl) (by omega) (by omega) ?_
      exact q_flV (0, none) (f := s0.1) (rh1_x (by decide) (by decide) (by decide) (by decide) (by decide)) (hS1.ui (by first | (unfold onMD; simp; done) | (unfold onMD; simp; intros; first | omega | (rw [hpw2]; have := hp1.W; omega)))) (by first | rfl | simp [ui, ul]) (by omega) rfl rfl rfl
    by_cases hs8 : b1 = 8
    · rw [hs8]
      refine x_swIn (off := 170) (tg := 189) rfl (by decide +kernel) (by decide +kernel) rfl (by decide) ?_
      rw [show rh1 row al h s0.1 8 s1 = rb (rb (rNum row s1) fun q => rhT row al h 8 s0.1 s1.1 q.1 q.2) (fun q => .inr q) from (rb_inr _).symm]
      refine x_aload_n rfl rfl rfl ?_
      refine x_iload_n rfl rfl rfl ?_
      refine x_iload_n rfl rfl rfl ?_
      refine q_call (d2 := 6) (((c_mtakeThing_8 (kp := s0.1) hG (Nat.le_refl 6) hw1 hh ho1 (by omega)).onn (on := onMD h s0) (fun _ _ z => onMD_pre hp1 (Nat.le_refl h) z)).weak (Ps := PHd row al h s0) (fun b s2 M2 _ _ z => z.pre hp1 hphl1)) hS1 (fun _ _ z => z) rfl rfl v_9_272 rfl rfl (by decide) rfl rfl (Nat.le_of_ble_eq_true rfl) (by omega) (fun b2 s2 M2 e2 hq2 hE2 hS2 => ?_) (fun f2 b2 M2 e2 hf2 hl2 hS2 => ?_)
      · refine x_goto rfl rfl ?_
        exact q_retV rfl hS2 hq2 rfl rfl rfl
      · refine x_goto rfl rfl ?_
        exact q_flV (0, none) (f := f2) (rfl) hS2 hf2 (by omega) rfl rfl rfl
    by_cases hs9 : b1 = 9
    · rw [hs9]
      refine x_swIn (off := 170) (tg := 189) rfl (by decide +kernel) (by decide +kernel) rfl (by decide) ?_
      rw [show rh1 row al h s0.1 9 s1 = rb (rb (rNum row s1) fun q => rhT row al h 9 s0.1 s1.1 q.1 q.2) (fun q => .inr q) from (rb_inr _).symm]
      refine x_aload_n rfl rfl rfl ?_
      refine x_iload_n rfl rfl rfl ?_
      refine x_iload_n rfl rfl rfl ?_
      refine q_call (d2 := 6) (((c_mtakeThing_9 (kp := s0.1) hG (Nat.le_refl 6) hw1 hh ho1 (by omega)).onn (on := onMD h s0) (fun _ _ z => onMD_pre hp1 (Nat.le_refl h) z)).weak (Ps := PHd row al h s0) (fun b s2 M2 _ _ z => z.pre hp1 hphl1)) hS1 (fun _ _ z => z) rfl rfl v_9_272 rfl rfl (by decide) rfl rfl (Nat.le_of_ble_eq_true rfl) (by omega) (fun b2 s2 M2 e2 hq2 hE2 hS2 => ?_) (fun f2 b2 M2 e2 hf2 hl2 hS2 => ?_)
      · refine x_goto rfl rfl ?_
        exact q_retV rfl hS2 hq2 rfl rfl rfl
      · refine x_goto rfl rfl ?_
        exact q_flV (0, none) (f := f2) (rfl) hS2 hf2 (by omega) rfl rfl rfl
    by_cases hs10 : b1 = 10
    · rw [hs10]
      refine x_swIn (off := 170) (tg := 189) rfl (by decide +kernel) (by decide +kernel) rfl (by decide) ?_
      rw [show rh1 row al h s0.1 10 s1 = rb (rb (rNum row s1) fun q => rhT row al h 10 s0.1 s1.1 q.1 q.2) (fun q => .inr q) from (rb_inr _).symm]
      refine x_aload_n rfl rfl rfl ?_
      refine x_iload_n rfl rfl rfl ?_
      refine x_iload_n rfl rfl rfl ?_
      refine q_call (d2 := 6) (((c_mtakeThing_10 (kp := s0.1) hG (Nat.le_refl 6) hw1 hh ho1 (by omega)).onn (on := onMD h s0) (fun _ _ z => onMD_pre hp1 (Nat.le_refl h) z)).weak (Ps := PHd row al h s0) (fun b s2 M2 _ _ z => z.pre hp1 hphl1)) hS1 (fun _ _ z => z) rfl rfl v_9_272 rfl rfl (by decide) rfl rfl (Nat.le_of_ble_eq_true rfl) (by omega) (fun b2 s2 M2 e2 hq2 hE2 hS2 => ?_) (fun f2 b2 M2 e2 hf2 hl2 hS2 => ?_)
      · refine x_goto rfl rfl ?_
        exact q_retV rfl hS2 hq2 rfl rfl rfl
      · refine x_goto rfl rfl ?_
        exact q_flV (0, none) (f := f2) (rfl) hS2 hf2 (by omega) rfl rfl rfl
    by_cases hs11 : b1 = 11
    · rw [hs11]
      refine x_swIn (off := 179) (tg := 198) rfl (by decide +kernel) (by decide +kernel) rfl (by decide) ?_
      refine x_aload_n rfl rfl rfl ?_
      refine x_iload_n rfl rfl rfl ?_
      refine x_callVv (d2 := 0) (c_mstopT hG (nI (s0.1)) hw1.1.2.1) rfl rfl v_9_245 rfl rfl (by decide) rfl rfl (Nat.le_of_ble_eq_true rfl) (by omega) (by omega) ?_
      exact q_flV (0, none) (f := s0.1) (rh1_x (by decide) (by decide) (by decide) (by decide) (by decide)) (hS1.ui (by first | (unfold onMD; simp; done) | (unfold onMD; simp; intros; first | omega | (rw [hpw2]; have := hp1.W; omega)))) (by first | rfl | simp [ui, ul]) (by omega) rfl rfl rfl
    by_cases hs12 : b1 = 12
    · rw [hs12]
      refine x_swIn (off := 170) (tg := 189) rfl (by decide +kernel) (by decide +kernel) rfl (by decide) ?_
      rw [show rh1 row al h s0.1 12 s1 = rb (rb (rNum row s1) fun q => rhT row al h 12 s0.1 s1.1 q.1 q.2) (fun q => .inr q) from (rb_inr _).symm]
      refine x_aload_n rfl rfl rfl ?_
      refine x_iload_n rfl rfl rfl ?_
      refine x_iload_n rfl rfl rfl ?_
      refine q_call (d2 := 6) (((c_mtakeThing_12 (kp := s0.1) hG (Nat.le_refl 6) hw1 hh ho1 (by omega)).onn (on := onMD h s0) (fun _ _ z => onMD_pre hp1 (Nat.le_refl h) z)).weak (Ps := PHd row al h s0) (fun b s2 M2 _ _ z => z.pre hp1 hphl1)) hS1 (fun _ _ z => z) rfl rfl v_9_272 rfl rfl (by decide) rfl rfl (Nat.le_of_ble_eq_true rfl) (by omega) (fun b2 s2 M2 e2 hq2 hE2 hS2 => ?_) (fun f2 b2 M2 e2 hf2 hl2 hS2 => ?_)
      · refine x_goto rfl rfl ?_
        exact q_retV rfl hS2 hq2 rfl rfl rfl
      · refine x_goto rfl rfl ?_
        exact q_flV (0, none) (f := f2) (rfl) hS2 hf2 (by omega) rfl rfl rfl
    refine x_swOut (tg := 198) rfl (by rw [nI_toInt (by omega)]; omega) (by decide) ?_
    refine x_aload_n rfl rfl rfl ?_
    refine x_iload_n rfl rfl rfl ?_
    refine x_callVv (d2 := 0) (c_mstopT hG (nI (s0.1)) hw1.1.2.1) rfl rfl v_9_245 rfl rfl (by decide) rfl rfl (Nat.le_of_ble_eq_true rfl) (by omega) (by omega) ?_
    exact q_flV (0, none) (f := s0.1) (rh1_x (by omega) (by omega) (by omega) (by omega) (by omega)) (hS1.ui (by first | (unfold onMD; simp; done) | (unfold onMD; simp; intros; first | omega | (rw [hpw2]; have := hp1.W; omega)))) (by first | rfl | simp [ui, ul]) (by omega) rfl rfl rfl
  · refine x_istore_n rfl rfl rfl rfl ?_
    refine x_aload_n rfl rfl rfl ?_
    refine x_callVi (d2 := 0) (c_mgoesF hG (f := row.length) hf1 (by omega)) rfl rfl v_9_238 rfl rfl (by decide) rfl rfl (Nat.le_of_ble_eq_true rfl) (by omega) (by omega) ?_
    refine x_if_ne rfl rfl (fun hc8 => absurd hc8 (by decide +kernel)) (fun _ => ?_)
    exact q_flV (0, none) (f := row.length) (rfl) hS1 hf1 (by omega) rfl rfl rfl
set_option maxHeartbeats 4000000 in
set_option maxRecDepth 20000 in
theorem c_mgiveI (hG : Gok G) {h i a : Nat} {v : Int64} (hh : h < 12) (hi : i < 40) (ha : a < 8) (h1 : M.1 (59, 0) h = nI i) (h2 : M.1 (60, 0) h = nI (a + 1)) (h3 : M.2 (40, 0) 38 = v) : Ct G mX9_give d [.ref (ga G (40, 0)), .int (nI h), .int (nI 1)] M (.inl none) (ul M (50, 0) (8 * i + a) v) 0 := by
  refine ct_of hG okX9_give (by decide +kernel) rfl (Nat.le_of_ble_eq_true rfl) ?_
  refine x_aload_n rfl rfl rfl ?_
  refine x_getR0 rfl rfl f_9_66 rfl (by decide) rfl rfl ?_
  refine x_iload_n rfl rfl rfl ?_
  refine x_ialdv (a := h) (v := nI i) h1 rfl rfl rfl (by decide) (by omega) (by decide) ?_
  refine x_istore_n rfl rfl rfl rfl ?_
  refine x_iload_n rfl rfl rfl ?_
  refine x_if_eq rfl rfl (fun hc1 => absurd hc1 (by decide +kernel)) (fun _ => ?_)
  refine x_aload_n rfl rfl rfl ?_
  refine x_getR0 rfl rfl f_9_39 rfl (by decide) rfl rfl ?_
  refine x_bipush (v := nI 8) rfl rfl (by decide +kernel) ?_
  refine x_iload_n rfl rfl rfl ?_
  refine x_imulN (a := 8) (b := i) rfl rfl ?_
  refine x_aload_n rfl rfl rfl ?_
  refine x_getR0 rfl rfl f_9_69 rfl (by decide) rfl rfl ?_
  refine x_iload_n rfl rfl rfl ?_
  refine x_ialdv (a := h) (v := nI (a + 1)) h2 rfl rfl rfl (by decide) (by omega) (by decide) ?_
  refine x_iaddN (a := 8 * i) (b := a + 1) rfl rfl ?_
  refine x_iconstN (b := 1) rfl rfl ?_
  refine x_isubN (a := (8 * i) + (a + 1)) (b := 1) (by omega) rfl rfl ?_
  refine x_topI (v := nI (8 * i + a)) (congrArg nI (by omega)) ?_
  refine x_aload_n rfl rfl rfl ?_
  refine x_getLv (v := v) h3 rfl rfl f_9_255 rfl (by decide) rfl ?_
  refine x_last (a := 8 * i + a) rfl rfl rfl (by decide) (by omega) (by decide) ?_
  refine x_goto rfl rfl ?_
  exact x_retV rfl rfl rfl (by omega) rfl rfl
set_option maxHeartbeats 4000000 in
set_option maxRecDepth 20000 in
theorem c_mgiveP (hG : Gok G) {h i b : Nat} {v : Int64} (hh : h < 12) (hi : i < 40) (hb : b < 6) (h1 : M.1 (59, 0) h = nI i) (h2 : M.1 (61, 0) h = nI (b + 1)) (h3 : M.2 (40, 0) 38 = v) : Ct G mX9_give d [.ref (ga G (40, 0)), .int (nI h), .int (nI 0)] M (.inl none) (ul M (53, 0) (6 * i + b) v) 0 := by
  refine ct_of hG okX9_give (by decide +kernel) rfl (Nat.le_of_ble_eq_true rfl) ?_
  refine x_aload_n rfl rfl rfl ?_
  refine x_getR0 rfl rfl f_9_66 rfl (by decide) rfl rfl ?_
  refine x_iload_n rfl rfl rfl ?_
  refine x_ialdv (a := h) (v := nI i) h1 rfl rfl rfl (by decide) (by omega) (by decide) ?_
  refine x_istore_n rfl rfl rfl rfl ?_
  refine x_iload_n rfl rfl rfl ?_
  refine x_if_eq rfl rfl (fun _ => ?_) (fun hc1 => absurd hc1 (by decide +kernel))
  refine x_aload_n rfl rfl rfl ?_
  refine x_getR0 rfl rfl f_9_48 rfl (by decide) rfl rfl ?_
  refine x_bipush (v := nI 6) rfl rfl (by decide +kernel) ?_
  refine x_iload_n rfl rfl rfl ?_
  refine x_imulN (a := 6) (b := i) rfl rfl ?_
  refine x_aload_n rfl rfl rfl ?_
  refine x_getR0 rfl rfl f_9_72 rfl (by decide) rfl rfl ?_
  refine x_iload_n rfl rfl rfl ?_
  refine x_ialdv (a := h) (v := nI (b + 1)) h2 rfl rfl rfl (by decide) (by omega) (by decide) ?_
  refine x_iaddN (a := 6 * i) (b := b + 1) rfl rfl ?_
  refine x_iconstN (b := 1) rfl rfl ?_
  refine x_isubN (a := (6 * i) + (b + 1)) (b := 1) (by omega) rfl rfl ?_
  refine x_topI (v := nI (6 * i + b)) (congrArg nI (by omega)) ?_
  refine x_aload_n rfl rfl rfl ?_
  refine x_getLv (v := v) h3 rfl rfl f_9_255 rfl (by decide) rfl ?_
  refine x_last (a := 6 * i + b) rfl rfl rfl (by decide) (by omega) (by decide) ?_
  exact x_retV rfl rfl rfl (by omega) rfl rfl
end N4
