def sh4 (v : Int64) : Int64 := v >>> ((nI 4).toInt64 &&& 63)
theorem l2i_small {x : Int64} (h : uN x < 2147483648) : x.toInt32 = nI (uN x) := by
  have h1 : x = lN (uN x) := (lN_uN x).symm
  rw [h1, uN_lN (by omega)]
  exact lN_i (uN x)
theorem kd_eq (v : Int64) : (v &&& 15).toInt32 = nI (uN v % 16) := by
  rw [l2i_small (by rw [uN_15]; omega), uN_15]
/-- a value, where there are w wide numbers and n things -/
def isV (w n : Nat) (v : Int64) : Prop :=
  (uN v % 16 = 4 ∧ ¬ sh4 v < -268435456 ∧ sh4 v < 268435456) ∨ (uN v % 16 = 5 ∧ ¬ sh4 v < 0 ∧ sh4 v < lN w) ∨ (uN v % 16 = 6 ∧ isTx (sh4 v)) ∨ (uN v % 16 = 7 ∧ ¬ sh4 v < 0 ∧ sh4 v < lN n) ∨ (uN v % 16 ≤ 3 ∧ sh4 v = 0)
theorem isV_4 {w n : Nat} {v : Int64} (h : uN v % 16 = 4) : isV w n v ↔ (¬ sh4 v < -268435456 ∧ sh4 v < 268435456) := by unfold isV; rw [h]; simp
theorem isV_5 {w n : Nat} {v : Int64} (h : uN v % 16 = 5) : isV w n v ↔ (¬ sh4 v < 0 ∧ sh4 v < lN w) := by unfold isV; rw [h]; simp
theorem isV_6 {w n : Nat} {v : Int64} (h : uN v % 16 = 6) : isV w n v ↔ isTx (sh4 v) := by unfold isV; rw [h]; simp
theorem isV_7 {w n : Nat} {v : Int64} (h : uN v % 16 = 7) : isV w n v ↔ (¬ sh4 v < 0 ∧ sh4 v < lN n) := by unfold isV; rw [h]; simp
theorem isV_O {w n : Nat} {v : Int64} (h4 : ¬ uN v % 16 = 4) (h5 : ¬ uN v % 16 = 5) (h6 : ¬ uN v % 16 = 6) (h7 : ¬ uN v % 16 = 7) : isV w n v ↔ (uN v % 16 ≤ 3 ∧ sh4 v = 0) := by unfold isV; simp [h4, h5, h6, h7]
section C4
variable {G : Gd} {d : Nat} {M : Mm}
set_option maxHeartbeats 4000000 in
set_option maxRecDepth 20000 in
theorem c_isValue (hG : Gok G) (hd : 1 ≤ d) (v : Int64) {n w : Nat} (hn : M.1 (1, 0) 5 = nI n) (hn2 : n ≤ 40) (hw : M.1 (1, 0) 3 = nI w) (hw2 : w ≤ 40) : Ct G mX4_isValue d [.ref (ga G (1, 0)), .long (v)] M (.inl (some (.int (bI (isV w n v))))) M 0 := by
  refine ct_of hG okX4_isValue (by decide +kernel) rfl (Nat.le_of_ble_eq_true rfl) ?_
  refine x_lload_n rfl rfl rfl ?_
  refine x_callSi (d2 := 0) (c_kindOf hG (v)) rfl rfl s_4_39 rfl rfl (Nat.le_of_ble_eq_true rfl) (by omega) (by omega) ?_
  refine x_topI (v := nI (uN v % 16)) (kd_eq _) ?_
  refine x_istore_n rfl rfl rfl rfl ?_
  refine x_lload_n rfl rfl rfl ?_
  refine x_callSl (d2 := 0) (c_aboveKind hG (v)) rfl rfl s_4_43 rfl rfl (Nat.le_of_ble_eq_true rfl) (by omega) (by omega) ?_
  refine x_topL (v := sh4 v) rfl ?_
  refine x_lstore rfl rfl rfl rfl ?_
  refine x_iload_n rfl rfl rfl ?_
  by_cases hs4 : uN v % 16 = 4
  · rw [hs4]
    refine x_swIn (off := 32) (tg := 44) rfl (by decide +kernel) (by decide +kernel) rfl (by decide) ?_
    refine x_lload rfl rfl rfl ?_
    refine x_ldc2 (v := -268435456) rfl rfl k_4_47 ?_
    refine x_lc_lt rfl rfl rfl rfl (fun hc1 => ?_) (fun hc1 => ?_)
    · refine x_iconstN (b := 0) rfl rfl ?_
      (rw [bI_iff (isV_4 hs4)]; exact x_retZ rfl rfl rfl (by first | exact Or.inl rfl | exact Or.inr rfl) (by omega) (oB_f (fun z => z.1 hc1)) rfl)
    · refine x_lload rfl rfl rfl ?_
      refine x_ldc2 (v := 268435456) rfl rfl k_4_49 ?_
      refine x_lc_ge rfl rfl rfl rfl (fun hc2 => ?_) (fun hc2 => ?_)
      · refine x_iconstN (b := 0) rfl rfl ?_
        (rw [bI_iff (isV_4 hs4)]; exact x_retZ rfl rfl rfl (by first | exact Or.inl rfl | exact Or.inr rfl) (by omega) (oB_f (fun z => hc2 z.2)) rfl)
      · refine x_iconstN (b := 1) rfl rfl ?_
        refine x_goto rfl rfl ?_
        (rw [bI_iff (isV_4 hs4)]; exact x_retZ rfl rfl rfl (by first | exact Or.inl rfl | exact Or.inr rfl) (by omega) (oB_t ⟨hc1, hc2⟩) rfl)
  by_cases hs5 : uN v % 16 = 5
  · rw [hs5]
    refine x_swIn (off := 56) (tg := 68) rfl (by decide +kernel) (by decide +kernel) rfl (by decide) ?_
    refine x_lload rfl rfl rfl ?_
    refine x_lconst (v := 0) rfl rfl (by decide +kernel) ?_
    refine x_lc_lt rfl rfl rfl rfl (fun hc3 => ?_) (fun hc3 => ?_)
    · refine x_iconstN (b := 0) rfl rfl ?_
      (rw [bI_iff (isV_5 hs5)]; exact x_retZ rfl rfl rfl (by first | exact Or.inl rfl | exact Or.inr rfl) (by omega) (oB_f (fun z => z.1 hc3)) rfl)
    · refine x_lload rfl rfl rfl ?_
      refine x_aload_n rfl rfl rfl ?_
      refine x_getIv (v := nI w) hw rfl rfl f_4_29 rfl (by decide) rfl ?_
      refine x_i2lN (a := w) (by omega) rfl rfl ?_
      refine x_lc_ge rfl rfl rfl rfl (fun hc4 => ?_) (fun hc4 => ?_)
      · refine x_iconstN (b := 0) rfl rfl ?_
        (rw [bI_iff (isV_5 hs5)]; exact x_retZ rfl rfl rfl (by first | exact Or.inl rfl | exact Or.inr rfl) (by omega) (oB_f (fun z => hc4 z.2)) rfl)
      · refine x_iconstN (b := 1) rfl rfl ?_
        refine x_goto rfl rfl ?_
        (rw [bI_iff (isV_5 hs5)]; exact x_retZ rfl rfl rfl (by first | exact Or.inl rfl | exact Or.inr rfl) (by omega) (oB_t ⟨hc3, hc4⟩) rfl)
  by_cases hs6 : uN v % 16 = 6
  · rw [hs6]
    refine x_swIn (off := 80) (tg := 92) rfl (by decide +kernel) (by decide +kernel) rfl (by decide) ?_
    refine x_lload rfl rfl rfl ?_
    refine x_callSi (d2 := 0) (c_isText hG (sh4 v)) rfl rfl s_4_51 rfl rfl (Nat.le_of_ble_eq_true rfl) (by omega) (by omega) ?_
    (rw [bI_iff (isV_6 hs6)]; exact x_retZ rfl rfl rfl (bI_01 _) (by omega) rfl rfl)
  by_cases hs7 : uN v % 16 = 7
  · rw [hs7]
    refine x_swIn (off := 86) (tg := 98) rfl (by decide +kernel) (by decide +kernel) rfl (by decide) ?_
    refine x_aload_n rfl rfl rfl ?_
    refine x_lload rfl rfl rfl ?_
    refine x_callVi (d2 := 0) (c_isThing hG (sh4 v) hn hn2) rfl rfl v_4_55 rfl rfl (by decide) rfl rfl (Nat.le_of_ble_eq_true rfl) (by omega) (by omega) ?_
    (rw [bI_iff (isV_7 hs7)]; exact x_retZ rfl rfl rfl (bI_01 _) (by omega) rfl rfl)
  refine x_swOut (tg := 105) rfl (by rw [nI_toInt (by omega)]; omega) (by decide) ?_
  refine x_iload_n rfl rfl rfl ?_
  refine x_iconstN (b := 3) rfl rfl ?_
  refine x_icmpN_gt (by omega) (by omega) rfl rfl (fun hc5 => ?_) (fun hc5 => ?_)
  · refine x_iconstN (b := 0) rfl rfl ?_
    (rw [bI_iff (isV_O hs4 hs5 hs6 hs7)]; exact x_retZ rfl rfl rfl (by first | exact Or.inl rfl | exact Or.inr rfl) (by omega) (oB_f (fun z => by omega)) rfl)
  · refine x_lload rfl rfl rfl ?_
    refine x_lconst (v := 0) rfl rfl (by decide +kernel) ?_
    refine x_lc_ne rfl rfl rfl rfl (fun hc6 => ?_) (fun hc6 => ?_)
    · refine x_iconstN (b := 0) rfl rfl ?_
      (rw [bI_iff (isV_O hs4 hs5 hs6 hs7)]; exact x_retZ rfl rfl rfl (by first | exact Or.inl rfl | exact Or.inr rfl) (by omega) (oB_f (fun z => hc6 z.2)) rfl)
    · refine x_iconstN (b := 1) rfl rfl ?_
      refine x_goto rfl rfl ?_
      (rw [bI_iff (isV_O hs4 hs5 hs6 hs7)]; exact x_retZ rfl rfl rfl (by first | exact Or.inl rfl | exact Or.inr rfl) (by omega) (oB_t ⟨by omega, hc6⟩) rfl)
set_option maxHeartbeats 4000000 in
set_option maxRecDepth 20000 in
theorem c_refuse0 (hG : Gok G) {n : Nat} (hn : M.1 (1, 0) 5 = nI n) (hn2 : n < 40) : Ct G mX8_refuseFortyFirst d [.ref (ga G (0, 0))] M (.inl none) M 0 := by
  refine ct_of hG okX8_refuseFortyFirst (by decide +kernel) rfl (Nat.le_of_ble_eq_true rfl) ?_
  refine x_aload_n rfl rfl rfl ?_
  refine x_getR0 rfl rfl f_8_20 rfl (by decide) rfl rfl ?_
  refine x_getIv (v := nI n) hn rfl rfl f_8_207 rfl (by decide) rfl ?_
  refine x_bipush (v := nI 40) rfl rfl (by decide +kernel) ?_
  refine x_icmpN_ne (by omega) (by omega) rfl rfl (fun hc1 => ?_) (fun hc1 => absurd hc1 (by omega))
  exact x_retV rfl rfl rfl (by omega) rfl rfl
set_option maxHeartbeats 4000000 in
set_option maxRecDepth 20000 in
theorem c_refuse1 (hG : Gok G) (hd : 6 ≤ d) (hn : M.1 (1, 0) 5 = nI 40) : Ct G mX8_refuseFortyFirst d [.ref (ga G (0, 0))] M (.inr "java/lang/IllegalStateException") M 1 := by
  refine ct_of hG okX8_refuseFortyFirst (by decide +kernel) rfl (Nat.le_of_ble_eq_true rfl) ?_
  refine x_aload_n rfl rfl rfl ?_
  refine x_getR0 rfl rfl f_8_20 rfl (by decide) rfl rfl ?_
  refine x_getIv (v := nI 40) hn rfl rfl f_8_207 rfl (by decide) rfl ?_
  refine x_bipush (v := nI 40) rfl rfl (by decide +kernel) ?_
  refine x_icmpN_ne (by omega) (by omega) rfl rfl (fun hc1 => absurd rfl hc1) (fun hc1 => ?_)
  exact x_throw rfl rfl rfl rfl rfl rfl rfl rfl th_8_61_63 (Nat.le_of_ble_eq_true rfl) (by omega) (by omega)
set_option maxHeartbeats 4000000 in
set_option maxRecDepth 20000 in
theorem c_makeThing (hG : Gok G) (hd : 2 ≤ d) (kd : Int32) {n : Nat} (hn : M.1 (1, 0) 5 = nI n) (hn2 : n < 40) : Ct G mX4_makeThing d [.ref (ga G (1, 0)), .int (kd)] M (.inl (some (.int (nI n)))) (ui (ui (ui (ui (ul (ui (ui M (8, n) 3 (kd)) (8, n) 4 (-1)) (8, n) 5 0) (9, n) 1 (nI 0)) (11, n) 1 (nI 0)) (13, n) 1 (nI 0)) (1, 0) 5 (nI (n + 1))) 0 := by
  refine ct_of hG okX4_makeThing (by decide +kernel) rfl (Nat.le_of_ble_eq_true rfl) ?_
  refine x_aload_n rfl rfl rfl ?_
  refine x_getR0 rfl rfl f_4_23 rfl (by decide) rfl rfl ?_
  refine x_aload_n rfl rfl rfl ?_
  refine x_getIv (v := nI n) hn rfl rfl f_4_36 rfl (by decide) rfl ?_
  refine x_aaldi (a := n) rfl rfl rfl (by decide) (by decide) (by omega) (by decide) rfl ?_
  refine x_iload_n rfl rfl rfl ?_
  refine x_callVv (d2 := 1) (c_Th_become hG (Nat.le_refl 1) (by omega) (kd)) rfl rfl v_4_58 rfl rfl (by show _ < 40; omega) rfl rfl (Nat.le_of_ble_eq_true rfl) (by omega) (by omega) ?_
  refine x_aload_n rfl rfl rfl ?_
  refine x_dup rfl rfl rfl ?_
  refine x_getIv (v := nI n) (by first | exact hn | (rw [← hn]; rfl) | simp [ui, ul, hn]) rfl rfl f_4_36 rfl (by decide) rfl ?_
  refine x_iconstN (b := 1) rfl rfl ?_
  refine x_iaddN (a := n) (b := 1) rfl rfl ?_
  refine x_putI rfl rfl f_4_36 rfl rfl (by decide) rfl ?_
  refine x_aload_n rfl rfl rfl ?_
  refine x_getIv (v := nI (n + 1)) (by first | rfl | simp [ui, ul]) rfl rfl f_4_36 rfl (by decide) rfl ?_
  refine x_iconstN (b := 1) rfl rfl ?_
  refine x_isubN (a := n + 1) (b := 1) (by omega) rfl rfl ?_
  exact x_retI rfl rfl rfl (by omega) rfl rfl
set_option maxHeartbeats 4000000 in
set_option maxRecDepth 20000 in
theorem c_giveTraits0 (hG : Gok G) (hd : 1 ≤ d) {i t : Nat} (hi : i < 40) (ht : t < 13) (h0 : M.1 (9, i) 1 = nI 0) (hm : M.1 (6, t) 1 = nI 0) : Ct G mX4_giveTraits d [.ref (ga G (1, 0)), .ref (ga G (8, i)), .int (nI t)] M (.inl none) (ui M (8, i) 4 (nI t)) 0 := by
  refine ct_of hG okX4_giveTraits (by decide +kernel) rfl (Nat.le_of_ble_eq_true rfl) ?_
  refine x_aload_n rfl rfl rfl ?_
  refine x_iload_n rfl rfl rfl ?_
  refine x_putI rfl rfl f_4_62 rfl rfl (by show _ < 40; omega) rfl ?_
  refine x_iconstN (b := 0) rfl rfl ?_
  refine x_istore_n rfl rfl rfl rfl ?_
  refine x_iload_n rfl rfl rfl ?_
  refine x_aload_n rfl rfl rfl ?_
  refine x_getR0 rfl rfl f_4_17 rfl (by decide) rfl rfl ?_
  refine x_iload_n rfl rfl rfl ?_
  refine x_aaldi (a := t) rfl rfl rfl (by decide) (by decide) (by omega) (by decide) rfl ?_
  refine x_getRi rfl rfl f_4_64 rfl (by show _ < 13; omega) rfl rfl ?_
  refine x_getIv (v := nI 0) (by first | exact hm | (rw [← hm]; rfl) | simp [ui, ul, hm]) rfl rfl f_4_68 rfl (by show _ < 13; omega) rfl ?_
  refine x_icmpN_ge (by omega) (by omega) rfl rfl (fun hc1 => ?_) (fun hc1 => absurd hc1 (by omega))
  exact x_retV rfl rfl rfl (by omega) rfl rfl
set_option maxHeartbeats 4000000 in
set_option maxRecDepth 20000 in
theorem c_giveTraits1 (hG : Gok G) (hd : 1 ≤ d) {i t : Nat} (hi : i < 40) (ht : t < 13) (h0 : M.1 (9, i) 1 = nI 0) (hm : M.1 (6, t) 1 = nI 1) : Ct G mX4_giveTraits d [.ref (ga G (1, 0)), .ref (ga G (8, i)), .int (nI t)] M (.inl none) (ui (ul (ui M (8, i) 4 (nI t)) (10, i) 0 0) (9, i) 1 (nI 1)) 0 := by
  refine ct_of hG okX4_giveTraits (by decide +kernel) rfl (Nat.le_of_ble_eq_true rfl) ?_
  refine x_aload_n rfl rfl rfl ?_
  refine x_iload_n rfl rfl rfl ?_
  refine x_putI rfl rfl f_4_62 rfl rfl (by show _ < 40; omega) rfl ?_
  refine x_iconstN (b := 0) rfl rfl ?_
  refine x_istore_n rfl rfl rfl rfl ?_
  refine x_iload_n rfl rfl rfl ?_
  refine x_aload_n rfl rfl rfl ?_
  refine x_getR0 rfl rfl f_4_17 rfl (by decide) rfl rfl ?_
  refine x_iload_n rfl rfl rfl ?_
  refine x_aaldi (a := t) rfl rfl rfl (by decide) (by decide) (by omega) (by decide) rfl ?_
  refine x_getRi rfl rfl f_4_64 rfl (by show _ < 13; omega) rfl rfl ?_
  refine x_getIv (v := nI 1) (by first | exact hm | (rw [← hm]; rfl) | simp [ui, ul, hm]) rfl rfl f_4_68 rfl (by show _ < 13; omega) rfl ?_
  refine x_icmpN_ge (by omega) (by omega) rfl rfl (fun hc1 => absurd hc1 (by omega)) (fun hc1 => ?_)
  refine x_aload_n rfl rfl rfl ?_
  refine x_getRi rfl rfl f_4_73 rfl (by show _ < 40; omega) rfl rfl ?_
  refine x_lconst (v := 0) rfl rfl (by decide +kernel) ?_
  refine x_callVv (d2 := 0) (c_LL_add (len := 0) hG (lk_9 (by omega)) (0) (by first | exact h0 | (rw [← h0]; rfl) | simp [ui, ul, h0]) (by omega)) rfl rfl v_4_76 rfl rfl (by show _ < 40; omega) rfl rfl (Nat.le_of_ble_eq_true rfl) (by omega) (by omega) ?_
  refine x_iincN (a := 0) (b := 1) rfl rfl rfl rfl rfl ?_
  refine x_goto rfl rfl ?_
  refine x_iload_n rfl rfl rfl ?_
  refine x_aload_n rfl rfl rfl ?_
  refine x_getR0 rfl rfl f_4_17 rfl (by decide) rfl rfl ?_
  refine x_iload_n rfl rfl rfl ?_
  refine x_aaldi (a := t) rfl rfl rfl (by decide) (by decide) (by omega) (by decide) rfl ?_
  refine x_getRi rfl rfl f_4_64 rfl (by show _ < 13; omega) rfl rfl ?_
  refine x_getIv (v := nI 1) (by first | exact hm | (rw [← hm]; rfl) | simp [ui, ul, hm]) rfl rfl f_4_68 rfl (by show _ < 13; omega) rfl ?_
  refine x_icmpN_ge (by omega) (by omega) rfl rfl (fun hc2 => ?_) (fun hc2 => absurd hc2 (by omega))
  exact x_retV rfl rfl rfl (by omega) rfl rfl
set_option maxHeartbeats 4000000 in
set_option maxRecDepth 20000 in
theorem c_giveTraits2 (hG : Gok G) (hd : 1 ≤ d) {i t : Nat} (hi : i < 40) (ht : t < 13) (h0 : M.1 (9, i) 1 = nI 0) (hm : M.1 (6, t) 1 = nI 2) : Ct G mX4_giveTraits d [.ref (ga G (1, 0)), .ref (ga G (8, i)), .int (nI t)] M (.inl none) (ui (ul (ui (ul (ui M (8, i) 4 (nI t)) (10, i) 0 0) (9, i) 1 (nI 1)) (10, i) 1 0) (9, i) 1 (nI 2)) 0 := by
  refine ct_of hG okX4_giveTraits (by decide +kernel) rfl (Nat.le_of_ble_eq_true rfl) ?_
  refine x_aload_n rfl rfl rfl ?_
  refine x_iload_n rfl rfl rfl ?_
  refine x_putI rfl rfl f_4_62 rfl rfl (by show _ < 40; omega) rfl ?_
  refine x_iconstN (b := 0) rfl rfl ?_
  refine x_istore_n rfl rfl rfl rfl ?_
  refine x_iload_n rfl rfl rfl ?_
  refine x_aload_n rfl rfl rfl ?_
  refine x_getR0 rfl rfl f_4_17 rfl (by decide) rfl rfl ?_
  refine x_iload_n rfl rfl rfl ?_
  refine x_aaldi (a := t) rfl rfl rfl (by decide) (by decide) (by omega) (by decide) rfl ?_
  refine x_getRi rfl rfl f_4_64 rfl (by show _ < 13; omega) rfl rfl ?_
  refine x_getIv (v := nI 2) (by first | exact hm | (rw [← hm]; rfl) | simp [ui, ul, hm]) rfl rfl f_4_68 rfl (by show _ < 13; omega) rfl ?_
  refine x_icmpN_ge (by omega) (by omega) rfl rfl (fun hc1 => absurd hc1 (by omega)) (fun hc1 => ?_)
  refine x_aload_n rfl rfl rfl ?_
  refine x_getRi rfl rfl f_4_73 rfl (by show _ < 40; omega) rfl rfl ?_
  refine x_lconst (v := 0) rfl rfl (by decide +kernel) ?_
  refine x_callVv (d2 := 0) (c_LL_add (len := 0) hG (lk_9 (by omega)) (0) (by first | exact h0 | (rw [← h0]; rfl) | simp [ui, ul, h0]) (by omega)) rfl rfl v_4_76 rfl rfl (by show _ < 40; omega) rfl rfl (Nat.le_of_ble_eq_true rfl) (by omega) (by omega) ?_
  refine x_iincN (a := 0) (b := 1) rfl rfl rfl rfl rfl ?_
  refine x_goto rfl rfl ?_
  refine x_iload_n rfl rfl rfl ?_
  refine x_aload_n rfl rfl rfl ?_
  refine x_getR0 rfl rfl f_4_17 rfl (by decide) rfl rfl ?_
  refine x_iload_n rfl rfl rfl ?_
  refine x_aaldi (a := t) rfl rfl rfl (by decide) (by decide) (by omega) (by decide) rfl ?_
  refine x_getRi rfl rfl f_4_64 rfl (by show _ < 13; omega) rfl rfl ?_
  refine x_getIv (v := nI 2) (by first | exact hm | (rw [← hm]; rfl) | simp [ui, ul, hm]) rfl rfl f_4_68 rfl (by show _ < 13; omega) rfl ?_
  refine x_icmpN_ge (by omega) (by omega) rfl rfl (fun hc2 => absurd hc2 (by omega)) (fun hc2 => ?_)
  refine x_aload_n rfl rfl rfl ?_
  refine x_getRi rfl rfl f_4_73 rfl (by show _ < 40; omega) rfl rfl ?_
  refine x_lconst (v := 0) rfl rfl (by decide +kernel) ?_
  refine x_callVv (d2 := 0) (c_LL_add (len := 1) hG (lk_9 (by omega)) (0) (by first | rfl | simp [ui, ul]) (by omega)) rfl rfl v_4_76 rfl rfl (by show _ < 40; omega) rfl rfl (Nat.le_of_ble_eq_true rfl) (by omega) (by omega) ?_
  refine x_iincN (a := 1) (b := 1) rfl rfl rfl rfl rfl ?_
  refine x_goto rfl rfl ?_
  refine x_iload_n rfl rfl rfl ?_
  refine x_aload_n rfl rfl rfl ?_
  refine x_getR0 rfl rfl f_4_17 rfl (by decide) rfl rfl ?_
  refine x_iload_n rfl rfl rfl ?_
  refine x_aaldi (a := t) rfl rfl rfl (by decide) (by decide) (by omega) (by decide) rfl ?_
  refine x_getRi rfl rfl f_4_64 rfl (by show _ < 13; omega) rfl rfl ?_
  refine x_getIv (v := nI 2) (by first | exact hm | (rw [← hm]; rfl) | simp [ui, ul, hm]) rfl rfl f_4_68 rfl (by show _ < 13; omega) rfl ?_
  refine x_icmpN_ge (by omega) (by omega) rfl rfl (fun hc3 => ?_) (fun hc3 => absurd hc3 (by omega))
  exact x_retV rfl rfl rfl (by omega) rfl rfl
set_option maxHeartbeats 4000000 in
set_option maxRecDepth 20000 in
theorem c_giveTraits3 (hG : Gok G) (hd : 1 ≤ d) {i t : Nat} (hi : i < 40) (ht : t < 13) (h0 : M.1 (9, i) 1 = nI 0) (hm : M.1 (6, t) 1 = nI 3) : Ct G mX4_giveTraits d [.ref (ga G (1, 0)), .ref (ga G (8, i)), .int (nI t)] M (.inl none) (ui (ul (ui (ul (ui (ul (ui M (8, i) 4 (nI t)) (10, i) 0 0) (9, i) 1 (nI 1)) (10, i) 1 0) (9, i) 1 (nI 2)) (10, i) 2 0) (9, i) 1 (nI 3)) 0 := by
  refine ct_of hG okX4_giveTraits (by decide +kernel) rfl (Nat.le_of_ble_eq_true rfl) ?_
  refine x_aload_n rfl rfl rfl ?_
  refine x_iload_n rfl rfl rfl ?_
  refine x_putI rfl rfl f_4_62 rfl rfl (by show _ < 40; omega) rfl ?_
  refine x_iconstN (b := 0) rfl rfl ?_
  refine x_istore_n rfl rfl rfl rfl ?_
  refine x_iload_n rfl rfl rfl ?_
  refine x_aload_n rfl rfl rfl ?_
  refine x_getR0 rfl rfl f_4_17 rfl (by decide) rfl rfl ?_
  refine x_iload_n rfl rfl rfl ?_
  refine x_aaldi (a := t) rfl rfl rfl (by decide) (by decide) (by omega) (by decide) rfl ?_
  refine x_getRi rfl rfl f_4_64 rfl (by show _ < 13; omega) rfl rfl ?_
  refine x_getIv (v := nI 3) (by first | exact hm | (rw [← hm]; rfl) | simp [ui, ul, hm]) rfl rfl f_4_68 rfl (by show _ < 13; omega) rfl ?_
  refine x_icmpN_ge (by omega) (by omega) rfl rfl (fun hc1 => absurd hc1 (by omega)) (fun hc1 => ?_)
  refine x_aload_n rfl rfl rfl ?_
  refine x_getRi rfl rfl f_4_73 rfl (by show _ < 40; omega) rfl rfl ?_
  refine x_lconst (v := 0) rfl rfl (by decide +kernel) ?_
  refine x_callVv (d2 := 0) (c_LL_add (len := 0) hG (lk_9 (by omega)) (0) (by first | exact h0 | (rw [← h0]; rfl) | simp [ui, ul, h0]) (by omega)) rfl rfl v_4_76 rfl rfl (by show _ < 40; omega) rfl rfl (Nat.le_of_ble_eq_true rfl) (by omega) (by omega) ?_
  refine x_iincN (a := 0) (b := 1) rfl rfl rfl rfl rfl ?_
  refine x_goto rfl rfl ?_
  refine x_iload_n rfl rfl rfl ?_
  refine x_aload_n rfl rfl rfl ?_
  refine x_getR0 rfl rfl f_4_17 rfl (by decide) rfl rfl ?_
  refine x_iload_n rfl rfl rfl ?_
  refine x_aaldi (a := t) rfl rfl rfl (by decide) (by decide) (by omega) (by decide) rfl ?_
  refine x_getRi rfl rfl f_4_64 rfl (by show _ < 13; omega) rfl rfl ?_
  refine x_getIv (v := nI 3) (by first | exact hm | (rw [← hm]; rfl) | simp [ui, ul, hm]) rfl rfl f_4_68 rfl (by show _ < 13; omega) rfl ?_
  refine x_icmpN_ge (by omega) (by omega) rfl rfl (fun hc2 => absurd hc2 (by omega)) (fun hc2 => ?_)
  refine x_aload_n rfl rfl rfl ?_
  refine x_getRi rfl rfl f_4_73 rfl (by show _ < 40; omega) rfl rfl ?_
  refine x_lconst (v := 0) rfl rfl (by decide +kernel) ?_
  refine x_callVv (d2 := 0) (c_LL_add (len := 1) hG (lk_9 (by omega)) (0) (by first | rfl | simp [ui, ul]) (by omega)) rfl rfl v_4_76 rfl rfl (by show _ < 40; omega) rfl rfl (Nat.le_of_ble_eq_true rfl) (by omega) (by omega) ?_
  refine x_iincN (a := 1) (b := 1) rfl rfl rfl rfl rfl ?_
  refine x_goto rfl rfl ?_
  refine x_iload_n rfl rfl rfl ?_
  refine x_aload_n rfl rfl rfl ?_
  refine x_getR0 rfl rfl f_4_17 rfl (by decide) rfl rfl ?_
  refine x_iload_n rfl rfl rfl ?_
  refine x_aaldi (a := t) rfl rfl rfl (by decide) (by decide) (by omega) (by decide) rfl ?_
  refine x_getRi rfl rfl f_4_64 rfl (by show _ < 13; omega) rfl rfl ?_
  refine x_getIv (v := nI 3) (by first | exact hm | (rw [← hm]; rfl) | simp [ui, ul, hm]) rfl rfl f_4_68 rfl (by show _ < 13; omega) rfl ?_
  refine x_icmpN_ge (by omega) (by omega) rfl rfl (fun hc3 => absurd hc3 (by omega)) (fun hc3 => ?_)
  refine x_aload_n rfl rfl rfl ?_
  refine x_getRi rfl rfl f_4_73 rfl (by show _ < 40; omega) rfl rfl ?_
  refine x_lconst (v := 0) rfl rfl (by decide +kernel) ?_
  refine x_callVv (d2 := 0) (c_LL_add (len := 2) hG (lk_9 (by omega)) (0) (by first | rfl | simp [ui, ul]) (by omega)) rfl rfl v_4_76 rfl rfl (by show _ < 40; omega) rfl rfl (Nat.le_of_ble_eq_true rfl) (by omega) (by omega) ?_
  refine x_iincN (a := 2) (b := 1) rfl rfl rfl rfl rfl ?_
  refine x_goto rfl rfl ?_
  refine x_iload_n rfl rfl rfl ?_
  refine x_aload_n rfl rfl rfl ?_
  refine x_getR0 rfl rfl f_4_17 rfl (by decide) rfl rfl ?_
  refine x_iload_n rfl rfl rfl ?_
  refine x_aaldi (a := t) rfl rfl rfl (by decide) (by decide) (by omega) (by decide) rfl ?_
  refine x_getRi rfl rfl f_4_64 rfl (by show _ < 13; omega) rfl rfl ?_
  refine x_getIv (v := nI 3) (by first | exact hm | (rw [← hm]; rfl) | simp [ui, ul, hm]) rfl rfl f_4_68 rfl (by show _ < 13; omega) rfl ?_
  refine x_icmpN_ge (by omega) (by omega) rfl rfl (fun hc4 => ?_) (fun hc4 => absurd hc4 (by omega))
  exact x_retV rfl rfl rfl (by omega) rfl rfl
end C4
