section D2
variable {G : Gd} {d : Nat} {M : Mm}
theorem outI {th : Int32} {n : Nat} (h : ∀ i, i < n → th ≠ nI i) (hn : n ≤ 600) : ¬ (¬ th < 0 ∧ th < nI n) := by
  rintro ⟨h1, h2⟩
  obtain ⟨j, hj, rfl⟩ := nI_of h1
  exact h j ((nI_ltI hj (by omega)).mp h2) rfl
theorem isV_4m {w n : Nat} {v : Int64} (h : uN v % 16 = 4) : isV w n v ↔ (¬ sh4 v < -268435456 ∧ sh4 v ≤ 268435455) := by
  rw [isV_4 h]
  have : sh4 v < 268435456 ↔ sh4 v ≤ 268435455 := by
    rw [Int64.lt_iff_toInt_lt, Int64.le_iff_toInt_le]
    have h1 : (268435456 : Int64).toInt = 268435456 := by decide +kernel
    have h2 : (268435455 : Int64).toInt = 268435455 := by decide +kernel
    omega
  rw [this]
theorem isV_6m {w n : Nat} {v : Int64} (h : uN v % 16 = 6) : isV w n v ↔ (¬ sh4 v < 0 ∧ isTx (sh4 v)) := by
  rw [isV_6 h]
  exact ⟨fun z => ⟨isTx_pos z, z⟩, fun z => z.2⟩
theorem isV_Om {w n : Nat} {v : Int64} (h : uN v % 16 ≤ 3) : isV w n v ↔ sh4 v = 0 := by
  rw [isV_O (by omega) (by omega) (by omega) (by omega)]
  exact ⟨fun z => z.2, fun z => ⟨h, z⟩⟩
theorem isV_Nm {w n : Nat} {v : Int64} (h : 8 ≤ uN v % 16) : ¬ isV w n v := by
  rw [isV_O (by omega) (by omega) (by omega) (by omega)]
  omega
set_option maxHeartbeats 4000000 in
set_option maxRecDepth 20000 in
theorem c_misThing (hG : Gok G) {n : Nat} (hn : M.1 (40, 0) 8 = nI n) (hn2 : n ≤ 40) {i : Nat} (hi : i < n) : Ct G mX9_isThing d [.ref (ga G (40, 0)), .int (nI i)] M (.inl (some (.int (nI 1)))) M 0 := by
  refine ct_of hG okX9_isThing (by decide +kernel) rfl (Nat.le_of_ble_eq_true rfl) ?_
  refine x_iload_n rfl rfl rfl ?_
  refine x_ifN_lt (by omega) rfl rfl (fun hc1 => hc1.elim) (fun hc1 => ?_)
  refine x_iload_n rfl rfl rfl ?_
  refine x_aload_n rfl rfl rfl ?_
  refine x_getIv (v := nI n) hn rfl rfl f_9_121 rfl (by decide) rfl ?_
  refine x_icmpN_ge (by omega) (by omega) rfl rfl (fun hc2 => absurd hc2 (by omega)) (fun hc2 => ?_)
  refine x_iconstN (b := 1) rfl rfl ?_
  refine x_goto rfl rfl ?_
  exact x_retZ rfl rfl rfl (by first | exact Or.inl rfl | exact Or.inr rfl) (by omega) rfl rfl
set_option maxHeartbeats 4000000 in
set_option maxRecDepth 20000 in
theorem c_misThingO (hG : Gok G) {n : Nat} (hn : M.1 (40, 0) 8 = nI n) (hn2 : n ≤ 40) {th : Int32} (ho : ∀ i, i < n → th ≠ nI i) : Ct G mX9_isThing d [.ref (ga G (40, 0)), .int (th)] M (.inl (some (.int (nI 0)))) M 0 := by
  refine ct_of hG okX9_isThing (by decide +kernel) rfl (Nat.le_of_ble_eq_true rfl) ?_
  refine x_iload_n rfl rfl rfl ?_
  refine x_if_lt rfl rfl (fun hc1 => ?_) (fun hc1 => ?_)
  · refine x_iconstN (b := 0) rfl rfl ?_
    exact x_retZ rfl rfl rfl (Or.inl rfl) (by omega) rfl rfl
  · refine x_iload_n rfl rfl rfl ?_
    refine x_aload_n rfl rfl rfl ?_
    refine x_getIv (v := nI n) hn rfl rfl f_9_121 rfl (by decide) rfl ?_
    refine x_icmp_ge rfl rfl (fun hc2 => ?_) (fun hc2 => ?_)
    · refine x_iconstN (b := 0) rfl rfl ?_
      exact x_retZ rfl rfl rfl (Or.inl rfl) (by omega) rfl rfl
    · refine x_iconstN (b := 1) rfl rfl ?_
      refine x_goto rfl rfl ?_
      exact absurd ⟨hc1, Classical.byContradiction fun z => hc2 (Int32.not_lt.mp z)⟩ (outI ho (by omega))
set_option maxHeartbeats 4000000 in
set_option maxRecDepth 20000 in
theorem c_misValue (hG : Gok G) (hd : 2 ≤ d) (v : Int64) {n : Nat} (hn : M.1 (40, 0) 8 = nI n) (hn2 : n ≤ 40) {w : Nat} (hw : M.1 (40, 0) 1 = nI w) (hw2 : w ≤ 40) : Ct G mX9_isValue d [.ref (ga G (40, 0)), .long (v)] M (.inl (some (.int (bI (isV w n v))))) M 0 := by
  refine ct_of hG okX9_isValue (by decide +kernel) rfl (Nat.le_of_ble_eq_true rfl) ?_
  refine x_lload_n rfl rfl rfl ?_
  refine x_ldc2 (v := 15) rfl rfl k_9_108 ?_
  refine x_land rfl rfl ?_
  refine x_l2i rfl rfl ?_
  refine x_topI (v := nI (uN v % 16)) (kd_eq v) ?_
  refine x_istore_n rfl rfl rfl rfl ?_
  refine x_lload_n rfl rfl rfl ?_
  refine x_iconstN (b := 4) rfl rfl ?_
  refine x_lshr rfl rfl ?_
  refine x_topL (v := sh4 v) rfl ?_
  refine x_lstore rfl rfl rfl rfl ?_
  refine x_iload_n rfl rfl rfl ?_
  by_cases hs0 : uN v % 16 = 0
  · rw [hs0]
    refine x_swIn (off := 47) (tg := 60) rfl (by decide +kernel) (by decide +kernel) rfl (by decide) ?_
    refine x_lload rfl rfl rfl ?_
    refine x_lconst (v := 0) rfl rfl (by decide +kernel) ?_
    refine x_lc_ne rfl rfl rfl rfl (fun hc1 => ?_) (fun hc1 => ?_)
    · refine x_iconstN (b := 0) rfl rfl ?_
      (rw [bI_iff (isV_Om (by omega))]; exact x_retZ rfl rfl rfl (by first | exact Or.inl rfl | exact Or.inr rfl) (by omega) (oB_f hc1) rfl)
    · refine x_iconstN (b := 1) rfl rfl ?_
      refine x_goto rfl rfl ?_
      (rw [bI_iff (isV_Om (by omega))]; exact x_retZ rfl rfl rfl (by first | exact Or.inl rfl | exact Or.inr rfl) (by omega) (oB_t hc1) rfl)
  by_cases hs1 : uN v % 16 = 1
  · rw [hs1]
    refine x_swIn (off := 47) (tg := 60) rfl (by decide +kernel) (by decide +kernel) rfl (by decide) ?_
    refine x_lload rfl rfl rfl ?_
    refine x_lconst (v := 0) rfl rfl (by decide +kernel) ?_
    refine x_lc_ne rfl rfl rfl rfl (fun hc2 => ?_) (fun hc2 => ?_)
    · refine x_iconstN (b := 0) rfl rfl ?_
      (rw [bI_iff (isV_Om (by omega))]; exact x_retZ rfl rfl rfl (by first | exact Or.inl rfl | exact Or.inr rfl) (by omega) (oB_f hc2) rfl)
    · refine x_iconstN (b := 1) rfl rfl ?_
      refine x_goto rfl rfl ?_
      (rw [bI_iff (isV_Om (by omega))]; exact x_retZ rfl rfl rfl (by first | exact Or.inl rfl | exact Or.inr rfl) (by omega) (oB_t hc2) rfl)
  by_cases hs2 : uN v % 16 = 2
  · rw [hs2]
    refine x_swIn (off := 47) (tg := 60) rfl (by decide +kernel) (by decide +kernel) rfl (by decide) ?_
    refine x_lload rfl rfl rfl ?_
    refine x_lconst (v := 0) rfl rfl (by decide +kernel) ?_
    refine x_lc_ne rfl rfl rfl rfl (fun hc3 => ?_) (fun hc3 => ?_)
    · refine x_iconstN (b := 0) rfl rfl ?_
      (rw [bI_iff (isV_Om (by omega))]; exact x_retZ rfl rfl rfl (by first | exact Or.inl rfl | exact Or.inr rfl) (by omega) (oB_f hc3) rfl)
    · refine x_iconstN (b := 1) rfl rfl ?_
      refine x_goto rfl rfl ?_
      (rw [bI_iff (isV_Om (by omega))]; exact x_retZ rfl rfl rfl (by first | exact Or.inl rfl | exact Or.inr rfl) (by omega) (oB_t hc3) rfl)
  by_cases hs3 : uN v % 16 = 3
  · rw [hs3]
    refine x_swIn (off := 47) (tg := 60) rfl (by decide +kernel) (by decide +kernel) rfl (by decide) ?_
    refine x_lload rfl rfl rfl ?_
    refine x_lconst (v := 0) rfl rfl (by decide +kernel) ?_
    refine x_lc_ne rfl rfl rfl rfl (fun hc4 => ?_) (fun hc4 => ?_)
    · refine x_iconstN (b := 0) rfl rfl ?_
      (rw [bI_iff (isV_Om (by omega))]; exact x_retZ rfl rfl rfl (by first | exact Or.inl rfl | exact Or.inr rfl) (by omega) (oB_f hc4) rfl)
    · refine x_iconstN (b := 1) rfl rfl ?_
      refine x_goto rfl rfl ?_
      (rw [bI_iff (isV_Om (by omega))]; exact x_retZ rfl rfl rfl (by first | exact Or.inl rfl | exact Or.inr rfl) (by omega) (oB_t hc4) rfl)
  by_cases hs4 : uN v % 16 = 4
  · rw [hs4]
    refine x_swIn (off := 60) (tg := 73) rfl (by decide +kernel) (by decide +kernel) rfl (by decide) ?_
    refine x_lload rfl rfl rfl ?_
    refine x_ldc2 (v := -268435456) rfl rfl k_9_110 ?_
    refine x_lc_lt rfl rfl rfl rfl (fun hc5 => ?_) (fun hc5 => ?_)
    · refine x_iconstN (b := 0) rfl rfl ?_
      (rw [bI_iff (isV_4m hs4)]; exact x_retZ rfl rfl rfl (by first | exact Or.inl rfl | exact Or.inr rfl) (by omega) (oB_f (fun z => z.1 hc5)) rfl)
    · refine x_lload rfl rfl rfl ?_
      refine x_ldc2 (v := 268435455) rfl rfl k_9_112 ?_
      refine x_lc_gt rfl rfl rfl rfl (fun hc6 => ?_) (fun hc6 => ?_)
      · refine x_iconstN (b := 0) rfl rfl ?_
        (rw [bI_iff (isV_4m hs4)]; exact x_retZ rfl rfl rfl (by first | exact Or.inl rfl | exact Or.inr rfl) (by omega) (oB_f (fun z => hc6 z.2)) rfl)
      · refine x_iconstN (b := 1) rfl rfl ?_
        refine x_goto rfl rfl ?_
        (rw [bI_iff (isV_4m hs4)]; exact x_retZ rfl rfl rfl (by first | exact Or.inl rfl | exact Or.inr rfl) (by omega) (oB_t ⟨hc5, hc6⟩) rfl)
  by_cases hs5 : uN v % 16 = 5
  · rw [hs5]
    refine x_swIn (off := 84) (tg := 97) rfl (by decide +kernel) (by decide +kernel) rfl (by decide) ?_
    refine x_lload rfl rfl rfl ?_
    refine x_lconst (v := 0) rfl rfl (by decide +kernel) ?_
    refine x_lc_lt rfl rfl rfl rfl (fun hc7 => ?_) (fun hc7 => ?_)
    · refine x_iconstN (b := 0) rfl rfl ?_
      (rw [bI_iff (isV_5 hs5)]; exact x_retZ rfl rfl rfl (by first | exact Or.inl rfl | exact Or.inr rfl) (by omega) (oB_f (fun z => z.1 hc7)) rfl)
    · refine x_lload rfl rfl rfl ?_
      refine x_aload_n rfl rfl rfl ?_
      refine x_getIv (v := nI w) hw rfl rfl f_9_114 rfl (by decide) rfl ?_
      refine x_i2lN (a := w) (by omega) rfl rfl ?_
      refine x_lc_ge rfl rfl rfl rfl (fun hc8 => ?_) (fun hc8 => ?_)
      · refine x_iconstN (b := 0) rfl rfl ?_
        (rw [bI_iff (isV_5 hs5)]; exact x_retZ rfl rfl rfl (by first | exact Or.inl rfl | exact Or.inr rfl) (by omega) (oB_f (fun z => hc8 z.2)) rfl)
      · refine x_iconstN (b := 1) rfl rfl ?_
        refine x_goto rfl rfl ?_
        (rw [bI_iff (isV_5 hs5)]; exact x_retZ rfl rfl rfl (by first | exact Or.inl rfl | exact Or.inr rfl) (by omega) (oB_t ⟨hc7, hc8⟩) rfl)
  by_cases hs6 : uN v % 16 = 6
  · rw [hs6]
    refine x_swIn (off := 108) (tg := 121) rfl (by decide +kernel) (by decide +kernel) rfl (by decide) ?_
    refine x_lload rfl rfl rfl ?_
    refine x_lconst (v := 0) rfl rfl (by decide +kernel) ?_
    refine x_lc_lt rfl rfl rfl rfl (fun hc9 => ?_) (fun hc9 => ?_)
    · refine x_iconstN (b := 0) rfl rfl ?_
      (rw [bI_iff (isV_6m hs6)]; exact x_retZ rfl rfl rfl (by first | exact Or.inl rfl | exact Or.inr rfl) (by omega) (oB_f (fun z => z.1 hc9)) rfl)
    · refine x_lload rfl rfl rfl ?_
      refine x_callSi (d2 := 1) (c_misText hG (Nat.le_refl 1) (sh4 v)) rfl rfl s_9_117 rfl rfl (Nat.le_of_ble_eq_true rfl) (by omega) (by omega) ?_
      refine x_ifB_eq rfl rfl (fun hc10 => ?_) (fun hc10 => ?_)
      · refine x_iconstN (b := 0) rfl rfl ?_
        (rw [bI_iff (isV_6m hs6)]; exact x_retZ rfl rfl rfl (by first | exact Or.inl rfl | exact Or.inr rfl) (by omega) (oB_f (fun z => hc10 z.2)) rfl)
      · refine x_iconstN (b := 1) rfl rfl ?_
        refine x_goto rfl rfl ?_
        (rw [bI_iff (isV_6m hs6)]; exact x_retZ rfl rfl rfl (by first | exact Or.inl rfl | exact Or.inr rfl) (by omega) (oB_t ⟨hc9, hc10⟩) rfl)
  by_cases hs7 : uN v % 16 = 7
  · rw [hs7]
    refine x_swIn (off := 129) (tg := 142) rfl (by decide +kernel) (by decide +kernel) rfl (by decide) ?_
    refine x_lload rfl rfl rfl ?_
    refine x_lconst (v := 0) rfl rfl (by decide +kernel) ?_
    refine x_lc_lt rfl rfl rfl rfl (fun hc11 => ?_) (fun hc11 => ?_)
    · refine x_iconstN (b := 0) rfl rfl ?_
      (rw [bI_iff (isV_7 hs7)]; exact x_retZ rfl rfl rfl (by first | exact Or.inl rfl | exact Or.inr rfl) (by omega) (oB_f (fun z => z.1 hc11)) rfl)
    · refine x_lload rfl rfl rfl ?_
      refine x_aload_n rfl rfl rfl ?_
      refine x_getIv (v := nI n) hn rfl rfl f_9_121 rfl (by decide) rfl ?_
      refine x_i2lN (a := n) (by omega) rfl rfl ?_
      refine x_lc_ge rfl rfl rfl rfl (fun hc12 => ?_) (fun hc12 => ?_)
      · refine x_iconstN (b := 0) rfl rfl ?_
        (rw [bI_iff (isV_7 hs7)]; exact x_retZ rfl rfl rfl (by first | exact Or.inl rfl | exact Or.inr rfl) (by omega) (oB_f (fun z => hc12 z.2)) rfl)
      · refine x_iconstN (b := 1) rfl rfl ?_
        refine x_goto rfl rfl ?_
        (rw [bI_iff (isV_7 hs7)]; exact x_retZ rfl rfl rfl (by first | exact Or.inl rfl | exact Or.inr rfl) (by omega) (oB_t ⟨hc11, hc12⟩) rfl)
  refine x_swOut (tg := 166) rfl (by rw [nI_toInt (by omega)]; omega) (by decide) ?_
  refine x_iconstN (b := 0) rfl rfl ?_
  exact x_retZ rfl rfl rfl (by first | exact Or.inl rfl | exact Or.inr rfl) (by omega) (oB_f (isV_Nm (by omega))) rfl
set_option maxHeartbeats 4000000 in
set_option maxRecDepth 20000 in
theorem c_mnewWide (hG : Gok G) (b : Int64) {w : Nat} (hw : M.1 (40, 0) 1 = nI w) (hw2 : w < 40) : Ct G mX9_newWide d [.ref (ga G (40, 0)), .long (b)] M (.inl (some (.long ((16 * (lN (w))) + 5)))) (ui (ul M (41, 0) w b) (40, 0) 1 (nI (w + 1))) 0 := by
  refine ct_of hG okX9_newWide (by decide +kernel) rfl (Nat.le_of_ble_eq_true rfl) ?_
  refine x_aload_n rfl rfl rfl ?_
  refine x_getR0 rfl rfl f_9_7 rfl (by decide) rfl rfl ?_
  refine x_aload_n rfl rfl rfl ?_
  refine x_getIv (v := nI w) hw rfl rfl f_9_114 rfl (by decide) rfl ?_
  refine x_lload_n rfl rfl rfl ?_
  refine x_last (a := w) rfl rfl rfl (by decide) (by omega) (by decide) ?_
  refine x_aload_n rfl rfl rfl ?_
  refine x_dup rfl rfl rfl ?_
  refine x_getIv (v := nI w) (by first | exact hw | (rw [← hw]; rfl) | simp [ui, ul, hw]) rfl rfl f_9_114 rfl (by decide) rfl ?_
  refine x_iconstN (b := 1) rfl rfl ?_
  refine x_iaddN (a := w) (b := 1) rfl rfl ?_
  refine x_putI rfl rfl f_9_114 rfl rfl (by decide) rfl ?_
  refine x_ldc2 (v := 16) rfl rfl k_9_128 ?_
  refine x_aload_n rfl rfl rfl ?_
  refine x_getIv (v := nI (w + 1)) (by first | rfl | simp [ui, ul]) rfl rfl f_9_114 rfl (by decide) rfl ?_
  refine x_iconstN (b := 1) rfl rfl ?_
  refine x_isubN (a := w + 1) (b := 1) (by omega) rfl rfl ?_
  refine x_i2lN (a := w) (by omega) rfl rfl ?_
  refine x_lmul rfl rfl ?_
  refine x_ldc2 (v := 5) rfl rfl k_9_130 ?_
  refine x_ladd rfl rfl ?_
  exact x_retL rfl rfl rfl (by omega) rfl rfl
set_option maxHeartbeats 4000000 in
set_option maxRecDepth 20000 in
theorem c_mvalueOf (hG : Gok G) {i : Nat} (hi : i < 40) : Ct G mX9_valueOf d [.ref (ga G (40, 0)), .int (nI i)] M (.inl (some (.long ((16 * (lN (i))) + 7)))) M 0 := by
  refine ct_of hG okX9_valueOf (by decide +kernel) rfl (Nat.le_of_ble_eq_true rfl) ?_
  refine x_ldc2 (v := 16) rfl rfl k_9_128 ?_
  refine x_iload_n rfl rfl rfl ?_
  refine x_i2lN (a := i) (by omega) rfl rfl ?_
  refine x_lmul rfl rfl ?_
  refine x_ldc2 (v := 7) rfl rfl k_9_132 ?_
  refine x_ladd rfl rfl ?_
  exact x_retL rfl rfl rfl (by omega) rfl rfl
set_option maxHeartbeats 4000000 in
set_option maxRecDepth 20000 in
theorem c_mnewThing (hG : Gok G) (kd ct tr : Int32) (b : Int64) {n : Nat} (hn : M.1 (40, 0) 8 = nI n) (hn2 : n < 40) : Ct G mX9_newThing d [.ref (ga G (40, 0)), .int (kd), .long (b), .int (ct), .int (tr)] M (.inl (some (.int (nI n)))) (ui (ul (ul (ul (ul (ul (ul (ul (ul (ui (ui (ui (ul (ui M (46, 0) n kd) (47, 0) n b) (48, 0) n ct) (49, 0) n tr) (51, 0) n (nI 0)) (50, 0) ((8 * n) + 0) 0) (50, 0) ((8 * n) + 1) 0) (50, 0) ((8 * n) + 2) 0) (50, 0) ((8 * n) + 3) 0) (50, 0) ((8 * n) + 4) 0) (50, 0) ((8 * n) + 5) 0) (50, 0) ((8 * n) + 6) 0) (50, 0) ((8 * n) + 7) 0) (40, 0) 8 (nI (n + 1))) 0 := by
  refine ct_of hG okX9_newThing (by decide +kernel) rfl (Nat.le_of_ble_eq_true rfl) ?_
  refine x_aload_n rfl rfl rfl ?_
  refine x_getR0 rfl rfl f_9_27 rfl (by decide) rfl rfl ?_
  refine x_aload_n rfl rfl rfl ?_
  refine x_getIv (v := nI n) hn rfl rfl f_9_121 rfl (by decide) rfl ?_
  refine x_iload_n rfl rfl rfl ?_
  refine x_iast (a := n) rfl rfl rfl (by decide) (by omega) (by decide) ?_
  refine x_aload_n rfl rfl rfl ?_
  refine x_getR0 rfl rfl f_9_30 rfl (by decide) rfl rfl ?_
  refine x_aload_n rfl rfl rfl ?_
  refine x_getIv (v := nI n) (by first | exact hn | (rw [← hn]; rfl) | simp [ui, ul, hn]) rfl rfl f_9_121 rfl (by decide) rfl ?_
  refine x_lload_n rfl rfl rfl ?_
  refine x_last (a := n) rfl rfl rfl (by decide) (by omega) (by decide) ?_
  refine x_aload_n rfl rfl rfl ?_
  refine x_getR0 rfl rfl f_9_33 rfl (by decide) rfl rfl ?_
  refine x_aload_n rfl rfl rfl ?_
  refine x_getIv (v := nI n) (by first | exact hn | (rw [← hn]; rfl) | simp [ui, ul, hn]) rfl rfl f_9_121 rfl (by decide) rfl ?_
  refine x_iload rfl rfl rfl ?_
  refine x_iast (a := n) rfl rfl rfl (by decide) (by omega) (by decide) ?_
  refine x_aload_n rfl rfl rfl ?_
  refine x_getR0 rfl rfl f_9_36 rfl (by decide) rfl rfl ?_
  refine x_aload_n rfl rfl rfl ?_
  refine x_getIv (v := nI n) (by first | exact hn | (rw [← hn]; rfl) | simp [ui, ul, hn]) rfl rfl f_9_121 rfl (by decide) rfl ?_
  refine x_iload rfl rfl rfl ?_
  refine x_iast (a := n) rfl rfl rfl (by decide) (by omega) (by decide) ?_
  refine x_aload_n rfl rfl rfl ?_
  refine x_getR0 rfl rfl f_9_42 rfl (by decide) rfl rfl ?_
  refine x_aload_n rfl rfl rfl ?_
  refine x_getIv (v := nI n) (by first | exact hn | (rw [← hn]; rfl) | simp [ui, ul, hn]) rfl rfl f_9_121 rfl (by decide) rfl ?_
  refine x_iconstN (b := 0) rfl rfl ?_
  refine x_iast (a := n) rfl rfl rfl (by decide) (by omega) (by decide) ?_
  refine x_iconstN (b := 0) rfl rfl ?_
  refine x_istore rfl rfl rfl rfl ?_
  refine x_iload rfl rfl rfl ?_
  refine x_bipush (v := nI 8) rfl rfl (by decide +kernel) ?_
  refine x_icmpN_ge (by omega) (by omega) rfl rfl (fun hc1 => absurd hc1 (by omega)) (fun hc1 => ?_)
  refine x_aload_n rfl rfl rfl ?_
  refine x_getR0 rfl rfl f_9_39 rfl (by decide) rfl rfl ?_
  refine x_bipush (v := nI 8) rfl rfl (by decide +kernel) ?_
  refine x_aload_n rfl rfl rfl ?_
  refine x_getIv (v := nI n) (by first | exact hn | (rw [← hn]; rfl) | simp [ui, ul, hn]) rfl rfl f_9_121 rfl (by decide) rfl ?_
  refine x_imulN (a := 8) (b := n) rfl rfl ?_
  refine x_iload rfl rfl rfl ?_
  refine x_iaddN (a := 8 * n) (b := 0) rfl rfl ?_
  refine x_lconst (v := 0) rfl rfl (by decide +kernel) ?_
  refine x_last (a := (8 * n) + 0) rfl rfl rfl (by decide) (by omega) (by decide) ?_
  refine x_iincN (a := 0) (b := 1) rfl rfl rfl rfl rfl ?_
  refine x_goto rfl rfl ?_
  refine x_iload rfl rfl rfl ?_
  refine x_bipush (v := nI 8) rfl rfl (by decide +kernel) ?_
  refine x_icmpN_ge (by omega) (by omega) rfl rfl (fun hc2 => absurd hc2 (by omega)) (fun hc2 => ?_)
  refine x_aload_n rfl rfl rfl ?_
  refine x_getR0 rfl rfl f_9_39 rfl (by decide) rfl rfl ?_
  refine x_bipush (v := nI 8) rfl rfl (by decide +kernel) ?_
  refine x_aload_n rfl rfl rfl ?_
  refine x_getIv (v := nI n) (by first | exact hn | (rw [← hn]; rfl) | simp [ui, ul, hn]) rfl rfl f_9_121 rfl (by decide) rfl ?_
  refine x_imulN (a := 8) (b := n) rfl rfl ?_
  refine x_iload rfl rfl rfl ?_
  refine x_iaddN (a := 8 * n) (b := 1) rfl rfl ?_
  refine x_lconst (v := 0) rfl rfl (by decide +kernel) ?_
  refine x_last (a := (8 * n) + 1) rfl rfl rfl (by decide) (by omega) (by decide) ?_
  refine x_iincN (a := 1) (b := 1) rfl rfl rfl rfl rfl ?_
  refine x_goto rfl rfl ?_
  refine x_iload rfl rfl rfl ?_
  refine x_bipush (v := nI 8) rfl rfl (by decide +kernel) ?_
  refine x_icmpN_ge (by omega) (by omega) rfl rfl (fun hc3 => absurd hc3 (by omega)) (fun hc3 => ?_)
  refine x_aload_n rfl rfl rfl ?_
  refine x_getR0 rfl rfl f_9_39 rfl (by decide) rfl rfl ?_
  refine x_bipush (v := nI 8) rfl rfl (by decide +kernel) ?_
  refine x_aload_n rfl rfl rfl ?_
  refine x_getIv (v := nI n) (by first | exact hn | (rw [← hn]; rfl) | simp [ui, ul, hn]) rfl rfl f_9_121 rfl (by decide) rfl ?_
  refine x_imulN (a := 8) (b := n) rfl rfl ?_
  refine x_iload rfl rfl rfl ?_
  refine x_iaddN (a := 8 * n) (b := 2) rfl rfl ?_
  refine x_lconst (v := 0) rfl rfl (by decide +kernel) ?_
  refine x_last (a := (8 * n) + 2) rfl rfl rfl (by decide) (by omega) (by decide) ?_
  refine x_iincN (a := 2) (b := 1) rfl rfl rfl rfl rfl ?_
  refine x_goto rfl rfl ?_
  refine x_iload rfl rfl rfl ?_
  refine x_bipush (v := nI 8) rfl rfl (by decide +kernel) ?_
  refine x_icmpN_ge (by omega) (by omega) rfl rfl (fun hc4 => absurd hc4 (by omega)) (fun hc4 => ?_)
  refine x_aload_n rfl rfl rfl ?_
  refine x_getR0 rfl rfl f_9_39 rfl (by decide) rfl rfl ?_
  refine x_bipush (v := nI 8) rfl rfl (by decide +kernel) ?_
  refine x_aload_n rfl rfl rfl ?_
  refine x_getIv (v := nI n) (by first | exact hn | (rw [← hn]; rfl) | simp [ui, ul, hn]) rfl rfl f_9_121 rfl (by decide) rfl ?_
  refine x_imulN (a := 8) (b := n) rfl rfl ?_
  refine x_iload rfl rfl rfl ?_
  refine x_iaddN (a := 8 * n) (b := 3) rfl rfl ?_
  refine x_lconst (v := 0) rfl rfl (by decide +kernel) ?_
  refine x_last (a := (8 * n) + 3) rfl rfl rfl (by decide) (by omega) (by decide) ?_
  refine x_iincN (a := 3) (b := 1) rfl rfl rfl rfl rfl ?_
  refine x_goto rfl rfl ?_
  refine x_iload rfl rfl rfl ?_
  refine x_bipush (v := nI 8) rfl rfl (by decide +kernel) ?_
  refine x_icmpN_ge (by omega) (by omega) rfl rfl (fun hc5 => absurd hc5 (by omega)) (fun hc5 => ?_)
  refine x_aload_n rfl rfl rfl ?_
  refine x_getR0 rfl rfl f_9_39 rfl (by decide) rfl rfl ?_
  refine x_bipush (v := nI 8) rfl rfl (by decide +kernel) ?_
  refine x_aload_n rfl rfl rfl ?_
  refine x_getIv (v := nI n) (by first | exact hn | (rw [← hn]; rfl) | simp [ui, ul, hn]) rfl rfl f_9_121 rfl (by decide) rfl ?_
  refine x_imulN (a := 8) (b := n) rfl rfl ?_
  refine x_iload rfl rfl rfl ?_
  refine x_iaddN (a := 8 * n) (b := 4) rfl rfl ?_
  refine x_lconst (v := 0) rfl rfl (by decide +kernel) ?_
  refine x_last (a := (8 * n) + 4) rfl rfl rfl (by decide) (by omega) (by decide) ?_
  refine x_iincN (a := 4) (b := 1) rfl rfl rfl rfl rfl ?_
  refine x_goto rfl rfl ?_
  refine x_iload rfl rfl rfl ?_
  refine x_bipush (v := nI 8) rfl rfl (by decide +kernel) ?_
  refine x_icmpN_ge (by omega) (by omega) rfl rfl (fun hc6 => absurd hc6 (by omega)) (fun hc6 => ?_)
  refine x_aload_n rfl rfl rfl ?_
  refine x_getR0 rfl rfl f_9_39 rfl (by decide) rfl rfl ?_
  refine x_bipush (v := nI 8) rfl rfl (by decide +kernel) ?_
  refine x_aload_n rfl rfl rfl ?_
  refine x_getIv (v := nI n) (by first | exact hn | (rw [← hn]; rfl) | simp [ui, ul, hn]) rfl rfl f_9_121 rfl (by decide) rfl ?_
  refine x_imulN (a := 8) (b := n) rfl rfl ?_
  refine x_iload rfl rfl rfl ?_
  refine x_iaddN (a := 8 * n) (b := 5) rfl rfl ?_
  refine x_lconst (v := 0) rfl rfl (by decide +kernel) ?_
  refine x_last (a := (8 * n) + 5) rfl rfl rfl (by decide) (by omega) (by decide) ?_
  refine x_iincN (a := 5) (b := 1) rfl rfl rfl rfl rfl ?_
  refine x_goto rfl rfl ?_
  refine x_iload rfl rfl rfl ?_
  refine x_bipush (v := nI 8) rfl rfl (by decide +kernel) ?_
  refine x_icmpN_ge (by omega) (by omega) rfl rfl (fun hc7 => absurd hc7 (by omega)) (fun hc7 => ?_)
  refine x_aload_n rfl rfl rfl ?_
  refine x_getR0 rfl rfl f_9_39 rfl (by decide) rfl rfl ?_
  refine x_bipush (v := nI 8) rfl rfl (by decide +kernel) ?_
  refine x_aload_n rfl rfl rfl ?_
  refine x_getIv (v := nI n) (by first | exact hn | (rw [← hn]; rfl) | simp [ui, ul, hn]) rfl rfl f_9_121 rfl (by decide) rfl ?_
  refine x_imulN (a := 8) (b := n) rfl rfl ?_
  refine x_iload rfl rfl rfl ?_
  refine x_iaddN (a := 8 * n) (b := 6) rfl rfl ?_
  refine x_lconst (v := 0) rfl rfl (by decide +kernel) ?_
  refine x_last (a := (8 * n) + 6) rfl rfl rfl (by decide) (by omega) (by decide) ?_
  refine x_iincN (a := 6) (b := 1) rfl rfl rfl rfl rfl ?_
  refine x_goto rfl rfl ?_
  refine x_iload rfl rfl rfl ?_
  refine x_bipush (v := nI 8) rfl rfl (by decide +kernel) ?_
  refine x_icmpN_ge (by omega) (by omega) rfl rfl (fun hc8 => absurd hc8 (by omega)) (fun hc8 => ?_)
  refine x_aload_n rfl rfl rfl ?_
  refine x_getR0 rfl rfl f_9_39 rfl (by decide) rfl rfl ?_
  refine x_bipush (v := nI 8) rfl rfl (by decide +kernel) ?_
  refine x_aload_n rfl rfl rfl ?_
  refine x_getIv (v := nI n) (by first | exact hn | (rw [← hn]; rfl) | simp [ui, ul, hn]) rfl rfl f_9_121 rfl (by decide) rfl ?_
  refine x_imulN (a := 8) (b := n) rfl rfl ?_
  refine x_iload rfl rfl rfl ?_
  refine x_iaddN (a := 8 * n) (b := 7) rfl rfl ?_
  refine x_lconst (v := 0) rfl rfl (by decide +kernel) ?_
  refine x_last (a := (8 * n) + 7) rfl rfl rfl (by decide) (by omega) (by decide) ?_
  refine x_iincN (a := 7) (b := 1) rfl rfl rfl rfl rfl ?_
  refine x_goto rfl rfl ?_
  refine x_iload rfl rfl rfl ?_
  refine x_bipush (v := nI 8) rfl rfl (by decide +kernel) ?_
  refine x_icmpN_ge (by omega) (by omega) rfl rfl (fun hc9 => ?_) (fun hc9 => absurd hc9 (by omega))
  refine x_aload_n rfl rfl rfl ?_
  refine x_dup rfl rfl rfl ?_
  refine x_getIv (v := nI n) (by first | exact hn | (rw [← hn]; rfl) | simp [ui, ul, hn]) rfl rfl f_9_121 rfl (by decide) rfl ?_
  refine x_iconstN (b := 1) rfl rfl ?_
  refine x_iaddN (a := n) (b := 1) rfl rfl ?_
  refine x_putI rfl rfl f_9_121 rfl rfl (by decide) rfl ?_
  refine x_aload_n rfl rfl rfl ?_
  refine x_getIv (v := nI (n + 1)) (by first | rfl | simp [ui, ul]) rfl rfl f_9_121 rfl (by decide) rfl ?_
  refine x_iconstN (b := 1) rfl rfl ?_
  refine x_isubN (a := n + 1) (b := 1) (by omega) rfl rfl ?_
  exact x_retI rfl rfl rfl (by omega) rfl rfl
set_option maxHeartbeats 4000000 in
set_option maxRecDepth 20000 in
theorem c_mwide (hG : Gok G) (hd : 1 ≤ d) (b : Int64) {w : Nat} (hw : M.1 (40, 0) 1 = nI w) (hw2 : w < 40) : Ct G mX9_wide d [.ref (ga G (40, 0)), .long (b)] M (.inl (some (.long (16 * (lN (w)) + 5)))) (ui (ul (ui M (40, 0) 0 (nI 0)) (41, 0) w b) (40, 0) 1 (nI (w + 1))) 0 := by
  refine ct_of hG okX9_wide (by decide +kernel) rfl (Nat.le_of_ble_eq_true rfl) ?_
  refine x_aload_n rfl rfl rfl ?_
  refine x_aload_n rfl rfl rfl ?_
  refine x_getIv (v := nI w) hw rfl rfl f_9_114 rfl (by decide) rfl ?_
  refine x_bipush (v := nI 40) rfl rfl (by decide +kernel) ?_
  refine x_icmpN_ne (by omega) (by omega) rfl rfl (fun hc1 => ?_) (fun hc1 => absurd hc1 (by omega))
  refine x_iconstN (b := 0) rfl rfl ?_
  refine x_putI rfl rfl f_9_97 rfl rfl (by decide) rfl ?_
  refine x_aload_n rfl rfl rfl ?_
  refine x_getIv (v := nI 0) (by first | rfl | simp [ui, ul]) rfl rfl f_9_97 rfl (by decide) rfl ?_
  refine x_if_le rfl rfl (fun _ => ?_) (fun hc2 => absurd hc2 (by decide +kernel))
  refine x_aload_n rfl rfl rfl ?_
  refine x_lload_n rfl rfl rfl ?_
  refine x_callVl (d2 := 0) (c_mnewWide (w := w) hG (b) (by first | exact hw | (rw [← hw]; rfl) | simp [ui, ul, hw]) (by omega)) rfl rfl v_9_124 rfl rfl (by decide) rfl rfl (Nat.le_of_ble_eq_true rfl) (by omega) (by omega) ?_
  exact x_retL rfl rfl rfl (by omega) rfl rfl
set_option maxHeartbeats 4000000 in
set_option maxRecDepth 20000 in
theorem c_mwideX (hG : Gok G) (b : Int64) (hw : M.1 (40, 0) 1 = nI 40) : Ct G mX9_wide d [.ref (ga G (40, 0)), .long (b)] M (.inl (some (.long (0)))) (ui M (40, 0) 0 (nI 1)) 0 := by
  refine ct_of hG okX9_wide (by decide +kernel) rfl (Nat.le_of_ble_eq_true rfl) ?_
  refine x_aload_n rfl rfl rfl ?_
  refine x_aload_n rfl rfl rfl ?_
  refine x_getIv (v := nI 40) hw rfl rfl f_9_114 rfl (by decide) rfl ?_
  refine x_bipush (v := nI 40) rfl rfl (by decide +kernel) ?_
  refine x_icmpN_ne (by omega) (by omega) rfl rfl (fun hc1 => absurd hc1 (by omega)) (fun hc1 => ?_)
  refine x_iconstN (b := 1) rfl rfl ?_
  refine x_goto rfl rfl ?_
  refine x_putI rfl rfl f_9_97 rfl rfl (by decide) rfl ?_
  refine x_aload_n rfl rfl rfl ?_
  refine x_getIv (v := nI 1) (by first | rfl | simp [ui, ul]) rfl rfl f_9_97 rfl (by decide) rfl ?_
  refine x_if_le rfl rfl (fun hc2 => absurd hc2 (by decide +kernel)) (fun _ => ?_)
  refine x_lconst (v := 0) rfl rfl (by decide +kernel) ?_
  refine x_goto rfl rfl ?_
  exact x_retL rfl rfl rfl (by omega) rfl rfl
set_option maxHeartbeats 4000000 in
set_option maxRecDepth 20000 in
theorem c_mdate (hG : Gok G) (hd : 1 ≤ d) (b : Int64) {n : Nat} (hn : M.1 (40, 0) 8 = nI n) (hn2 : n < 40) : Ct G mX9_date d [.ref (ga G (40, 0)), .long (b)] M (.inl (some (.long (16 * (lN (n)) + 7)))) (ui (ul (ul (ul (ul (ul (ul (ul (ul (ui (ui (ui (ul (ui (ui M (40, 0) 0 (nI 0)) (46, 0) n (nI 8)) (47, 0) n b) (48, 0) n (nI 0)) (49, 0) n ((-1))) (51, 0) n (nI 0)) (50, 0) ((8 * n) + 0) 0) (50, 0) ((8 * n) + 1) 0) (50, 0) ((8 * n) + 2) 0) (50, 0) ((8 * n) + 3) 0) (50, 0) ((8 * n) + 4) 0) (50, 0) ((8 * n) + 5) 0) (50, 0) ((8 * n) + 6) 0) (50, 0) ((8 * n) + 7) 0) (40, 0) 8 (nI (n + 1))) 0 := by
  refine ct_of hG okX9_date (by decide +kernel) rfl (Nat.le_of_ble_eq_true rfl) ?_
  refine x_aload_n rfl rfl rfl ?_
  refine x_aload_n rfl rfl rfl ?_
  refine x_getIv (v := nI n) hn rfl rfl f_9_121 rfl (by decide) rfl ?_
  refine x_bipush (v := nI 40) rfl rfl (by decide +kernel) ?_
  refine x_icmpN_ne (by omega) (by omega) rfl rfl (fun hc1 => ?_) (fun hc1 => absurd hc1 (by omega))
  refine x_iconstN (b := 0) rfl rfl ?_
  refine x_putI rfl rfl f_9_97 rfl rfl (by decide) rfl ?_
  refine x_aload_n rfl rfl rfl ?_
  refine x_getIv (v := nI 0) (by first | rfl | simp [ui, ul]) rfl rfl f_9_97 rfl (by decide) rfl ?_
  refine x_if_le rfl rfl (fun _ => ?_) (fun hc2 => absurd hc2 (by decide +kernel))
  refine x_aload_n rfl rfl rfl ?_
  refine x_aload_n rfl rfl rfl ?_
  refine x_bipush (v := nI 8) rfl rfl (by decide +kernel) ?_
  refine x_lload_n rfl rfl rfl ?_
  refine x_iconstN (b := 0) rfl rfl ?_
  refine x_iconst (v := -1) rfl rfl (by decide +kernel) ?_
  refine x_callVi (d2 := 0) (c_mnewThing (n := n) hG (nI 8) (nI 0) ((-1)) (b) (by first | exact hn | (rw [← hn]; rfl) | simp [ui, ul, hn]) (by omega)) rfl rfl v_9_134 rfl rfl (by decide) rfl rfl (Nat.le_of_ble_eq_true rfl) (by omega) (by omega) ?_
  refine x_callVl (d2 := 0) (c_mvalueOf (i := n) hG (by omega)) rfl rfl v_9_138 rfl rfl (by decide) rfl rfl (Nat.le_of_ble_eq_true rfl) (by omega) (by omega) ?_
  exact x_retL rfl rfl rfl (by omega) rfl rfl
set_option maxHeartbeats 4000000 in
set_option maxRecDepth 20000 in
theorem c_mdateX (hG : Gok G) (b : Int64) (hn : M.1 (40, 0) 8 = nI 40) : Ct G mX9_date d [.ref (ga G (40, 0)), .long (b)] M (.inl (some (.long (0)))) (ui M (40, 0) 0 (nI 1)) 0 := by
  refine ct_of hG okX9_date (by decide +kernel) rfl (Nat.le_of_ble_eq_true rfl) ?_
  refine x_aload_n rfl rfl rfl ?_
  refine x_aload_n rfl rfl rfl ?_
  refine x_getIv (v := nI 40) hn rfl rfl f_9_121 rfl (by decide) rfl ?_
  refine x_bipush (v := nI 40) rfl rfl (by decide +kernel) ?_
  refine x_icmpN_ne (by omega) (by omega) rfl rfl (fun hc1 => absurd hc1 (by omega)) (fun hc1 => ?_)
  refine x_iconstN (b := 1) rfl rfl ?_
  refine x_goto rfl rfl ?_
  refine x_putI rfl rfl f_9_97 rfl rfl (by decide) rfl ?_
  refine x_aload_n rfl rfl rfl ?_
  refine x_getIv (v := nI 1) (by first | rfl | simp [ui, ul]) rfl rfl f_9_97 rfl (by decide) rfl ?_
  refine x_if_le rfl rfl (fun hc2 => absurd hc2 (by decide +kernel)) (fun _ => ?_)
  refine x_lconst (v := 0) rfl rfl (by decide +kernel) ?_
  refine x_goto rfl rfl ?_
  exact x_retL rfl rfl rfl (by omega) rfl rfl
set_option maxHeartbeats 4000000 in
set_option maxRecDepth 20000 in
theorem c_marray (hG : Gok G) (hd : 1 ≤ d) {n : Nat} (hn : M.1 (40, 0) 8 = nI n) (hn2 : n < 40) : Ct G mX9_array d [.ref (ga G (40, 0))] M (.inl (some (.long (16 * (lN (n)) + 7)))) (ui (ul (ul (ul (ul (ul (ul (ul (ul (ui (ui (ui (ul (ui (ui M (40, 0) 0 (nI 0)) (46, 0) n (nI 9)) (47, 0) n 0) (48, 0) n (nI 0)) (49, 0) n ((-1))) (51, 0) n (nI 0)) (50, 0) ((8 * n) + 0) 0) (50, 0) ((8 * n) + 1) 0) (50, 0) ((8 * n) + 2) 0) (50, 0) ((8 * n) + 3) 0) (50, 0) ((8 * n) + 4) 0) (50, 0) ((8 * n) + 5) 0) (50, 0) ((8 * n) + 6) 0) (50, 0) ((8 * n) + 7) 0) (40, 0) 8 (nI (n + 1))) 0 := by
  refine ct_of hG okX9_array (by decide +kernel) rfl (Nat.le_of_ble_eq_true rfl) ?_
  refine x_aload_n rfl rfl rfl ?_
  refine x_aload_n rfl rfl rfl ?_
  refine x_getIv (v := nI n) hn rfl rfl f_9_121 rfl (by decide) rfl ?_
  refine x_bipush (v := nI 40) rfl rfl (by decide +kernel) ?_
  refine x_icmpN_ne (by omega) (by omega) rfl rfl (fun hc1 => ?_) (fun hc1 => absurd hc1 (by omega))
  refine x_iconstN (b := 0) rfl rfl ?_
  refine x_putI rfl rfl f_9_97 rfl rfl (by decide) rfl ?_
  refine x_aload_n rfl rfl rfl ?_
  refine x_getIv (v := nI 0) (by first | rfl | simp [ui, ul]) rfl rfl f_9_97 rfl (by decide) rfl ?_
  refine x_if_le rfl rfl (fun _ => ?_) (fun hc2 => absurd hc2 (by decide +kernel))
  refine x_aload_n rfl rfl rfl ?_
  refine x_aload_n rfl rfl rfl ?_
  refine x_bipush (v := nI 9) rfl rfl (by decide +kernel) ?_
  refine x_lconst (v := 0) rfl rfl (by decide +kernel) ?_
  refine x_iconstN (b := 0) rfl rfl ?_
  refine x_iconst (v := -1) rfl rfl (by decide +kernel) ?_
  refine x_callVi (d2 := 0) (c_mnewThing (n := n) hG (nI 9) (nI 0) ((-1)) (0) (by first | exact hn | (rw [← hn]; rfl) | simp [ui, ul, hn]) (by omega)) rfl rfl v_9_134 rfl rfl (by decide) rfl rfl (Nat.le_of_ble_eq_true rfl) (by omega) (by omega) ?_
  refine x_callVl (d2 := 0) (c_mvalueOf (i := n) hG (by omega)) rfl rfl v_9_138 rfl rfl (by decide) rfl rfl (Nat.le_of_ble_eq_true rfl) (by omega) (by omega) ?_
  exact x_retL rfl rfl rfl (by omega) rfl rfl
set_option maxHeartbeats 4000000 in
set_option maxRecDepth 20000 in
theorem c_marrayX (hG : Gok G) (hn : M.1 (40, 0) 8 = nI 40) : Ct G mX9_array d [.ref (ga G (40, 0))] M (.inl (some (.long (0)))) (ui M (40, 0) 0 (nI 1)) 0 := by
  refine ct_of hG okX9_array (by decide +kernel) rfl (Nat.le_of_ble_eq_true rfl) ?_
  refine x_aload_n rfl rfl rfl ?_
  refine x_aload_n rfl rfl rfl ?_
  refine x_getIv (v := nI 40) hn rfl rfl f_9_121 rfl (by decide) rfl ?_
  refine x_bipush (v := nI 40) rfl rfl (by decide +kernel) ?_
  refine x_icmpN_ne (by omega) (by omega) rfl rfl (fun hc1 => absurd hc1 (by omega)) (fun hc1 => ?_)
  refine x_iconstN (b := 1) rfl rfl ?_
  refine x_goto rfl rfl ?_
  refine x_putI rfl rfl f_9_97 rfl rfl (by decide) rfl ?_
  refine x_aload_n rfl rfl rfl ?_
  refine x_getIv (v := nI 1) (by first | rfl | simp [ui, ul]) rfl rfl f_9_97 rfl (by decide) rfl ?_
  refine x_if_le rfl rfl (fun hc2 => absurd hc2 (by decide +kernel)) (fun _ => ?_)
  refine x_lconst (v := 0) rfl rfl (by decide +kernel) ?_
  refine x_goto rfl rfl ?_
  exact x_retL rfl rfl rfl (by omega) rfl rfl
set_option maxHeartbeats 4000000 in
set_option maxRecDepth 20000 in
theorem c_mbytes (hG : Gok G) (hd : 1 ≤ d) (b : Int64) {m : Nat} (hm : m ≤ 8) {n : Nat} (hn : M.1 (40, 0) 8 = nI n) (hn2 : n < 40) : Ct G mX9_bytes d [.ref (ga G (40, 0)), .long (b), .int (nI m)] M (.inl (some (.long (16 * (lN (n)) + 7)))) (ui (ul (ul (ul (ul (ul (ul (ul (ul (ui (ui (ui (ul (ui (ui M (40, 0) 0 (nI 0)) (46, 0) n (nI 12)) (47, 0) n b) (48, 0) n (nI m)) (49, 0) n ((-1))) (51, 0) n (nI 0)) (50, 0) ((8 * n) + 0) 0) (50, 0) ((8 * n) + 1) 0) (50, 0) ((8 * n) + 2) 0) (50, 0) ((8 * n) + 3) 0) (50, 0) ((8 * n) + 4) 0) (50, 0) ((8 * n) + 5) 0) (50, 0) ((8 * n) + 6) 0) (50, 0) ((8 * n) + 7) 0) (40, 0) 8 (nI (n + 1))) 0 := by
  refine ct_of hG okX9_bytes (by decide +kernel) rfl (Nat.le_of_ble_eq_true rfl) ?_
  refine x_aload_n rfl rfl rfl ?_
  refine x_iload_n rfl rfl rfl ?_
  refine x_ifN_lt (by omega) rfl rfl (fun hc1 => hc1.elim) (fun hc1 => ?_)
  refine x_iload_n rfl rfl rfl ?_
  refine x_bipush (v := nI 8) rfl rfl (by decide +kernel) ?_
  refine x_icmpN_le (by omega) (by omega) rfl rfl (fun hc2 => ?_) (fun hc2 => absurd hc2 (by omega))
  refine x_aload_n rfl rfl rfl ?_
  refine x_getIv (v := nI n) hn rfl rfl f_9_121 rfl (by decide) rfl ?_
  refine x_bipush (v := nI 40) rfl rfl (by decide +kernel) ?_
  refine x_icmpN_ne (by omega) (by omega) rfl rfl (fun hc3 => ?_) (fun hc3 => absurd hc3 (by omega))
  refine x_iconstN (b := 0) rfl rfl ?_
  refine x_putI rfl rfl f_9_97 rfl rfl (by decide) rfl ?_
  refine x_aload_n rfl rfl rfl ?_
  refine x_getIv (v := nI 0) (by first | rfl | simp [ui, ul]) rfl rfl f_9_97 rfl (by decide) rfl ?_
  refine x_if_le rfl rfl (fun _ => ?_) (fun hc4 => absurd hc4 (by decide +kernel))
  refine x_aload_n rfl rfl rfl ?_
  refine x_aload_n rfl rfl rfl ?_
  refine x_bipush (v := nI 12) rfl rfl (by decide +kernel) ?_
  refine x_lload_n rfl rfl rfl ?_
  refine x_iload_n rfl rfl rfl ?_
  refine x_iconst (v := -1) rfl rfl (by decide +kernel) ?_
  refine x_callVi (d2 := 0) (c_mnewThing (n := n) hG (nI 12) (nI m) ((-1)) (b) (by first | exact hn | (rw [← hn]; rfl) | simp [ui, ul, hn]) (by omega)) rfl rfl v_9_134 rfl rfl (by decide) rfl rfl (Nat.le_of_ble_eq_true rfl) (by omega) (by omega) ?_
  refine x_callVl (d2 := 0) (c_mvalueOf (i := n) hG (by omega)) rfl rfl v_9_138 rfl rfl (by decide) rfl rfl (Nat.le_of_ble_eq_true rfl) (by omega) (by omega) ?_
  exact x_retL rfl rfl rfl (by omega) rfl rfl
set_option maxHeartbeats 4000000 in
set_option maxRecDepth 20000 in
theorem c_mbytesX (hG : Gok G) (b : Int64) {m : Nat} (hm : m ≤ 8) (hn : M.1 (40, 0) 8 = nI 40) : Ct G mX9_bytes d [.ref (ga G (40, 0)), .long (b), .int (nI m)] M (.inl (some (.long (0)))) (ui M (40, 0) 0 (nI 2)) 0 := by
  refine ct_of hG okX9_bytes (by decide +kernel) rfl (Nat.le_of_ble_eq_true rfl) ?_
  refine x_aload_n rfl rfl rfl ?_
  refine x_iload_n rfl rfl rfl ?_
  refine x_ifN_lt (by omega) rfl rfl (fun hc1 => hc1.elim) (fun hc1 => ?_)
  refine x_iload_n rfl rfl rfl ?_
  refine x_bipush (v := nI 8) rfl rfl (by decide +kernel) ?_
  refine x_icmpN_le (by omega) (by omega) rfl rfl (fun hc2 => ?_) (fun hc2 => absurd hc2 (by omega))
  refine x_aload_n rfl rfl rfl ?_
  refine x_getIv (v := nI 40) hn rfl rfl f_9_121 rfl (by decide) rfl ?_
  refine x_bipush (v := nI 40) rfl rfl (by decide +kernel) ?_
  refine x_icmpN_ne (by omega) (by omega) rfl rfl (fun hc3 => absurd hc3 (by omega)) (fun hc3 => ?_)
  refine x_iconstN (b := 2) rfl rfl ?_
  refine x_goto rfl rfl ?_
  refine x_putI rfl rfl f_9_97 rfl rfl (by decide) rfl ?_
  refine x_aload_n rfl rfl rfl ?_
  refine x_getIv (v := nI 2) (by first | rfl | simp [ui, ul]) rfl rfl f_9_97 rfl (by decide) rfl ?_
  refine x_if_le rfl rfl (fun hc4 => absurd hc4 (by decide +kernel)) (fun _ => ?_)
  refine x_lconst (v := 0) rfl rfl (by decide +kernel) ?_
  refine x_goto rfl rfl ?_
  exact x_retL rfl rfl rfl (by omega) rfl rfl
set_option maxHeartbeats 4000000 in
set_option maxRecDepth 20000 in
theorem c_mbytesN (hG : Gok G) (b : Int64) {m : Int32} (hm : m < 0) : Ct G mX9_bytes d [.ref (ga G (40, 0)), .long (b), .int (m)] M (.inl (some (.long (0)))) (ui M (40, 0) 0 (nI 1)) 0 := by
  refine ct_of hG okX9_bytes (by decide +kernel) rfl (Nat.le_of_ble_eq_true rfl) ?_
  refine x_aload_n rfl rfl rfl ?_
  refine x_iload_n rfl rfl rfl ?_
  refine x_if_lt rfl rfl (fun hc1 => ?_) (fun hc1 => absurd hm hc1)
  refine x_iconstN (b := 1) rfl rfl ?_
  refine x_goto rfl rfl ?_
  refine x_putI rfl rfl f_9_97 rfl rfl (by decide) rfl ?_
  refine x_aload_n rfl rfl rfl ?_
  refine x_getIv (v := nI 1) (by first | rfl | simp [ui, ul]) rfl rfl f_9_97 rfl (by decide) rfl ?_
  refine x_if_le rfl rfl (fun hc2 => absurd hc2 (by decide +kernel)) (fun _ => ?_)
  refine x_lconst (v := 0) rfl rfl (by decide +kernel) ?_
  refine x_goto rfl rfl ?_
  exact x_retL rfl rfl rfl (by omega) rfl rfl
set_option maxHeartbeats 4000000 in
set_option maxRecDepth 20000 in
theorem c_mbytesO (hG : Gok G) (b : Int64) {m : Nat} (hm : 8 < m) (hm2 : m < 2 ^ 31) : Ct G mX9_bytes d [.ref (ga G (40, 0)), .long (b), .int (nI m)] M (.inl (some (.long (0)))) (ui M (40, 0) 0 (nI 1)) 0 := by
  refine ct_of hG okX9_bytes (by decide +kernel) rfl (Nat.le_of_ble_eq_true rfl) ?_
  refine x_aload_n rfl rfl rfl ?_
  refine x_iload_n rfl rfl rfl ?_
  refine x_ifN_lt (by omega) rfl rfl (fun hc1 => hc1.elim) (fun hc1 => ?_)
  refine x_iload_n rfl rfl rfl ?_
  refine x_bipush (v := nI 8) rfl rfl (by decide +kernel) ?_
  refine x_icmpN_le (by omega) (by omega) rfl rfl (fun hc2 => absurd hc2 (by omega)) (fun hc2 => ?_)
  refine x_iconstN (b := 1) rfl rfl ?_
  refine x_goto rfl rfl ?_
  refine x_putI rfl rfl f_9_97 rfl rfl (by decide) rfl ?_
  refine x_aload_n rfl rfl rfl ?_
  refine x_getIv (v := nI 1) (by first | rfl | simp [ui, ul]) rfl rfl f_9_97 rfl (by decide) rfl ?_
  refine x_if_le rfl rfl (fun hc3 => absurd hc3 (by decide +kernel)) (fun _ => ?_)
  refine x_lconst (v := 0) rfl rfl (by decide +kernel) ?_
  refine x_goto rfl rfl ?_
  exact x_retL rfl rfl rfl (by omega) rfl rfl
set_option maxHeartbeats 4000000 in
set_option maxRecDepth 20000 in
theorem c_mobject (hG : Gok G) (hd : 1 ≤ d) {n : Nat} (hn : M.1 (40, 0) 8 = nI n) (hn2 : n < 40) {tn : Nat} (htn : M.1 (40, 0) 3 = nI tn) (htn2 : tn ≤ 12) {t m : Nat} (ht : t < tn) (hm : M.1 (44, 0) t = nI m) : Ct G mX9_object d [.ref (ga G (40, 0)), .int (nI t)] M (.inl (some (.long (16 * (lN (n)) + 7)))) (ui (ul (ul (ul (ul (ul (ul (ul (ul (ui (ui (ui (ul (ui (ui M (40, 0) 0 (nI 0)) (46, 0) n (nI 10)) (47, 0) n 0) (48, 0) n (nI m)) (49, 0) n (nI t)) (51, 0) n (nI 0)) (50, 0) ((8 * n) + 0) 0) (50, 0) ((8 * n) + 1) 0) (50, 0) ((8 * n) + 2) 0) (50, 0) ((8 * n) + 3) 0) (50, 0) ((8 * n) + 4) 0) (50, 0) ((8 * n) + 5) 0) (50, 0) ((8 * n) + 6) 0) (50, 0) ((8 * n) + 7) 0) (40, 0) 8 (nI (n + 1))) 0 := by
  refine ct_of hG okX9_object (by decide +kernel) rfl (Nat.le_of_ble_eq_true rfl) ?_
  refine x_iload_n rfl rfl rfl ?_
  refine x_ifN_lt (by omega) rfl rfl (fun hc1 => hc1.elim) (fun hc1 => ?_)
  refine x_iload_n rfl rfl rfl ?_
  refine x_aload_n rfl rfl rfl ?_
  refine x_getIv (v := nI tn) htn rfl rfl f_9_142 rfl (by decide) rfl ?_
  refine x_icmpN_ge (by omega) (by omega) rfl rfl (fun hc2 => absurd hc2 (by omega)) (fun hc2 => ?_)
  refine x_iconstN (b := 1) rfl rfl ?_
  refine x_goto rfl rfl ?_
  refine x_istore_n rfl rfl rfl rfl ?_
  refine x_aload_n rfl rfl rfl ?_
  refine x_iload_n rfl rfl rfl ?_
  refine x_if_ne rfl rfl (fun _ => ?_) (fun hc3 => absurd hc3 (by decide +kernel))
  refine x_aload_n rfl rfl rfl ?_
  refine x_getIv (v := nI n) hn rfl rfl f_9_121 rfl (by decide) rfl ?_
  refine x_bipush (v := nI 40) rfl rfl (by decide +kernel) ?_
  refine x_icmpN_ne (by omega) (by omega) rfl rfl (fun hc4 => ?_) (fun hc4 => absurd hc4 (by omega))
  refine x_iconstN (b := 0) rfl rfl ?_
  refine x_putI rfl rfl f_9_97 rfl rfl (by decide) rfl ?_
  refine x_aload_n rfl rfl rfl ?_
  refine x_getIv (v := nI 0) (by first | rfl | simp [ui, ul]) rfl rfl f_9_97 rfl (by decide) rfl ?_
  refine x_if_le rfl rfl (fun _ => ?_) (fun hc5 => absurd hc5 (by decide +kernel))
  refine x_aload_n rfl rfl rfl ?_
  refine x_aload_n rfl rfl rfl ?_
  refine x_bipush (v := nI 10) rfl rfl (by decide +kernel) ?_
  refine x_lconst (v := 0) rfl rfl (by decide +kernel) ?_
  refine x_aload_n rfl rfl rfl ?_
  refine x_getR0 rfl rfl f_9_20 rfl (by decide) rfl rfl ?_
  refine x_iload_n rfl rfl rfl ?_
  refine x_ialdv (a := t) (v := nI m) (by first | exact hm | (rw [← hm]; rfl) | simp [ui, ul, hm]) rfl rfl rfl (by decide) (by omega) (by decide) ?_
  refine x_iload_n rfl rfl rfl ?_
  refine x_callVi (d2 := 0) (c_mnewThing (n := n) hG (nI 10) (nI m) (nI t) (0) (by first | exact hn | (rw [← hn]; rfl) | simp [ui, ul, hn]) (by omega)) rfl rfl v_9_134 rfl rfl (by decide) rfl rfl (Nat.le_of_ble_eq_true rfl) (by omega) (by omega) ?_
  refine x_callVl (d2 := 0) (c_mvalueOf (i := n) hG (by omega)) rfl rfl v_9_138 rfl rfl (by decide) rfl rfl (Nat.le_of_ble_eq_true rfl) (by omega) (by omega) ?_
  exact x_retL rfl rfl rfl (by omega) rfl rfl
set_option maxHeartbeats 4000000 in
set_option maxRecDepth 20000 in
theorem c_mobjectX (hG : Gok G) (hn : M.1 (40, 0) 8 = nI 40) {tn : Nat} (htn : M.1 (40, 0) 3 = nI tn) (htn2 : tn ≤ 12) {t : Nat} (ht : t < tn) : Ct G mX9_object d [.ref (ga G (40, 0)), .int (nI t)] M (.inl (some (.long (0)))) (ui M (40, 0) 0 (nI 2)) 0 := by
  refine ct_of hG okX9_object (by decide +kernel) rfl (Nat.le_of_ble_eq_true rfl) ?_
  refine x_iload_n rfl rfl rfl ?_
  refine x_ifN_lt (by omega) rfl rfl (fun hc1 => hc1.elim) (fun hc1 => ?_)
  refine x_iload_n rfl rfl rfl ?_
  refine x_aload_n rfl rfl rfl ?_
  refine x_getIv (v := nI tn) htn rfl rfl f_9_142 rfl (by decide) rfl ?_
  refine x_icmpN_ge (by omega) (by omega) rfl rfl (fun hc2 => absurd hc2 (by omega)) (fun hc2 => ?_)
  refine x_iconstN (b := 1) rfl rfl ?_
  refine x_goto rfl rfl ?_
  refine x_istore_n rfl rfl rfl rfl ?_
  refine x_aload_n rfl rfl rfl ?_
  refine x_iload_n rfl rfl rfl ?_
  refine x_if_ne rfl rfl (fun _ => ?_) (fun hc3 => absurd hc3 (by decide +kernel))
  refine x_aload_n rfl rfl rfl ?_
  refine x_getIv (v := nI 40) hn rfl rfl f_9_121 rfl (by decide) rfl ?_
  refine x_bipush (v := nI 40) rfl rfl (by decide +kernel) ?_
  refine x_icmpN_ne (by omega) (by omega) rfl rfl (fun hc4 => absurd hc4 (by omega)) (fun hc4 => ?_)
  refine x_iconstN (b := 2) rfl rfl ?_
  refine x_goto rfl rfl ?_
  refine x_putI rfl rfl f_9_97 rfl rfl (by decide) rfl ?_
  refine x_aload_n rfl rfl rfl ?_
  refine x_getIv (v := nI 2) (by first | rfl | simp [ui, ul]) rfl rfl f_9_97 rfl (by decide) rfl ?_
  refine x_if_le rfl rfl (fun hc5 => absurd hc5 (by decide +kernel)) (fun _ => ?_)
  refine x_lconst (v := 0) rfl rfl (by decide +kernel) ?_
  refine x_goto rfl rfl ?_
  exact x_retL rfl rfl rfl (by omega) rfl rfl
set_option maxHeartbeats 4000000 in
set_option maxRecDepth 20000 in
theorem c_mobjectN (hG : Gok G) {t : Int32} (ht : t < 0) : Ct G mX9_object d [.ref (ga G (40, 0)), .int (t)] M (.inl (some (.long (0)))) (ui M (40, 0) 0 (nI 1)) 0 := by
  refine ct_of hG okX9_object (by decide +kernel) rfl (Nat.le_of_ble_eq_true rfl) ?_
  refine x_iload_n rfl rfl rfl ?_
  refine x_if_lt rfl rfl (fun hc1 => ?_) (fun hc1 => absurd ht hc1)
  refine x_iconstN (b := 0) rfl rfl ?_
  refine x_istore_n rfl rfl rfl rfl ?_
  refine x_aload_n rfl rfl rfl ?_
  refine x_iload_n rfl rfl rfl ?_
  refine x_if_ne rfl rfl (fun hc2 => absurd hc2 (by decide +kernel)) (fun _ => ?_)
  refine x_iconstN (b := 1) rfl rfl ?_
  refine x_goto rfl rfl ?_
  refine x_putI rfl rfl f_9_97 rfl rfl (by decide) rfl ?_
  refine x_aload_n rfl rfl rfl ?_
  refine x_getIv (v := nI 1) (by first | rfl | simp [ui, ul]) rfl rfl f_9_97 rfl (by decide) rfl ?_
  refine x_if_le rfl rfl (fun hc3 => absurd hc3 (by decide +kernel)) (fun _ => ?_)
  refine x_lconst (v := 0) rfl rfl (by decide +kernel) ?_
  refine x_goto rfl rfl ?_
  exact x_retL rfl rfl rfl (by omega) rfl rfl
set_option maxHeartbeats 4000000 in
set_option maxRecDepth 20000 in
theorem c_mobjectO (hG : Gok G) {tn : Nat} (htn : M.1 (40, 0) 3 = nI tn) (htn2 : tn ≤ 12) {t : Nat} (ht : tn ≤ t) (ht2 : t < 2 ^ 31) : Ct G mX9_object d [.ref (ga G (40, 0)), .int (nI t)] M (.inl (some (.long (0)))) (ui M (40, 0) 0 (nI 1)) 0 := by
  refine ct_of hG okX9_object (by decide +kernel) rfl (Nat.le_of_ble_eq_true rfl) ?_
  refine x_iload_n rfl rfl rfl ?_
  refine x_ifN_lt (by omega) rfl rfl (fun hc1 => hc1.elim) (fun hc1 => ?_)
  refine x_iload_n rfl rfl rfl ?_
  refine x_aload_n rfl rfl rfl ?_
  refine x_getIv (v := nI tn) htn rfl rfl f_9_142 rfl (by decide) rfl ?_
  refine x_icmpN_ge (by omega) (by omega) rfl rfl (fun hc2 => ?_) (fun hc2 => absurd hc2 (by omega))
  refine x_iconstN (b := 0) rfl rfl ?_
  refine x_istore_n rfl rfl rfl rfl ?_
  refine x_aload_n rfl rfl rfl ?_
  refine x_iload_n rfl rfl rfl ?_
  refine x_if_ne rfl rfl (fun hc3 => absurd hc3 (by decide +kernel)) (fun _ => ?_)
  refine x_iconstN (b := 1) rfl rfl ?_
  refine x_goto rfl rfl ?_
  refine x_putI rfl rfl f_9_97 rfl rfl (by decide) rfl ?_
  refine x_aload_n rfl rfl rfl ?_
  refine x_getIv (v := nI 1) (by first | rfl | simp [ui, ul]) rfl rfl f_9_97 rfl (by decide) rfl ?_
  refine x_if_le rfl rfl (fun hc4 => absurd hc4 (by decide +kernel)) (fun _ => ?_)
  refine x_lconst (v := 0) rfl rfl (by decide +kernel) ?_
  refine x_goto rfl rfl ?_
  exact x_retL rfl rfl rfl (by omega) rfl rfl
set_option maxHeartbeats 4000000 in
set_option maxRecDepth 20000 in
theorem c_mthings (hG : Gok G) {n : Nat} (hn : M.1 (40, 0) 8 = nI n) (hn2 : n ≤ 40) : Ct G mX9_things d [.ref (ga G (40, 0))] M (.inl (some (.int (nI n)))) (ui M (40, 0) 0 (nI 0)) 0 := by
  refine ct_of hG okX9_things (by decide +kernel) rfl (Nat.le_of_ble_eq_true rfl) ?_
  refine x_aload_n rfl rfl rfl ?_
  refine x_iconstN (b := 0) rfl rfl ?_
  refine x_putI rfl rfl f_9_97 rfl rfl (by decide) rfl ?_
  refine x_aload_n rfl rfl rfl ?_
  refine x_getIv (v := nI n) (by first | exact hn | (rw [← hn]; rfl) | simp [ui, ul, hn]) rfl rfl f_9_121 rfl (by decide) rfl ?_
  exact x_retI rfl rfl rfl (by omega) rfl rfl
set_option maxHeartbeats 4000000 in
set_option maxRecDepth 20000 in
theorem c_msize (hG : Gok G) {rn : Nat} (hr : M.1 (40, 0) 19 = nI rn) (hr2 : rn ≤ 600) : Ct G mX9_size d [.ref (ga G (40, 0))] M (.inl (some (.int (nI rn)))) (ui M (40, 0) 0 (nI 0)) 0 := by
  refine ct_of hG okX9_size (by decide +kernel) rfl (Nat.le_of_ble_eq_true rfl) ?_
  refine x_aload_n rfl rfl rfl ?_
  refine x_iconstN (b := 0) rfl rfl ?_
  refine x_putI rfl rfl f_9_97 rfl rfl (by decide) rfl ?_
  refine x_aload_n rfl rfl rfl ?_
  refine x_getIv (v := nI rn) (by first | exact hr | (rw [← hr]; rfl) | simp [ui, ul, hr]) rfl rfl f_9_232 rfl (by decide) rfl ?_
  exact x_retI rfl rfl rfl (by omega) rfl rfl
set_option maxHeartbeats 4000000 in
set_option maxRecDepth 20000 in
theorem c_mfault (hG : Gok G) : Ct G mX9_fault d [.ref (ga G (40, 0))] M (.inl (some (.int (M.1 (40, 0) 21)))) (ui M (40, 0) 0 (nI 0)) 0 := by
  refine ct_of hG okX9_fault (by decide +kernel) rfl (Nat.le_of_ble_eq_true rfl) ?_
  refine x_aload_n rfl rfl rfl ?_
  refine x_iconstN (b := 0) rfl rfl ?_
  refine x_putI rfl rfl f_9_97 rfl rfl (by decide) rfl ?_
  refine x_aload_n rfl rfl rfl ?_
  refine x_getIv (v := M.1 (40, 0) 21) (by first | rfl | simp [ui, ul]) rfl rfl f_9_90 rfl (by decide) rfl ?_
  exact x_retI rfl rfl rfl (by omega) rfl rfl
set_option maxHeartbeats 4000000 in
set_option maxRecDepth 20000 in
theorem c_mthrown (hG : Gok G) : Ct G mX9_thrown d [.ref (ga G (40, 0))] M (.inl (some (.int (M.1 (40, 0) 0)))) M 0 := by
  refine ct_of hG okX9_thrown (by decide +kernel) rfl (Nat.le_of_ble_eq_true rfl) ?_
  refine x_aload_n rfl rfl rfl ?_
  refine x_getI rfl rfl f_9_97 rfl (by decide) rfl ?_
  exact x_retI rfl rfl rfl (by omega) rfl rfl
set_option maxHeartbeats 4000000 in
set_option maxRecDepth 20000 in
theorem c_mclear (hG : Gok G) : Ct G mX9_clear d [.ref (ga G (40, 0))] M (.inl none) (ui (ui (ui (ui M (40, 0) 0 (nI 0)) (40, 0) 1 (nI 0)) (40, 0) 3 (nI 0)) (40, 0) 8 (nI 0)) 0 := by
  refine ct_of hG okX9_clear (by decide +kernel) rfl (Nat.le_of_ble_eq_true rfl) ?_
  refine x_aload_n rfl rfl rfl ?_
  refine x_iconstN (b := 0) rfl rfl ?_
  refine x_putI rfl rfl f_9_97 rfl rfl (by decide) rfl ?_
  refine x_aload_n rfl rfl rfl ?_
  refine x_iconstN (b := 0) rfl rfl ?_
  refine x_putI rfl rfl f_9_114 rfl rfl (by decide) rfl ?_
  refine x_aload_n rfl rfl rfl ?_
  refine x_iconstN (b := 0) rfl rfl ?_
  refine x_putI rfl rfl f_9_142 rfl rfl (by decide) rfl ?_
  refine x_aload_n rfl rfl rfl ?_
  refine x_iconstN (b := 0) rfl rfl ?_
  refine x_putI rfl rfl f_9_121 rfl rfl (by decide) rfl ?_
  exact x_retV rfl rfl rfl (by omega) rfl rfl
set_option maxHeartbeats 4000000 in
set_option maxRecDepth 20000 in
theorem c_mbyteAt (hG : Gok G) {rn : Nat} (hr : M.1 (40, 0) 19 = nI rn) (hr2 : rn ≤ 600) {j : Nat} (hj : j < rn) : Ct G mX9_byteAt d [.ref (ga G (40, 0)), .int (nI j)] M (.inl (some (.int (M.1 (55, 0) j)))) (ui M (40, 0) 0 (nI 0)) 0 := by
  refine ct_of hG okX9_byteAt (by decide +kernel) rfl (Nat.le_of_ble_eq_true rfl) ?_
  refine x_aload_n rfl rfl rfl ?_
  refine x_iconstN (b := 0) rfl rfl ?_
  refine x_putI rfl rfl f_9_97 rfl rfl (by decide) rfl ?_
  refine x_iload_n rfl rfl rfl ?_
  refine x_ifN_lt (by omega) rfl rfl (fun hc1 => hc1.elim) (fun hc1 => ?_)
  refine x_iload_n rfl rfl rfl ?_
  refine x_aload_n rfl rfl rfl ?_
  refine x_getIv (v := nI rn) (by first | exact hr | (rw [← hr]; rfl) | simp [ui, ul, hr]) rfl rfl f_9_232 rfl (by decide) rfl ?_
  refine x_icmpN_ge (by omega) (by omega) rfl rfl (fun hc2 => absurd hc2 (by omega)) (fun hc2 => ?_)
  refine x_aload_n rfl rfl rfl ?_
  refine x_getR0 rfl rfl f_9_54 rfl (by decide) rfl rfl ?_
  refine x_iload_n rfl rfl rfl ?_
  refine x_ialdv (a := j) (v := M.1 (55, 0) j) (by first | rfl | simp [ui, ul]) rfl rfl rfl (by decide) (by omega) (by decide) ?_
  refine x_goto rfl rfl ?_
  exact x_retI rfl rfl rfl (by omega) rfl rfl
set_option maxHeartbeats 4000000 in
set_option maxRecDepth 20000 in
theorem c_mbyteAtO (hG : Gok G) {rn : Nat} (hr : M.1 (40, 0) 19 = nI rn) (hr2 : rn ≤ 600) {j : Nat} (hj : rn ≤ j) (hj2 : j < 2 ^ 31) : Ct G mX9_byteAt d [.ref (ga G (40, 0)), .int (nI j)] M (.inl (some (.int ((-1))))) (ui M (40, 0) 0 (nI 0)) 0 := by
  refine ct_of hG okX9_byteAt (by decide +kernel) rfl (Nat.le_of_ble_eq_true rfl) ?_
  refine x_aload_n rfl rfl rfl ?_
  refine x_iconstN (b := 0) rfl rfl ?_
  refine x_putI rfl rfl f_9_97 rfl rfl (by decide) rfl ?_
  refine x_iload_n rfl rfl rfl ?_
  refine x_ifN_lt (by omega) rfl rfl (fun hc1 => hc1.elim) (fun hc1 => ?_)
  refine x_iload_n rfl rfl rfl ?_
  refine x_aload_n rfl rfl rfl ?_
  refine x_getIv (v := nI rn) (by first | exact hr | (rw [← hr]; rfl) | simp [ui, ul, hr]) rfl rfl f_9_232 rfl (by decide) rfl ?_
  refine x_icmpN_ge (by omega) (by omega) rfl rfl (fun hc2 => ?_) (fun hc2 => absurd hc2 (by omega))
  refine x_iconst (v := -1) rfl rfl (by decide +kernel) ?_
  exact x_retI rfl rfl rfl (by omega) rfl rfl
set_option maxHeartbeats 4000000 in
set_option maxRecDepth 20000 in
theorem c_mbyteAtN (hG : Gok G) {i : Int32} (hi : i < 0) : Ct G mX9_byteAt d [.ref (ga G (40, 0)), .int (i)] M (.inl (some (.int ((-1))))) (ui M (40, 0) 0 (nI 0)) 0 := by
  refine ct_of hG okX9_byteAt (by decide +kernel) rfl (Nat.le_of_ble_eq_true rfl) ?_
  refine x_aload_n rfl rfl rfl ?_
  refine x_iconstN (b := 0) rfl rfl ?_
  refine x_putI rfl rfl f_9_97 rfl rfl (by decide) rfl ?_
  refine x_iload_n rfl rfl rfl ?_
  refine x_if_lt rfl rfl (fun hc1 => ?_) (fun hc1 => absurd hi hc1)
  refine x_iconst (v := -1) rfl rfl (by decide +kernel) ?_
  exact x_retI rfl rfl rfl (by omega) rfl rfl
set_option maxHeartbeats 4000000 in
set_option maxRecDepth 20000 in
theorem c_mbits (hG : Gok G) {w : Nat} (hw : M.1 (40, 0) 1 = nI w) (hw2 : w ≤ 40) {k : Nat} (hk : k < w) : Ct G mX9_bits d [.ref (ga G (40, 0)), .int (nI k)] M (.inl (some (.long (M.2 (41, 0) k)))) (ui M (40, 0) 0 (nI 0)) 0 := by
  refine ct_of hG okX9_bits (by decide +kernel) rfl (Nat.le_of_ble_eq_true rfl) ?_
  refine x_aload_n rfl rfl rfl ?_
  refine x_iconstN (b := 0) rfl rfl ?_
  refine x_putI rfl rfl f_9_97 rfl rfl (by decide) rfl ?_
  refine x_iload_n rfl rfl rfl ?_
  refine x_ifN_lt (by omega) rfl rfl (fun hc1 => hc1.elim) (fun hc1 => ?_)
  refine x_iload_n rfl rfl rfl ?_
  refine x_aload_n rfl rfl rfl ?_
  refine x_getIv (v := nI w) (by first | exact hw | (rw [← hw]; rfl) | simp [ui, ul, hw]) rfl rfl f_9_114 rfl (by decide) rfl ?_
  refine x_icmpN_ge (by omega) (by omega) rfl rfl (fun hc2 => absurd hc2 (by omega)) (fun hc2 => ?_)
  refine x_aload_n rfl rfl rfl ?_
  refine x_getR0 rfl rfl f_9_7 rfl (by decide) rfl rfl ?_
  refine x_iload_n rfl rfl rfl ?_
  refine x_laldv (a := k) (v := M.2 (41, 0) k) (by first | rfl | simp [ui, ul]) rfl rfl rfl (by decide) (by omega) (by decide) ?_
  refine x_goto rfl rfl ?_
  exact x_retL rfl rfl rfl (by omega) rfl rfl
set_option maxHeartbeats 4000000 in
set_option maxRecDepth 20000 in
theorem c_mbitsO (hG : Gok G) {w : Nat} (hw : M.1 (40, 0) 1 = nI w) (hw2 : w ≤ 40) {k : Nat} (hk : w ≤ k) (hk2 : k < 2 ^ 31) : Ct G mX9_bits d [.ref (ga G (40, 0)), .int (nI k)] M (.inl (some (.long (0)))) (ui M (40, 0) 0 (nI 0)) 0 := by
  refine ct_of hG okX9_bits (by decide +kernel) rfl (Nat.le_of_ble_eq_true rfl) ?_
  refine x_aload_n rfl rfl rfl ?_
  refine x_iconstN (b := 0) rfl rfl ?_
  refine x_putI rfl rfl f_9_97 rfl rfl (by decide) rfl ?_
  refine x_iload_n rfl rfl rfl ?_
  refine x_ifN_lt (by omega) rfl rfl (fun hc1 => hc1.elim) (fun hc1 => ?_)
  refine x_iload_n rfl rfl rfl ?_
  refine x_aload_n rfl rfl rfl ?_
  refine x_getIv (v := nI w) (by first | exact hw | (rw [← hw]; rfl) | simp [ui, ul, hw]) rfl rfl f_9_114 rfl (by decide) rfl ?_
  refine x_icmpN_ge (by omega) (by omega) rfl rfl (fun hc2 => ?_) (fun hc2 => absurd hc2 (by omega))
  refine x_lconst (v := 0) rfl rfl (by decide +kernel) ?_
  exact x_retL rfl rfl rfl (by omega) rfl rfl
set_option maxHeartbeats 4000000 in
set_option maxRecDepth 20000 in
theorem c_mbitsN (hG : Gok G) {i : Int32} (hi : i < 0) : Ct G mX9_bits d [.ref (ga G (40, 0)), .int (i)] M (.inl (some (.long (0)))) (ui M (40, 0) 0 (nI 0)) 0 := by
  refine ct_of hG okX9_bits (by decide +kernel) rfl (Nat.le_of_ble_eq_true rfl) ?_
  refine x_aload_n rfl rfl rfl ?_
  refine x_iconstN (b := 0) rfl rfl ?_
  refine x_putI rfl rfl f_9_97 rfl rfl (by decide) rfl ?_
  refine x_iload_n rfl rfl rfl ?_
  refine x_if_lt rfl rfl (fun hc1 => ?_) (fun hc1 => absurd hi hc1)
  refine x_lconst (v := 0) rfl rfl (by decide +kernel) ?_
  exact x_retL rfl rfl rfl (by omega) rfl rfl
set_option maxHeartbeats 4000000 in
set_option maxRecDepth 20000 in
theorem c_mcut (hG : Gok G) {rn : Nat} (hr : M.1 (40, 0) 19 = nI rn) (hr2 : rn ≤ 600) {j : Nat} (hj : j ≤ rn) : Ct G mX9_cut d [.ref (ga G (40, 0)), .int (nI j)] M (.inl (some (.int (nI 1)))) (ui (ui M (40, 0) 0 (nI 0)) (40, 0) 19 (nI j)) 0 := by
  refine ct_of hG okX9_cut (by decide +kernel) rfl (Nat.le_of_ble_eq_true rfl) ?_
  refine x_aload_n rfl rfl rfl ?_
  refine x_iconstN (b := 0) rfl rfl ?_
  refine x_putI rfl rfl f_9_97 rfl rfl (by decide) rfl ?_
  refine x_iload_n rfl rfl rfl ?_
  refine x_ifN_lt (by omega) rfl rfl (fun hc1 => hc1.elim) (fun hc1 => ?_)
  refine x_iload_n rfl rfl rfl ?_
  refine x_aload_n rfl rfl rfl ?_
  refine x_getIv (v := nI rn) (by first | exact hr | (rw [← hr]; rfl) | simp [ui, ul, hr]) rfl rfl f_9_232 rfl (by decide) rfl ?_
  refine x_icmpN_le (by omega) (by omega) rfl rfl (fun hc2 => ?_) (fun hc2 => absurd hc2 (by omega))
  refine x_aload_n rfl rfl rfl ?_
  refine x_iload_n rfl rfl rfl ?_
  refine x_putI rfl rfl f_9_232 rfl rfl (by decide) rfl ?_
  refine x_iconstN (b := 1) rfl rfl ?_
  exact x_retZ rfl rfl rfl (by first | exact Or.inl rfl | exact Or.inr rfl) (by omega) rfl rfl
set_option maxHeartbeats 4000000 in
set_option maxRecDepth 20000 in
theorem c_mcutO (hG : Gok G) {rn : Nat} (hr : M.1 (40, 0) 19 = nI rn) (hr2 : rn ≤ 600) {j : Nat} (hj : rn < j) (hj2 : j < 2 ^ 31) : Ct G mX9_cut d [.ref (ga G (40, 0)), .int (nI j)] M (.inl (some (.int (nI 0)))) (ui M (40, 0) 0 (nI 0)) 0 := by
  refine ct_of hG okX9_cut (by decide +kernel) rfl (Nat.le_of_ble_eq_true rfl) ?_
  refine x_aload_n rfl rfl rfl ?_
  refine x_iconstN (b := 0) rfl rfl ?_
  refine x_putI rfl rfl f_9_97 rfl rfl (by decide) rfl ?_
  refine x_iload_n rfl rfl rfl ?_
  refine x_ifN_lt (by omega) rfl rfl (fun hc1 => hc1.elim) (fun hc1 => ?_)
  refine x_iload_n rfl rfl rfl ?_
  refine x_aload_n rfl rfl rfl ?_
  refine x_getIv (v := nI rn) (by first | exact hr | (rw [← hr]; rfl) | simp [ui, ul, hr]) rfl rfl f_9_232 rfl (by decide) rfl ?_
  refine x_icmpN_le (by omega) (by omega) rfl rfl (fun hc2 => absurd hc2 (by omega)) (fun hc2 => ?_)
  refine x_iconstN (b := 0) rfl rfl ?_
  exact x_retZ rfl rfl rfl (by first | exact Or.inl rfl | exact Or.inr rfl) (by omega) rfl rfl
set_option maxHeartbeats 4000000 in
set_option maxRecDepth 20000 in
theorem c_mcutN (hG : Gok G) {i : Int32} (hi : i < 0) : Ct G mX9_cut d [.ref (ga G (40, 0)), .int (i)] M (.inl (some (.int (nI 0)))) (ui M (40, 0) 0 (nI 0)) 0 := by
  refine ct_of hG okX9_cut (by decide +kernel) rfl (Nat.le_of_ble_eq_true rfl) ?_
  refine x_aload_n rfl rfl rfl ?_
  refine x_iconstN (b := 0) rfl rfl ?_
  refine x_putI rfl rfl f_9_97 rfl rfl (by decide) rfl ?_
  refine x_iload_n rfl rfl rfl ?_
  refine x_if_lt rfl rfl (fun hc1 => ?_) (fun hc1 => absurd hi hc1)
  refine x_iconstN (b := 0) rfl rfl ?_
  exact x_retZ rfl rfl rfl (by first | exact Or.inl rfl | exact Or.inr rfl) (by omega) rfl rfl
set_option maxHeartbeats 4000000 in
set_option maxRecDepth 20000 in
theorem c_malter (hG : Gok G) {rn : Nat} (hr : M.1 (40, 0) 19 = nI rn) (hr2 : rn ≤ 600) {j x : Nat} (hj : j < rn) (hx : x ≤ 255) : Ct G mX9_alter d [.ref (ga G (40, 0)), .int (nI j), .int (nI x)] M (.inl (some (.int (nI 1)))) (ui (ui (ui M (40, 0) 0 (nI 0)) (55, 0) j (nI x)) (40, 0) 19 (nI rn)) 0 := by
  refine ct_of hG okX9_alter (by decide +kernel) rfl (Nat.le_of_ble_eq_true rfl) ?_
  refine x_aload_n rfl rfl rfl ?_
  refine x_iconstN (b := 0) rfl rfl ?_
  refine x_putI rfl rfl f_9_97 rfl rfl (by decide) rfl ?_
  refine x_iload_n rfl rfl rfl ?_
  refine x_ifN_lt (by omega) rfl rfl (fun hc1 => hc1.elim) (fun hc1 => ?_)
  refine x_iload_n rfl rfl rfl ?_
  refine x_aload_n rfl rfl rfl ?_
  refine x_getIv (v := nI rn) (by first | exact hr | (rw [← hr]; rfl) | simp [ui, ul, hr]) rfl rfl f_9_232 rfl (by decide) rfl ?_
  refine x_icmpN_gt (by omega) (by omega) rfl rfl (fun hc2 => absurd hc2 (by omega)) (fun hc2 => ?_)
  refine x_iload_n rfl rfl rfl ?_
  refine x_sipush (v := nI 600) rfl rfl (by decide +kernel) ?_
  refine x_icmpN_eq (by omega) (by omega) rfl rfl (fun hc3 => absurd hc3 (by omega)) (fun hc3 => ?_)
  refine x_iload_n rfl rfl rfl ?_
  refine x_ifN_lt (by omega) rfl rfl (fun hc4 => hc4.elim) (fun hc4 => ?_)
  refine x_iload_n rfl rfl rfl ?_
  refine x_sipush (v := nI 255) rfl rfl (by decide +kernel) ?_
  refine x_icmpN_le (by omega) (by omega) rfl rfl (fun hc5 => ?_) (fun hc5 => absurd hc5 (by omega))
  refine x_aload_n rfl rfl rfl ?_
  refine x_getR0 rfl rfl f_9_54 rfl (by decide) rfl rfl ?_
  refine x_iload_n rfl rfl rfl ?_
  refine x_iload_n rfl rfl rfl ?_
  refine x_iast (a := j) rfl rfl rfl (by decide) (by omega) (by decide) ?_
  refine x_aload_n rfl rfl rfl ?_
  refine x_iload_n rfl rfl rfl ?_
  refine x_aload_n rfl rfl rfl ?_
  refine x_getIv (v := nI rn) (by first | exact hr | (rw [← hr]; rfl) | simp [ui, ul, hr]) rfl rfl f_9_232 rfl (by decide) rfl ?_
  refine x_icmpN_ne (by omega) (by omega) rfl rfl (fun hc6 => ?_) (fun hc6 => absurd hc6 (by omega))
  refine x_aload_n rfl rfl rfl ?_
  refine x_getIv (v := nI rn) (by first | exact hr | (rw [← hr]; rfl) | simp [ui, ul, hr]) rfl rfl f_9_232 rfl (by decide) rfl ?_
  refine x_putI rfl rfl f_9_232 rfl rfl (by decide) rfl ?_
  refine x_iconstN (b := 1) rfl rfl ?_
  exact x_retZ rfl rfl rfl (by first | exact Or.inl rfl | exact Or.inr rfl) (by omega) rfl rfl
set_option maxHeartbeats 4000000 in
set_option maxRecDepth 20000 in
theorem c_malterE (hG : Gok G) {rn : Nat} (hr : M.1 (40, 0) 19 = nI rn) (hr2 : rn ≤ 600) {x : Nat} (hj6 : rn < 600) (hx : x ≤ 255) : Ct G mX9_alter d [.ref (ga G (40, 0)), .int (nI rn), .int (nI x)] M (.inl (some (.int (nI 1)))) (ui (ui (ui M (40, 0) 0 (nI 0)) (55, 0) rn (nI x)) (40, 0) 19 (nI (rn + 1))) 0 := by
  refine ct_of hG okX9_alter (by decide +kernel) rfl (Nat.le_of_ble_eq_true rfl) ?_
  refine x_aload_n rfl rfl rfl ?_
  refine x_iconstN (b := 0) rfl rfl ?_
  refine x_putI rfl rfl f_9_97 rfl rfl (by decide) rfl ?_
  refine x_iload_n rfl rfl rfl ?_
  refine x_ifN_lt (by omega) rfl rfl (fun hc1 => hc1.elim) (fun hc1 => ?_)
  refine x_iload_n rfl rfl rfl ?_
  refine x_aload_n rfl rfl rfl ?_
  refine x_getIv (v := nI rn) (by first | exact hr | (rw [← hr]; rfl) | simp [ui, ul, hr]) rfl rfl f_9_232 rfl (by decide) rfl ?_
  refine x_icmpN_gt (by omega) (by omega) rfl rfl (fun hc2 => absurd hc2 (by omega)) (fun hc2 => ?_)
  refine x_iload_n rfl rfl rfl ?_
  refine x_sipush (v := nI 600) rfl rfl (by decide +kernel) ?_
  refine x_icmpN_eq (by omega) (by omega) rfl rfl (fun hc3 => absurd hc3 (by omega)) (fun hc3 => ?_)
  refine x_iload_n rfl rfl rfl ?_
  refine x_ifN_lt (by omega) rfl rfl (fun hc4 => hc4.elim) (fun hc4 => ?_)
  refine x_iload_n rfl rfl rfl ?_
  refine x_sipush (v := nI 255) rfl rfl (by decide +kernel) ?_
  refine x_icmpN_le (by omega) (by omega) rfl rfl (fun hc5 => ?_) (fun hc5 => absurd hc5 (by omega))
  refine x_aload_n rfl rfl rfl ?_
  refine x_getR0 rfl rfl f_9_54 rfl (by decide) rfl rfl ?_
  refine x_iload_n rfl rfl rfl ?_
  refine x_iload_n rfl rfl rfl ?_
  refine x_iast (a := rn) rfl rfl rfl (by decide) (by omega) (by decide) ?_
  refine x_aload_n rfl rfl rfl ?_
  refine x_iload_n rfl rfl rfl ?_
  refine x_aload_n rfl rfl rfl ?_
  refine x_getIv (v := nI rn) (by first | exact hr | (rw [← hr]; rfl) | simp [ui, ul, hr]) rfl rfl f_9_232 rfl (by decide) rfl ?_
  refine x_icmpN_ne (by omega) (by omega) rfl rfl (fun hc6 => absurd rfl hc6) (fun hc6 => ?_)
  refine x_aload_n rfl rfl rfl ?_
  refine x_getIv (v := nI rn) (by first | exact hr | (rw [← hr]; rfl) | simp [ui, ul, hr]) rfl rfl f_9_232 rfl (by decide) rfl ?_
  refine x_iconstN (b := 1) rfl rfl ?_
  refine x_iaddN (a := rn) (b := 1) rfl rfl ?_
  refine x_goto rfl rfl ?_
  refine x_putI rfl rfl f_9_232 rfl rfl (by decide) rfl ?_
  refine x_iconstN (b := 1) rfl rfl ?_
  exact x_retZ rfl rfl rfl (by first | exact Or.inl rfl | exact Or.inr rfl) (by omega) rfl rfl
set_option maxHeartbeats 4000000 in
set_option maxRecDepth 20000 in
theorem c_malterI (hG : Gok G) {i b : Int32} (hi : i < 0) : Ct G mX9_alter d [.ref (ga G (40, 0)), .int (i), .int (b)] M (.inl (some (.int (nI 0)))) (ui M (40, 0) 0 (nI 0)) 0 := by
  refine ct_of hG okX9_alter (by decide +kernel) rfl (Nat.le_of_ble_eq_true rfl) ?_
  refine x_aload_n rfl rfl rfl ?_
  refine x_iconstN (b := 0) rfl rfl ?_
  refine x_putI rfl rfl f_9_97 rfl rfl (by decide) rfl ?_
  refine x_iload_n rfl rfl rfl ?_
  refine x_if_lt rfl rfl (fun hc1 => ?_) (fun hc1 => absurd hi hc1)
  refine x_iconstN (b := 0) rfl rfl ?_
  exact x_retZ rfl rfl rfl (by first | exact Or.inl rfl | exact Or.inr rfl) (by omega) rfl rfl
set_option maxHeartbeats 4000000 in
set_option maxRecDepth 20000 in
theorem c_malterO (hG : Gok G) {rn : Nat} (hr : M.1 (40, 0) 19 = nI rn) (hr2 : rn ≤ 600) {j : Nat} {b : Int32} (hj : rn < j) (hj2 : j < 2 ^ 31) : Ct G mX9_alter d [.ref (ga G (40, 0)), .int (nI j), .int (b)] M (.inl (some (.int (nI 0)))) (ui M (40, 0) 0 (nI 0)) 0 := by
  refine ct_of hG okX9_alter (by decide +kernel) rfl (Nat.le_of_ble_eq_true rfl) ?_
  refine x_aload_n rfl rfl rfl ?_
  refine x_iconstN (b := 0) rfl rfl ?_
  refine x_putI rfl rfl f_9_97 rfl rfl (by decide) rfl ?_
  refine x_iload_n rfl rfl rfl ?_
  refine x_ifN_lt (by omega) rfl rfl (fun hc1 => hc1.elim) (fun hc1 => ?_)
  refine x_iload_n rfl rfl rfl ?_
  refine x_aload_n rfl rfl rfl ?_
  refine x_getIv (v := nI rn) (by first | exact hr | (rw [← hr]; rfl) | simp [ui, ul, hr]) rfl rfl f_9_232 rfl (by decide) rfl ?_
  refine x_icmpN_gt (by omega) (by omega) rfl rfl (fun hc2 => ?_) (fun hc2 => absurd hc2 (by omega))
  refine x_iconstN (b := 0) rfl rfl ?_
  exact x_retZ rfl rfl rfl (by first | exact Or.inl rfl | exact Or.inr rfl) (by omega) rfl rfl
set_option maxHeartbeats 4000000 in
set_option maxRecDepth 20000 in
theorem c_malterF (hG : Gok G) {rn : Nat} (hr : M.1 (40, 0) 19 = nI rn) (hr2 : rn ≤ 600) {b : Int32} (hj : 600 ≤ rn) : Ct G mX9_alter d [.ref (ga G (40, 0)), .int (nI 600), .int (b)] M (.inl (some (.int (nI 0)))) (ui M (40, 0) 0 (nI 0)) 0 := by
  refine ct_of hG okX9_alter (by decide +kernel) rfl (Nat.le_of_ble_eq_true rfl) ?_
  refine x_aload_n rfl rfl rfl ?_
  refine x_iconstN (b := 0) rfl rfl ?_
  refine x_putI rfl rfl f_9_97 rfl rfl (by decide) rfl ?_
  refine x_iload_n rfl rfl rfl ?_
  refine x_if_lt rfl rfl (fun hc1 => absurd hc1 (by decide +kernel)) (fun _ => ?_)
  refine x_iload_n rfl rfl rfl ?_
  refine x_aload_n rfl rfl rfl ?_
  refine x_getIv (v := nI rn) (by first | exact hr | (rw [← hr]; rfl) | simp [ui, ul, hr]) rfl rfl f_9_232 rfl (by decide) rfl ?_
  refine x_icmpN_gt (by omega) (by omega) rfl rfl (fun hc2 => absurd hc2 (by omega)) (fun hc2 => ?_)
  refine x_iload_n rfl rfl rfl ?_
  refine x_sipush (v := nI 600) rfl rfl (by decide +kernel) ?_
  refine x_icmpN_eq (by omega) (by omega) rfl rfl (fun hc3 => ?_) (fun hc3 => absurd hc3 (by omega))
  refine x_iconstN (b := 0) rfl rfl ?_
  exact x_retZ rfl rfl rfl (by first | exact Or.inl rfl | exact Or.inr rfl) (by omega) rfl rfl
set_option maxHeartbeats 4000000 in
set_option maxRecDepth 20000 in
theorem c_malterB (hG : Gok G) {rn : Nat} (hr : M.1 (40, 0) 19 = nI rn) (hr2 : rn ≤ 600) {j : Nat} {b : Int32} (hj : j ≤ rn) (hj6 : j < 600) (hb : b < 0) : Ct G mX9_alter d [.ref (ga G (40, 0)), .int (nI j), .int (b)] M (.inl (some (.int (nI 0)))) (ui M (40, 0) 0 (nI 0)) 0 := by
  refine ct_of hG okX9_alter (by decide +kernel) rfl (Nat.le_of_ble_eq_true rfl) ?_
  refine x_aload_n rfl rfl rfl ?_
  refine x_iconstN (b := 0) rfl rfl ?_
  refine x_putI rfl rfl f_9_97 rfl rfl (by decide) rfl ?_
  refine x_iload_n rfl rfl rfl ?_
  refine x_ifN_lt (by omega) rfl rfl (fun hc1 => hc1.elim) (fun hc1 => ?_)
  refine x_iload_n rfl rfl rfl ?_
  refine x_aload_n rfl rfl rfl ?_
  refine x_getIv (v := nI rn) (by first | exact hr | (rw [← hr]; rfl) | simp [ui, ul, hr]) rfl rfl f_9_232 rfl (by decide) rfl ?_
  refine x_icmpN_gt (by omega) (by omega) rfl rfl (fun hc2 => absurd hc2 (by omega)) (fun hc2 => ?_)
  refine x_iload_n rfl rfl rfl ?_
  refine x_sipush (v := nI 600) rfl rfl (by decide +kernel) ?_
  refine x_icmpN_eq (by omega) (by omega) rfl rfl (fun hc3 => absurd hc3 (by omega)) (fun hc3 => ?_)
  refine x_iload_n rfl rfl rfl ?_
  refine x_if_lt rfl rfl (fun hc4 => ?_) (fun hc4 => absurd hb hc4)
  refine x_iconstN (b := 0) rfl rfl ?_
  exact x_retZ rfl rfl rfl (by first | exact Or.inl rfl | exact Or.inr rfl) (by omega) rfl rfl
set_option maxHeartbeats 4000000 in
set_option maxRecDepth 20000 in
theorem c_malterC (hG : Gok G) {rn : Nat} (hr : M.1 (40, 0) 19 = nI rn) (hr2 : rn ≤ 600) {j x : Nat} (hj : j ≤ rn) (hj6 : j < 600) (hx : 255 < x) (hx2 : x < 2 ^ 31) : Ct G mX9_alter d [.ref (ga G (40, 0)), .int (nI j), .int (nI x)] M (.inl (some (.int (nI 0)))) (ui M (40, 0) 0 (nI 0)) 0 := by
  refine ct_of hG okX9_alter (by decide +kernel) rfl (Nat.le_of_ble_eq_true rfl) ?_
  refine x_aload_n rfl rfl rfl ?_
  refine x_iconstN (b := 0) rfl rfl ?_
  refine x_putI rfl rfl f_9_97 rfl rfl (by decide) rfl ?_
  refine x_iload_n rfl rfl rfl ?_
  refine x_ifN_lt (by omega) rfl rfl (fun hc1 => hc1.elim) (fun hc1 => ?_)
  refine x_iload_n rfl rfl rfl ?_
  refine x_aload_n rfl rfl rfl ?_
  refine x_getIv (v := nI rn) (by first | exact hr | (rw [← hr]; rfl) | simp [ui, ul, hr]) rfl rfl f_9_232 rfl (by decide) rfl ?_
  refine x_icmpN_gt (by omega) (by omega) rfl rfl (fun hc2 => absurd hc2 (by omega)) (fun hc2 => ?_)
  refine x_iload_n rfl rfl rfl ?_
  refine x_sipush (v := nI 600) rfl rfl (by decide +kernel) ?_
  refine x_icmpN_eq (by omega) (by omega) rfl rfl (fun hc3 => absurd hc3 (by omega)) (fun hc3 => ?_)
  refine x_iload_n rfl rfl rfl ?_
  refine x_ifN_lt (by omega) rfl rfl (fun hc4 => hc4.elim) (fun hc4 => ?_)
  refine x_iload_n rfl rfl rfl ?_
  refine x_sipush (v := nI 255) rfl rfl (by decide +kernel) ?_
  refine x_icmpN_le (by omega) (by omega) rfl rfl (fun hc5 => absurd hc5 (by omega)) (fun hc5 => ?_)
  refine x_iconstN (b := 0) rfl rfl ?_
  exact x_retZ rfl rfl rfl (by first | exact Or.inl rfl | exact Or.inr rfl) (by omega) rfl rfl
set_option maxHeartbeats 4000000 in
set_option maxRecDepth 20000 in
theorem c_mkind (hG : Gok G) (hd : 1 ≤ d) {n : Nat} (hn : M.1 (40, 0) 8 = nI n) (hn2 : n ≤ 40) {i : Nat} (hi : i < n) {kd : Nat} (hkd : M.1 (46, 0) i = nI kd) : Ct G mX9_kind d [.ref (ga G (40, 0)), .int (nI i)] M (.inl (some (.int (nI kd)))) (ui M (40, 0) 0 (nI 0)) 0 := by
  refine ct_of hG okX9_kind (by decide +kernel) rfl (Nat.le_of_ble_eq_true rfl) ?_
  refine x_aload_n rfl rfl rfl ?_
  refine x_iconstN (b := 0) rfl rfl ?_
  refine x_putI rfl rfl f_9_97 rfl rfl (by decide) rfl ?_
  refine x_aload_n rfl rfl rfl ?_
  refine x_iload_n rfl rfl rfl ?_
  refine x_callVi (d2 := 0) (c_misThing (n := n) hG (by first | exact hn | (rw [← hn]; rfl) | simp [ui, ul, hn]) (by omega) (by omega)) rfl rfl v_9_152 rfl rfl (by decide) rfl rfl (Nat.le_of_ble_eq_true rfl) (by omega) (by omega) ?_
  refine x_if_eq rfl rfl (fun hc1 => absurd hc1 (by decide +kernel)) (fun _ => ?_)
  refine x_aload_n rfl rfl rfl ?_
  refine x_getR0 rfl rfl f_9_27 rfl (by decide) rfl rfl ?_
  refine x_iload_n rfl rfl rfl ?_
  refine x_ialdv (a := i) (v := nI kd) (by first | exact hkd | (rw [← hkd]; rfl) | simp [ui, ul, hkd]) rfl rfl rfl (by decide) (by omega) (by decide) ?_
  refine x_goto rfl rfl ?_
  exact x_retI rfl rfl rfl (by omega) rfl rfl
set_option maxHeartbeats 4000000 in
set_option maxRecDepth 20000 in
theorem c_mkindO (hG : Gok G) (hd : 1 ≤ d) {n : Nat} (hn : M.1 (40, 0) 8 = nI n) (hn2 : n ≤ 40) {th : Int32} (ho : ∀ i, i < n → th ≠ nI i) : Ct G mX9_kind d [.ref (ga G (40, 0)), .int (th)] M (.inl (some (.int ((-1))))) (ui M (40, 0) 0 (nI 0)) 0 := by
  refine ct_of hG okX9_kind (by decide +kernel) rfl (Nat.le_of_ble_eq_true rfl) ?_
  refine x_aload_n rfl rfl rfl ?_
  refine x_iconstN (b := 0) rfl rfl ?_
  refine x_putI rfl rfl f_9_97 rfl rfl (by decide) rfl ?_
  refine x_aload_n rfl rfl rfl ?_
  refine x_iload_n rfl rfl rfl ?_
  refine x_callVi (d2 := 0) (c_misThingO (n := n) hG (by first | exact hn | (rw [← hn]; rfl) | simp [ui, ul, hn]) hn2 ho) rfl rfl v_9_152 rfl rfl (by decide) rfl rfl (Nat.le_of_ble_eq_true rfl) (by omega) (by omega) ?_
  refine x_if_eq rfl rfl (fun _ => ?_) (fun hc1 => absurd hc1 (by decide +kernel))
  refine x_iconst (v := -1) rfl rfl (by decide +kernel) ?_
  exact x_retI rfl rfl rfl (by omega) rfl rfl
set_option maxHeartbeats 4000000 in
set_option maxRecDepth 20000 in
theorem c_mcount (hG : Gok G) (hd : 1 ≤ d) {n : Nat} (hn : M.1 (40, 0) 8 = nI n) (hn2 : n ≤ 40) {i : Nat} (hi : i < n) {il : Nat} (hil : M.1 (48, 0) i = nI il) : Ct G mX9_count d [.ref (ga G (40, 0)), .int (nI i)] M (.inl (some (.int (nI il)))) (ui M (40, 0) 0 (nI 0)) 0 := by
  refine ct_of hG okX9_count (by decide +kernel) rfl (Nat.le_of_ble_eq_true rfl) ?_
  refine x_aload_n rfl rfl rfl ?_
  refine x_iconstN (b := 0) rfl rfl ?_
  refine x_putI rfl rfl f_9_97 rfl rfl (by decide) rfl ?_
  refine x_aload_n rfl rfl rfl ?_
  refine x_iload_n rfl rfl rfl ?_
  refine x_callVi (d2 := 0) (c_misThing (n := n) hG (by first | exact hn | (rw [← hn]; rfl) | simp [ui, ul, hn]) (by omega) (by omega)) rfl rfl v_9_152 rfl rfl (by decide) rfl rfl (Nat.le_of_ble_eq_true rfl) (by omega) (by omega) ?_
  refine x_if_eq rfl rfl (fun hc1 => absurd hc1 (by decide +kernel)) (fun _ => ?_)
  refine x_aload_n rfl rfl rfl ?_
  refine x_getR0 rfl rfl f_9_33 rfl (by decide) rfl rfl ?_
  refine x_iload_n rfl rfl rfl ?_
  refine x_ialdv (a := i) (v := nI il) (by first | exact hil | (rw [← hil]; rfl) | simp [ui, ul, hil]) rfl rfl rfl (by decide) (by omega) (by decide) ?_
  refine x_goto rfl rfl ?_
  exact x_retI rfl rfl rfl (by omega) rfl rfl
set_option maxHeartbeats 4000000 in
set_option maxRecDepth 20000 in
theorem c_mcountO (hG : Gok G) (hd : 1 ≤ d) {n : Nat} (hn : M.1 (40, 0) 8 = nI n) (hn2 : n ≤ 40) {th : Int32} (ho : ∀ i, i < n → th ≠ nI i) : Ct G mX9_count d [.ref (ga G (40, 0)), .int (th)] M (.inl (some (.int ((-1))))) (ui M (40, 0) 0 (nI 0)) 0 := by
  refine ct_of hG okX9_count (by decide +kernel) rfl (Nat.le_of_ble_eq_true rfl) ?_
  refine x_aload_n rfl rfl rfl ?_
  refine x_iconstN (b := 0) rfl rfl ?_
  refine x_putI rfl rfl f_9_97 rfl rfl (by decide) rfl ?_
  refine x_aload_n rfl rfl rfl ?_
  refine x_iload_n rfl rfl rfl ?_
  refine x_callVi (d2 := 0) (c_misThingO (n := n) hG (by first | exact hn | (rw [← hn]; rfl) | simp [ui, ul, hn]) hn2 ho) rfl rfl v_9_152 rfl rfl (by decide) rfl rfl (Nat.le_of_ble_eq_true rfl) (by omega) (by omega) ?_
  refine x_if_eq rfl rfl (fun _ => ?_) (fun hc1 => absurd hc1 (by decide +kernel))
  refine x_iconst (v := -1) rfl rfl (by decide +kernel) ?_
  exact x_retI rfl rfl rfl (by omega) rfl rfl
set_option maxHeartbeats 4000000 in
set_option maxRecDepth 20000 in
theorem c_mpairs (hG : Gok G) (hd : 1 ≤ d) {n : Nat} (hn : M.1 (40, 0) 8 = nI n) (hn2 : n ≤ 40) {i : Nat} (hi : i < n) {kl : Nat} (hkl : M.1 (51, 0) i = nI kl) : Ct G mX9_pairs d [.ref (ga G (40, 0)), .int (nI i)] M (.inl (some (.int (nI kl)))) (ui M (40, 0) 0 (nI 0)) 0 := by
  refine ct_of hG okX9_pairs (by decide +kernel) rfl (Nat.le_of_ble_eq_true rfl) ?_
  refine x_aload_n rfl rfl rfl ?_
  refine x_iconstN (b := 0) rfl rfl ?_
  refine x_putI rfl rfl f_9_97 rfl rfl (by decide) rfl ?_
  refine x_aload_n rfl rfl rfl ?_
  refine x_iload_n rfl rfl rfl ?_
  refine x_callVi (d2 := 0) (c_misThing (n := n) hG (by first | exact hn | (rw [← hn]; rfl) | simp [ui, ul, hn]) (by omega) (by omega)) rfl rfl v_9_152 rfl rfl (by decide) rfl rfl (Nat.le_of_ble_eq_true rfl) (by omega) (by omega) ?_
  refine x_if_eq rfl rfl (fun hc1 => absurd hc1 (by decide +kernel)) (fun _ => ?_)
  refine x_aload_n rfl rfl rfl ?_
  refine x_getR0 rfl rfl f_9_42 rfl (by decide) rfl rfl ?_
  refine x_iload_n rfl rfl rfl ?_
  refine x_ialdv (a := i) (v := nI kl) (by first | exact hkl | (rw [← hkl]; rfl) | simp [ui, ul, hkl]) rfl rfl rfl (by decide) (by omega) (by decide) ?_
  refine x_goto rfl rfl ?_
  exact x_retI rfl rfl rfl (by omega) rfl rfl
set_option maxHeartbeats 4000000 in
set_option maxRecDepth 20000 in
theorem c_mpairsO (hG : Gok G) (hd : 1 ≤ d) {n : Nat} (hn : M.1 (40, 0) 8 = nI n) (hn2 : n ≤ 40) {th : Int32} (ho : ∀ i, i < n → th ≠ nI i) : Ct G mX9_pairs d [.ref (ga G (40, 0)), .int (th)] M (.inl (some (.int (nI 0)))) (ui M (40, 0) 0 (nI 0)) 0 := by
  refine ct_of hG okX9_pairs (by decide +kernel) rfl (Nat.le_of_ble_eq_true rfl) ?_
  refine x_aload_n rfl rfl rfl ?_
  refine x_iconstN (b := 0) rfl rfl ?_
  refine x_putI rfl rfl f_9_97 rfl rfl (by decide) rfl ?_
  refine x_aload_n rfl rfl rfl ?_
  refine x_iload_n rfl rfl rfl ?_
  refine x_callVi (d2 := 0) (c_misThingO (n := n) hG (by first | exact hn | (rw [← hn]; rfl) | simp [ui, ul, hn]) hn2 ho) rfl rfl v_9_152 rfl rfl (by decide) rfl rfl (Nat.le_of_ble_eq_true rfl) (by omega) (by omega) ?_
  refine x_if_eq rfl rfl (fun _ => ?_) (fun hc1 => absurd hc1 (by decide +kernel))
  refine x_iconstN (b := 0) rfl rfl ?_
  exact x_retI rfl rfl rfl (by omega) rfl rfl
set_option maxHeartbeats 4000000 in
set_option maxRecDepth 20000 in
theorem c_mtraitsOf (hG : Gok G) (hd : 1 ≤ d) {n : Nat} (hn : M.1 (40, 0) 8 = nI n) (hn2 : n ≤ 40) {i : Nat} (hi : i < n) (hkd : M.1 (46, 0) i = nI 10) : Ct G mX9_traitsOf d [.ref (ga G (40, 0)), .int (nI i)] M (.inl (some (.int (M.1 (49, 0) i)))) (ui M (40, 0) 0 (nI 0)) 0 := by
  refine ct_of hG okX9_traitsOf (by decide +kernel) rfl (Nat.le_of_ble_eq_true rfl) ?_
  refine x_aload_n rfl rfl rfl ?_
  refine x_iconstN (b := 0) rfl rfl ?_
  refine x_putI rfl rfl f_9_97 rfl rfl (by decide) rfl ?_
  refine x_aload_n rfl rfl rfl ?_
  refine x_iload_n rfl rfl rfl ?_
  refine x_callVi (d2 := 0) (c_misThing (n := n) hG (by first | exact hn | (rw [← hn]; rfl) | simp [ui, ul, hn]) (by omega) (by omega)) rfl rfl v_9_152 rfl rfl (by decide) rfl rfl (Nat.le_of_ble_eq_true rfl) (by omega) (by omega) ?_
  refine x_if_eq rfl rfl (fun hc1 => absurd hc1 (by decide +kernel)) (fun _ => ?_)
  refine x_aload_n rfl rfl rfl ?_
  refine x_getR0 rfl rfl f_9_27 rfl (by decide) rfl rfl ?_
  refine x_iload_n rfl rfl rfl ?_
  refine x_ialdv (a := i) (v := nI 10) (by first | exact hkd | (rw [← hkd]; rfl) | simp [ui, ul, hkd]) rfl rfl rfl (by decide) (by omega) (by decide) ?_
  refine x_bipush (v := nI 10) rfl rfl (by decide +kernel) ?_
  refine x_icmpN_ne (by omega) (by omega) rfl rfl (fun hc2 => absurd hc2 (by omega)) (fun hc2 => ?_)
  refine x_aload_n rfl rfl rfl ?_
  refine x_getR0 rfl rfl f_9_36 rfl (by decide) rfl rfl ?_
  refine x_iload_n rfl rfl rfl ?_
  refine x_ialdv (a := i) (v := M.1 (49, 0) i) (by first | rfl | simp [ui, ul]) rfl rfl rfl (by decide) (by omega) (by decide) ?_
  refine x_goto rfl rfl ?_
  exact x_retI rfl rfl rfl (by omega) rfl rfl
set_option maxHeartbeats 4000000 in
set_option maxRecDepth 20000 in
theorem c_mtraitsOfK (hG : Gok G) (hd : 1 ≤ d) {n : Nat} (hn : M.1 (40, 0) 8 = nI n) (hn2 : n ≤ 40) {i : Nat} (hi : i < n) {kd : Nat} (hkd : M.1 (46, 0) i = nI kd) (hkd2 : kd < 16) (hne : kd ≠ 10) : Ct G mX9_traitsOf d [.ref (ga G (40, 0)), .int (nI i)] M (.inl (some (.int ((-1))))) (ui M (40, 0) 0 (nI 0)) 0 := by
  refine ct_of hG okX9_traitsOf (by decide +kernel) rfl (Nat.le_of_ble_eq_true rfl) ?_
  refine x_aload_n rfl rfl rfl ?_
  refine x_iconstN (b := 0) rfl rfl ?_
  refine x_putI rfl rfl f_9_97 rfl rfl (by decide) rfl ?_
  refine x_aload_n rfl rfl rfl ?_
  refine x_iload_n rfl rfl rfl ?_
  refine x_callVi (d2 := 0) (c_misThing (n := n) hG (by first | exact hn | (rw [← hn]; rfl) | simp [ui, ul, hn]) (by omega) (by omega)) rfl rfl v_9_152 rfl rfl (by decide) rfl rfl (Nat.le_of_ble_eq_true rfl) (by omega) (by omega) ?_
  refine x_if_eq rfl rfl (fun hc1 => absurd hc1 (by decide +kernel)) (fun _ => ?_)
  refine x_aload_n rfl rfl rfl ?_
  refine x_getR0 rfl rfl f_9_27 rfl (by decide) rfl rfl ?_
  refine x_iload_n rfl rfl rfl ?_
  refine x_ialdv (a := i) (v := nI kd) (by first | exact hkd | (rw [← hkd]; rfl) | simp [ui, ul, hkd]) rfl rfl rfl (by decide) (by omega) (by decide) ?_
  refine x_bipush (v := nI 10) rfl rfl (by decide +kernel) ?_
  refine x_icmpN_ne (by omega) (by omega) rfl rfl (fun hc2 => ?_) (fun hc2 => absurd hc2 hne)
  refine x_iconst (v := -1) rfl rfl (by decide +kernel) ?_
  exact x_retI rfl rfl rfl (by omega) rfl rfl
set_option maxHeartbeats 4000000 in
set_option maxRecDepth 20000 in
theorem c_mtraitsOfO (hG : Gok G) (hd : 1 ≤ d) {n : Nat} (hn : M.1 (40, 0) 8 = nI n) (hn2 : n ≤ 40) {th : Int32} (ho : ∀ i, i < n → th ≠ nI i) : Ct G mX9_traitsOf d [.ref (ga G (40, 0)), .int (th)] M (.inl (some (.int ((-1))))) (ui M (40, 0) 0 (nI 0)) 0 := by
  refine ct_of hG okX9_traitsOf (by decide +kernel) rfl (Nat.le_of_ble_eq_true rfl) ?_
  refine x_aload_n rfl rfl rfl ?_
  refine x_iconstN (b := 0) rfl rfl ?_
  refine x_putI rfl rfl f_9_97 rfl rfl (by decide) rfl ?_
  refine x_aload_n rfl rfl rfl ?_
  refine x_iload_n rfl rfl rfl ?_
  refine x_callVi (d2 := 0) (c_misThingO (n := n) hG (by first | exact hn | (rw [← hn]; rfl) | simp [ui, ul, hn]) hn2 ho) rfl rfl v_9_152 rfl rfl (by decide) rfl rfl (Nat.le_of_ble_eq_true rfl) (by omega) (by omega) ?_
  refine x_if_eq rfl rfl (fun _ => ?_) (fun hc1 => absurd hc1 (by decide +kernel))
  refine x_iconst (v := -1) rfl rfl (by decide +kernel) ?_
  exact x_retI rfl rfl rfl (by omega) rfl rfl
end D2
