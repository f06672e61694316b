section C7
variable {G : Gd} {d : Nat} {M : Mm}
theorem max_I {a b : Nat} (ha : a < 2 ^ 31) (hb : b < 2 ^ 31) : (if nI a < nI b then nI b else nI a) = nI (max a b) := by
  by_cases h : a < b
  · rw [if_pos ((nI_ltI ha hb).mpr h), Nat.max_eq_right (by omega)]
  · rw [if_neg (fun z => h ((nI_ltI ha hb).mp z)), Nat.max_eq_left (by omega)]
theorem w_max : Cond.methodLink (cnm 8) 201 Lib.Math.max.name ∈ lw_tbl ∧ Cond.static Lib.Math.max.name ∈ lw_tbl ∧ Cond.initialized "java/lang/Math" ∈ lw_tbl ∧ Cond.code Lib.Math.max.name Lib.Math.max.code 2 (some .int) ∈ lw_tbl :=
  ⟨List.mem_of_getElem? (i := 413) (by decide +kernel), List.mem_of_getElem? (i := 414) (by decide +kernel), List.mem_of_getElem? (i := 90) (by decide +kernel), List.mem_of_getElem? (i := 415) (by decide +kernel)⟩
theorem x_maxN {y : Mt} {kf : Nat} {Z : Zt} {k pc n t : Nat} {lv : List (Nat × Value)} {st : List Value} (hy : yC y = 8) (a b : Nat) (ha : a < 2 ^ 31) (hb9 : b < 2 ^ 31) (hi : tget (yT y) pc = some (.invokestatic 201, n, t)) (hn : pc + 3 = n) (hW : (st.map fun v => v.category).sum ≤ 8) (hd1 : 1 ≤ d) (hk : k ≤ kf) (kk : Fr G y d kf Z k n lv (.int (nI (max a b)) :: st) M) : Fr G y d kf Z k pc lv (.int (nI b) :: .int (nI a) :: st) M := by
  intro p e R s m args below meth c H locs ls C hx hH hL
  obtain ⟨hg, hok, ha9, hb, hret, hlk, hml, hown, hwm, hs1, hs2, hR1, hR2, hR3, hR4⟩ := id C
  have hd := (hok.get hi).1
  subst hn
  rw [Nat.add_sub_cancel_left] at hd
  rw [hy] at hown
  obtain ⟨w1, w2, w3, w4⟩ := w_max
  refine va_mmax ha9 hb (hml.trans hL.1.symm) hown (hg.1 _ w1 rfl args s hwm) (hg.1 _ w2 rfl args s hwm) (hg.1 _ w3 rfl args s hwm) (hg.1 _ w4 rfl args s hwm) (by omega) (by omega) (by omega) (by omega) hd ?_
  rw [max_I ha hb9]
  exact kk p e R s m args below meth c H locs ls C hx hH hL
theorem nIm1 {j : Nat} (h : j < 2 ^ 31) : ¬ nI j = -1 := by
  intro z
  have h1 : (nI j).toInt = (-1 : Int32).toInt := by rw [z]
  rw [nI_toInt h] at h1
  have h2 : (-1 : Int32).toInt = -1 := by decide +kernel
  omega
set_option maxHeartbeats 4000000 in
set_option maxRecDepth 20000 in
theorem c_date (hG : Gok G) (hd : 3 ≤ d) (b : Int64) {n : Nat} (hn : M.1 (1, 0) 5 = nI n) (hn2 : n < 40) : Ct G mX8_date d [.ref (ga G (0, 0)), .long (b)] M (.inl (some (.long (16 * (lN (n)) + (nI 7).toInt64)))) (ul (ui (ui (ui (ui (ul (ui (ui M (8, n) 3 (nI 8)) (8, n) 4 ((-1))) (8, n) 5 0) (9, n) 1 (nI 0)) (11, n) 1 (nI 0)) (13, n) 1 (nI 0)) (1, 0) 5 (nI (n + 1))) (8, n) 5 b) 0 := by
  refine ct_of hG okX8_date (by decide +kernel) rfl (Nat.le_of_ble_eq_true rfl) ?_
  refine x_aload_n rfl rfl rfl ?_
  refine x_callVv (d2 := 0) (c_refuse0 (n := n) hG hn (by omega)) rfl rfl v_8_72 rfl rfl (by decide) rfl rfl (Nat.le_of_ble_eq_true rfl) (by omega) (by omega) ?_
  refine x_aload_n rfl rfl rfl ?_
  refine x_getR0 rfl rfl f_8_20 rfl (by decide) rfl rfl ?_
  refine x_bipush (v := nI 8) rfl rfl (by decide +kernel) ?_
  refine x_callVi (d2 := 2) (c_makeThing (n := n) hG (Nat.le_refl 2) (nI 8) hn (by omega)) rfl rfl v_8_75 rfl rfl (by decide) rfl rfl (Nat.le_of_ble_eq_true rfl) (by omega) (by omega) ?_
  refine x_istore_n rfl rfl rfl rfl ?_
  refine x_aload_n rfl rfl rfl ?_
  refine x_getR0 rfl rfl f_8_20 rfl (by decide) rfl rfl ?_
  refine x_getR0 rfl rfl f_8_79 rfl (by decide) rfl rfl ?_
  refine x_iload_n rfl rfl rfl ?_
  refine x_aaldi (a := n) rfl rfl rfl (by decide) (by decide) (by omega) (by decide) rfl ?_
  refine x_lload_n rfl rfl rfl ?_
  refine x_putL rfl rfl f_8_83 rfl rfl (by show _ < 40; omega) rfl ?_
  refine x_bipush (v := nI 7) rfl rfl (by decide +kernel) ?_
  refine x_iload_n rfl rfl rfl ?_
  refine x_i2lN (a := n) (by omega) rfl rfl ?_
  refine x_callSl (d2 := 0) (c_valueOf hG (nI 7) (lN (n))) rfl rfl s_8_68 rfl rfl (Nat.le_of_ble_eq_true rfl) (by omega) (by omega) ?_
  exact x_retL rfl rfl rfl (by omega) rfl rfl
set_option maxHeartbeats 4000000 in
set_option maxRecDepth 20000 in
theorem c_dateX (hG : Gok G) (hd : 7 ≤ d) (b : Int64) (hn : M.1 (1, 0) 5 = nI 40) : Ct G mX8_date d [.ref (ga G (0, 0)), .long (b)] M (.inr "java/lang/IllegalStateException") M 1 := by
  refine ct_of hG okX8_date (by decide +kernel) rfl (Nat.le_of_ble_eq_true rfl) ?_
  refine x_aload_n rfl rfl rfl ?_
  exact x_throwV (d2 := 6) (c_refuse1 hG (Nat.le_refl 6) hn) rfl rfl v_8_72 rfl rfl (by decide) rfl rfl (Nat.le_of_ble_eq_true rfl) (by omega) (by omega)
set_option maxHeartbeats 4000000 in
set_option maxRecDepth 20000 in
theorem c_array (hG : Gok G) (hd : 3 ≤ d) {n : Nat} (hn : M.1 (1, 0) 5 = nI n) (hn2 : n < 40) : Ct G mX8_array d [.ref (ga G (0, 0))] M (.inl (some (.long (16 * (lN (n)) + (nI 7).toInt64)))) (ui (ui (ui (ui (ul (ui (ui M (8, n) 3 (nI 9)) (8, n) 4 ((-1))) (8, n) 5 0) (9, n) 1 (nI 0)) (11, n) 1 (nI 0)) (13, n) 1 (nI 0)) (1, 0) 5 (nI (n + 1))) 0 := by
  refine ct_of hG okX8_array (by decide +kernel) rfl (Nat.le_of_ble_eq_true rfl) ?_
  refine x_aload_n rfl rfl rfl ?_
  refine x_callVv (d2 := 0) (c_refuse0 (n := n) hG hn (by omega)) rfl rfl v_8_72 rfl rfl (by decide) rfl rfl (Nat.le_of_ble_eq_true rfl) (by omega) (by omega) ?_
  refine x_bipush (v := nI 7) rfl rfl (by decide +kernel) ?_
  refine x_aload_n rfl rfl rfl ?_
  refine x_getR0 rfl rfl f_8_20 rfl (by decide) rfl rfl ?_
  refine x_bipush (v := nI 9) rfl rfl (by decide +kernel) ?_
  refine x_callVi (d2 := 2) (c_makeThing (n := n) hG (Nat.le_refl 2) (nI 9) hn (by omega)) rfl rfl v_8_75 rfl rfl (by decide) rfl rfl (Nat.le_of_ble_eq_true rfl) (by omega) (by omega) ?_
  refine x_i2lN (a := n) (by omega) rfl rfl ?_
  refine x_callSl (d2 := 0) (c_valueOf hG (nI 7) (lN (n))) rfl rfl s_8_68 rfl rfl (Nat.le_of_ble_eq_true rfl) (by omega) (by omega) ?_
  exact x_retL rfl rfl rfl (by omega) rfl rfl
set_option maxHeartbeats 4000000 in
set_option maxRecDepth 20000 in
theorem c_arrayX (hG : Gok G) (hd : 7 ≤ d) (hn : M.1 (1, 0) 5 = nI 40) : Ct G mX8_array d [.ref (ga G (0, 0))] M (.inr "java/lang/IllegalStateException") M 1 := by
  refine ct_of hG okX8_array (by decide +kernel) rfl (Nat.le_of_ble_eq_true rfl) ?_
  refine x_aload_n rfl rfl rfl ?_
  exact x_throwV (d2 := 6) (c_refuse1 hG (Nat.le_refl 6) hn) rfl rfl v_8_72 rfl rfl (by decide) rfl rfl (Nat.le_of_ble_eq_true rfl) (by omega) (by omega)
set_option maxHeartbeats 4000000 in
set_option maxRecDepth 20000 in
theorem c_bytes0 (hG : Gok G) (hd : 3 ≤ d) (b : Int64) {n : Nat} (hn : M.1 (1, 0) 5 = nI n) (hn2 : n < 40) : Ct G mX8_bytes d [.ref (ga G (0, 0)), .long (b), .int (nI 0)] M (.inl (some (.long (16 * (lN (n)) + (nI 7).toInt64)))) (ui (ui (ui (ui (ul (ui (ui M (8, n) 3 (nI 12)) (8, n) 4 ((-1))) (8, n) 5 0) (9, n) 1 (nI 0)) (11, n) 1 (nI 0)) (13, n) 1 (nI 0)) (1, 0) 5 (nI (n + 1))) 0 := by
  refine ct_of hG okX8_bytes (by decide +kernel) rfl (Nat.le_of_ble_eq_true rfl) ?_
  refine x_iload_n rfl rfl rfl ?_
  refine x_if_lt rfl rfl (fun hc1 => absurd hc1 (by decide +kernel)) (fun _ => ?_)
  refine x_iload_n rfl rfl rfl ?_
  refine x_bipush (v := nI 8) rfl rfl (by decide +kernel) ?_
  refine x_icmpN_le (by omega) (by omega) rfl rfl (fun hc2 => ?_) (fun hc2 => absurd hc2 (by omega))
  refine x_aload_n rfl rfl rfl ?_
  refine x_callVv (d2 := 0) (c_refuse0 (n := n) hG hn (by omega)) rfl rfl v_8_72 rfl rfl (by decide) rfl rfl (Nat.le_of_ble_eq_true rfl) (by omega) (by omega) ?_
  refine x_aload_n rfl rfl rfl ?_
  refine x_getR0 rfl rfl f_8_20 rfl (by decide) rfl rfl ?_
  refine x_bipush (v := nI 12) rfl rfl (by decide +kernel) ?_
  refine x_callVi (d2 := 2) (c_makeThing (n := n) hG (Nat.le_refl 2) (nI 12) hn (by omega)) rfl rfl v_8_75 rfl rfl (by decide) rfl rfl (Nat.le_of_ble_eq_true rfl) (by omega) (by omega) ?_
  refine x_istore rfl rfl rfl rfl ?_
  refine x_iconstN (b := 0) rfl rfl ?_
  refine x_istore rfl rfl rfl rfl ?_
  refine x_iload rfl rfl rfl ?_
  refine x_iload_n rfl rfl rfl ?_
  refine x_icmpN_ge (by omega) (by omega) rfl rfl (fun hc3 => ?_) (fun hc3 => absurd hc3 (by omega))
  refine x_bipush (v := nI 7) rfl rfl (by decide +kernel) ?_
  refine x_iload rfl rfl rfl ?_
  refine x_i2lN (a := n) (by omega) rfl rfl ?_
  refine x_callSl (d2 := 0) (c_valueOf hG (nI 7) (lN (n))) rfl rfl s_8_68 rfl rfl (Nat.le_of_ble_eq_true rfl) (by omega) (by omega) ?_
  exact x_retL rfl rfl rfl (by omega) rfl rfl
set_option maxHeartbeats 4000000 in
set_option maxRecDepth 20000 in
theorem c_bytes1 (hG : Gok G) (hd : 3 ≤ d) (b : Int64) {n : Nat} (hn : M.1 (1, 0) 5 = nI n) (hn2 : n < 40) : Ct G mX8_bytes d [.ref (ga G (0, 0)), .long (b), .int (nI 1)] M (.inl (some (.long (16 * (lN (n)) + (nI 7).toInt64)))) (ui (ul (ui (ui (ui (ui (ul (ui (ui M (8, n) 3 (nI 12)) (8, n) 4 ((-1))) (8, n) 5 0) (9, n) 1 (nI 0)) (11, n) 1 (nI 0)) (13, n) 1 (nI 0)) (1, 0) 5 (nI (n + 1))) (10, n) 0 (16 * ((b >>> ((nI 0).toInt64 &&& 63)) &&& 255) + (nI 4).toInt64)) (9, n) 1 (nI 1)) 0 := by
  refine ct_of hG okX8_bytes (by decide +kernel) rfl (Nat.le_of_ble_eq_true rfl) ?_
  refine x_iload_n rfl rfl rfl ?_
  refine x_if_lt rfl rfl (fun hc1 => absurd hc1 (by decide +kernel)) (fun _ => ?_)
  refine x_iload_n rfl rfl rfl ?_
  refine x_bipush (v := nI 8) rfl rfl (by decide +kernel) ?_
  refine x_icmpN_le (by omega) (by omega) rfl rfl (fun hc2 => ?_) (fun hc2 => absurd hc2 (by omega))
  refine x_aload_n rfl rfl rfl ?_
  refine x_callVv (d2 := 0) (c_refuse0 (n := n) hG hn (by omega)) rfl rfl v_8_72 rfl rfl (by decide) rfl rfl (Nat.le_of_ble_eq_true rfl) (by omega) (by omega) ?_
  refine x_aload_n rfl rfl rfl ?_
  refine x_getR0 rfl rfl f_8_20 rfl (by decide) rfl rfl ?_
  refine x_bipush (v := nI 12) rfl rfl (by decide +kernel) ?_
  refine x_callVi (d2 := 2) (c_makeThing (n := n) hG (Nat.le_refl 2) (nI 12) hn (by omega)) rfl rfl v_8_75 rfl rfl (by decide) rfl rfl (Nat.le_of_ble_eq_true rfl) (by omega) (by omega) ?_
  refine x_istore rfl rfl rfl rfl ?_
  refine x_iconstN (b := 0) rfl rfl ?_
  refine x_istore rfl rfl rfl rfl ?_
  refine x_iload rfl rfl rfl ?_
  refine x_iload_n rfl rfl rfl ?_
  refine x_icmpN_ge (by omega) (by omega) rfl rfl (fun hc3 => absurd hc3 (by omega)) (fun hc3 => ?_)
  refine x_aload_n rfl rfl rfl ?_
  refine x_getR0 rfl rfl f_8_20 rfl (by decide) rfl rfl ?_
  refine x_getR0 rfl rfl f_8_79 rfl (by decide) rfl rfl ?_
  refine x_iload rfl rfl rfl ?_
  refine x_aaldi (a := n) rfl rfl rfl (by decide) (by decide) (by omega) (by decide) rfl ?_
  refine x_getRi rfl rfl f_8_92 rfl (by show _ < 40; omega) rfl rfl ?_
  refine x_iconstN (b := 4) rfl rfl ?_
  refine x_lload_n rfl rfl rfl ?_
  refine x_bipush (v := nI 8) rfl rfl (by decide +kernel) ?_
  refine x_iload rfl rfl rfl ?_
  refine x_imulN (a := 8) (b := 0) rfl rfl ?_
  refine x_lshr rfl rfl ?_
  refine x_ldc2 (v := 255) rfl rfl k_8_95 ?_
  refine x_land rfl rfl ?_
  refine x_callSl (d2 := 0) (c_valueOf hG (nI 4) ((b >>> ((nI 0).toInt64 &&& 63)) &&& 255)) rfl rfl s_8_68 rfl rfl (Nat.le_of_ble_eq_true rfl) (by omega) (by omega) ?_
  refine x_callVv (d2 := 0) (c_LL_add (len := 0) hG (lk_9 (by omega)) (16 * ((b >>> ((nI 0).toInt64 &&& 63)) &&& 255) + (nI 4).toInt64) (by first | rfl | simp [ui, ul]) (by omega)) rfl rfl v_8_97 rfl rfl (by show _ < 40; omega) rfl rfl (Nat.le_of_ble_eq_true rfl) (by omega) (by omega) ?_
  refine x_iincN (a := 0) (b := 1) rfl rfl rfl rfl rfl ?_
  refine x_goto rfl rfl ?_
  refine x_iload rfl rfl rfl ?_
  refine x_iload_n rfl rfl rfl ?_
  refine x_icmpN_ge (by omega) (by omega) rfl rfl (fun hc4 => ?_) (fun hc4 => absurd hc4 (by omega))
  refine x_bipush (v := nI 7) rfl rfl (by decide +kernel) ?_
  refine x_iload rfl rfl rfl ?_
  refine x_i2lN (a := n) (by omega) rfl rfl ?_
  refine x_callSl (d2 := 0) (c_valueOf hG (nI 7) (lN (n))) rfl rfl s_8_68 rfl rfl (Nat.le_of_ble_eq_true rfl) (by omega) (by omega) ?_
  exact x_retL rfl rfl rfl (by omega) rfl rfl
set_option maxHeartbeats 4000000 in
set_option maxRecDepth 20000 in
theorem c_bytes2 (hG : Gok G) (hd : 3 ≤ d) (b : Int64) {n : Nat} (hn : M.1 (1, 0) 5 = nI n) (hn2 : n < 40) : Ct G mX8_bytes d [.ref (ga G (0, 0)), .long (b), .int (nI 2)] M (.inl (some (.long (16 * (lN (n)) + (nI 7).toInt64)))) (ui (ul (ui (ul (ui (ui (ui (ui (ul (ui (ui M (8, n) 3 (nI 12)) (8, n) 4 ((-1))) (8, n) 5 0) (9, n) 1 (nI 0)) (11, n) 1 (nI 0)) (13, n) 1 (nI 0)) (1, 0) 5 (nI (n + 1))) (10, n) 0 (16 * ((b >>> ((nI 0).toInt64 &&& 63)) &&& 255) + (nI 4).toInt64)) (9, n) 1 (nI 1)) (10, n) 1 (16 * ((b >>> ((nI 8).toInt64 &&& 63)) &&& 255) + (nI 4).toInt64)) (9, n) 1 (nI 2)) 0 := by
  refine ct_of hG okX8_bytes (by decide +kernel) rfl (Nat.le_of_ble_eq_true rfl) ?_
  refine x_iload_n rfl rfl rfl ?_
  refine x_if_lt rfl rfl (fun hc1 => absurd hc1 (by decide +kernel)) (fun _ => ?_)
  refine x_iload_n rfl rfl rfl ?_
  refine x_bipush (v := nI 8) rfl rfl (by decide +kernel) ?_
  refine x_icmpN_le (by omega) (by omega) rfl rfl (fun hc2 => ?_) (fun hc2 => absurd hc2 (by omega))
  refine x_aload_n rfl rfl rfl ?_
  refine x_callVv (d2 := 0) (c_refuse0 (n := n) hG hn (by omega)) rfl rfl v_8_72 rfl rfl (by decide) rfl rfl (Nat.le_of_ble_eq_true rfl) (by omega) (by omega) ?_
  refine x_aload_n rfl rfl rfl ?_
  refine x_getR0 rfl rfl f_8_20 rfl (by decide) rfl rfl ?_
  refine x_bipush (v := nI 12) rfl rfl (by decide +kernel) ?_
  refine x_callVi (d2 := 2) (c_makeThing (n := n) hG (Nat.le_refl 2) (nI 12) hn (by omega)) rfl rfl v_8_75 rfl rfl (by decide) rfl rfl (Nat.le_of_ble_eq_true rfl) (by omega) (by omega) ?_
  refine x_istore rfl rfl rfl rfl ?_
  refine x_iconstN (b := 0) rfl rfl ?_
  refine x_istore rfl rfl rfl rfl ?_
  refine x_iload rfl rfl rfl ?_
  refine x_iload_n rfl rfl rfl ?_
  refine x_icmpN_ge (by omega) (by omega) rfl rfl (fun hc3 => absurd hc3 (by omega)) (fun hc3 => ?_)
  refine x_aload_n rfl rfl rfl ?_
  refine x_getR0 rfl rfl f_8_20 rfl (by decide) rfl rfl ?_
  refine x_getR0 rfl rfl f_8_79 rfl (by decide) rfl rfl ?_
  refine x_iload rfl rfl rfl ?_
  refine x_aaldi (a := n) rfl rfl rfl (by decide) (by decide) (by omega) (by decide) rfl ?_
  refine x_getRi rfl rfl f_8_92 rfl (by show _ < 40; omega) rfl rfl ?_
  refine x_iconstN (b := 4) rfl rfl ?_
  refine x_lload_n rfl rfl rfl ?_
  refine x_bipush (v := nI 8) rfl rfl (by decide +kernel) ?_
  refine x_iload rfl rfl rfl ?_
  refine x_imulN (a := 8) (b := 0) rfl rfl ?_
  refine x_lshr rfl rfl ?_
  refine x_ldc2 (v := 255) rfl rfl k_8_95 ?_
  refine x_land rfl rfl ?_
  refine x_callSl (d2 := 0) (c_valueOf hG (nI 4) ((b >>> ((nI 0).toInt64 &&& 63)) &&& 255)) rfl rfl s_8_68 rfl rfl (Nat.le_of_ble_eq_true rfl) (by omega) (by omega) ?_
  refine x_callVv (d2 := 0) (c_LL_add (len := 0) hG (lk_9 (by omega)) (16 * ((b >>> ((nI 0).toInt64 &&& 63)) &&& 255) + (nI 4).toInt64) (by first | rfl | simp [ui, ul]) (by omega)) rfl rfl v_8_97 rfl rfl (by show _ < 40; omega) rfl rfl (Nat.le_of_ble_eq_true rfl) (by omega) (by omega) ?_
  refine x_iincN (a := 0) (b := 1) rfl rfl rfl rfl rfl ?_
  refine x_goto rfl rfl ?_
  refine x_iload rfl rfl rfl ?_
  refine x_iload_n rfl rfl rfl ?_
  refine x_icmpN_ge (by omega) (by omega) rfl rfl (fun hc4 => absurd hc4 (by omega)) (fun hc4 => ?_)
  refine x_aload_n rfl rfl rfl ?_
  refine x_getR0 rfl rfl f_8_20 rfl (by decide) rfl rfl ?_
  refine x_getR0 rfl rfl f_8_79 rfl (by decide) rfl rfl ?_
  refine x_iload rfl rfl rfl ?_
  refine x_aaldi (a := n) rfl rfl rfl (by decide) (by decide) (by omega) (by decide) rfl ?_
  refine x_getRi rfl rfl f_8_92 rfl (by show _ < 40; omega) rfl rfl ?_
  refine x_iconstN (b := 4) rfl rfl ?_
  refine x_lload_n rfl rfl rfl ?_
  refine x_bipush (v := nI 8) rfl rfl (by decide +kernel) ?_
  refine x_iload rfl rfl rfl ?_
  refine x_imulN (a := 8) (b := 1) rfl rfl ?_
  refine x_lshr rfl rfl ?_
  refine x_ldc2 (v := 255) rfl rfl k_8_95 ?_
  refine x_land rfl rfl ?_
  refine x_callSl (d2 := 0) (c_valueOf hG (nI 4) ((b >>> ((nI 8).toInt64 &&& 63)) &&& 255)) rfl rfl s_8_68 rfl rfl (Nat.le_of_ble_eq_true rfl) (by omega) (by omega) ?_
  refine x_callVv (d2 := 0) (c_LL_add (len := 1) hG (lk_9 (by omega)) (16 * ((b >>> ((nI 8).toInt64 &&& 63)) &&& 255) + (nI 4).toInt64) (by first | rfl | simp [ui, ul]) (by omega)) rfl rfl v_8_97 rfl rfl (by show _ < 40; omega) rfl rfl (Nat.le_of_ble_eq_true rfl) (by omega) (by omega) ?_
  refine x_iincN (a := 1) (b := 1) rfl rfl rfl rfl rfl ?_
  refine x_goto rfl rfl ?_
  refine x_iload rfl rfl rfl ?_
  refine x_iload_n rfl rfl rfl ?_
  refine x_icmpN_ge (by omega) (by omega) rfl rfl (fun hc5 => ?_) (fun hc5 => absurd hc5 (by omega))
  refine x_bipush (v := nI 7) rfl rfl (by decide +kernel) ?_
  refine x_iload rfl rfl rfl ?_
  refine x_i2lN (a := n) (by omega) rfl rfl ?_
  refine x_callSl (d2 := 0) (c_valueOf hG (nI 7) (lN (n))) rfl rfl s_8_68 rfl rfl (Nat.le_of_ble_eq_true rfl) (by omega) (by omega) ?_
  exact x_retL rfl rfl rfl (by omega) rfl rfl
set_option maxHeartbeats 4000000 in
set_option maxRecDepth 20000 in
theorem c_bytes3 (hG : Gok G) (hd : 3 ≤ d) (b : Int64) {n : Nat} (hn : M.1 (1, 0) 5 = nI n) (hn2 : n < 40) : Ct G mX8_bytes d [.ref (ga G (0, 0)), .long (b), .int (nI 3)] M (.inl (some (.long (16 * (lN (n)) + (nI 7).toInt64)))) (ui (ul (ui (ul (ui (ul (ui (ui (ui (ui (ul (ui (ui M (8, n) 3 (nI 12)) (8, n) 4 ((-1))) (8, n) 5 0) (9, n) 1 (nI 0)) (11, n) 1 (nI 0)) (13, n) 1 (nI 0)) (1, 0) 5 (nI (n + 1))) (10, n) 0 (16 * ((b >>> ((nI 0).toInt64 &&& 63)) &&& 255) + (nI 4).toInt64)) (9, n) 1 (nI 1)) (10, n) 1 (16 * ((b >>> ((nI 8).toInt64 &&& 63)) &&& 255) + (nI 4).toInt64)) (9, n) 1 (nI 2)) (10, n) 2 (16 * ((b >>> ((nI 16).toInt64 &&& 63)) &&& 255) + (nI 4).toInt64)) (9, n) 1 (nI 3)) 0 := by
  refine ct_of hG okX8_bytes (by decide +kernel) rfl (Nat.le_of_ble_eq_true rfl) ?_
  refine x_iload_n rfl rfl rfl ?_
  refine x_if_lt rfl rfl (fun hc1 => absurd hc1 (by decide +kernel)) (fun _ => ?_)
  refine x_iload_n rfl rfl rfl ?_
  refine x_bipush (v := nI 8) rfl rfl (by decide +kernel) ?_
  refine x_icmpN_le (by omega) (by omega) rfl rfl (fun hc2 => ?_) (fun hc2 => absurd hc2 (by omega))
  refine x_aload_n rfl rfl rfl ?_
  refine x_callVv (d2 := 0) (c_refuse0 (n := n) hG hn (by omega)) rfl rfl v_8_72 rfl rfl (by decide) rfl rfl (Nat.le_of_ble_eq_true rfl) (by omega) (by omega) ?_
  refine x_aload_n rfl rfl rfl ?_
  refine x_getR0 rfl rfl f_8_20 rfl (by decide) rfl rfl ?_
  refine x_bipush (v := nI 12) rfl rfl (by decide +kernel) ?_
  refine x_callVi (d2 := 2) (c_makeThing (n := n) hG (Nat.le_refl 2) (nI 12) hn (by omega)) rfl rfl v_8_75 rfl rfl (by decide) rfl rfl (Nat.le_of_ble_eq_true rfl) (by omega) (by omega) ?_
  refine x_istore rfl rfl rfl rfl ?_
  refine x_iconstN (b := 0) rfl rfl ?_
  refine x_istore rfl rfl rfl rfl ?_
  refine x_iload rfl rfl rfl ?_
  refine x_iload_n rfl rfl rfl ?_
  refine x_icmpN_ge (by omega) (by omega) rfl rfl (fun hc3 => absurd hc3 (by omega)) (fun hc3 => ?_)
  refine x_aload_n rfl rfl rfl ?_
  refine x_getR0 rfl rfl f_8_20 rfl (by decide) rfl rfl ?_
  refine x_getR0 rfl rfl f_8_79 rfl (by decide) rfl rfl ?_
  refine x_iload rfl rfl rfl ?_
  refine x_aaldi (a := n) rfl rfl rfl (by decide) (by decide) (by omega) (by decide) rfl ?_
  refine x_getRi rfl rfl f_8_92 rfl (by show _ < 40; omega) rfl rfl ?_
  refine x_iconstN (b := 4) rfl rfl ?_
  refine x_lload_n rfl rfl rfl ?_
  refine x_bipush (v := nI 8) rfl rfl (by decide +kernel) ?_
  refine x_iload rfl rfl rfl ?_
  refine x_imulN (a := 8) (b := 0) rfl rfl ?_
  refine x_lshr rfl rfl ?_
  refine x_ldc2 (v := 255) rfl rfl k_8_95 ?_
  refine x_land rfl rfl ?_
  refine x_callSl (d2 := 0) (c_valueOf hG (nI 4) ((b >>> ((nI 0).toInt64 &&& 63)) &&& 255)) rfl rfl s_8_68 rfl rfl (Nat.le_of_ble_eq_true rfl) (by omega) (by omega) ?_
  refine x_callVv (d2 := 0) (c_LL_add (len := 0) hG (lk_9 (by omega)) (16 * ((b >>> ((nI 0).toInt64 &&& 63)) &&& 255) + (nI 4).toInt64) (by first | rfl | simp [ui, ul]) (by omega)) rfl rfl v_8_97 rfl rfl (by show _ < 40; omega) rfl rfl (Nat.le_of_ble_eq_true rfl) (by omega) (by omega) ?_
  refine x_iincN (a := 0) (b := 1) rfl rfl rfl rfl rfl ?_
  refine x_goto rfl rfl ?_
  refine x_iload rfl rfl rfl ?_
  refine x_iload_n rfl rfl rfl ?_
  refine x_icmpN_ge (by omega) (by omega) rfl rfl (fun hc4 => absurd hc4 (by omega)) (fun hc4 => ?_)
  refine x_aload_n rfl rfl rfl ?_
  refine x_getR0 rfl rfl f_8_20 rfl (by decide) rfl rfl ?_
  refine x_getR0 rfl rfl f_8_79 rfl (by decide) rfl rfl ?_
  refine x_iload rfl rfl rfl ?_
  refine x_aaldi (a := n) rfl rfl rfl (by decide) (by decide) (by omega) (by decide) rfl ?_
  refine x_getRi rfl rfl f_8_92 rfl (by show _ < 40; omega) rfl rfl ?_
  refine x_iconstN (b := 4) rfl rfl ?_
  refine x_lload_n rfl rfl rfl ?_
  refine x_bipush (v := nI 8) rfl rfl (by decide +kernel) ?_
  refine x_iload rfl rfl rfl ?_
  refine x_imulN (a := 8) (b := 1) rfl rfl ?_
  refine x_lshr rfl rfl ?_
  refine x_ldc2 (v := 255) rfl rfl k_8_95 ?_
  refine x_land rfl rfl ?_
  refine x_callSl (d2 := 0) (c_valueOf hG (nI 4) ((b >>> ((nI 8).toInt64 &&& 63)) &&& 255)) rfl rfl s_8_68 rfl rfl (Nat.le_of_ble_eq_true rfl) (by omega) (by omega) ?_
  refine x_callVv (d2 := 0) (c_LL_add (len := 1) hG (lk_9 (by omega)) (16 * ((b >>> ((nI 8).toInt64 &&& 63)) &&& 255) + (nI 4).toInt64) (by first | rfl | simp [ui, ul]) (by omega)) rfl rfl v_8_97 rfl rfl (by show _ < 40; omega) rfl rfl (Nat.le_of_ble_eq_true rfl) (by omega) (by omega) ?_
  refine x_iincN (a := 1) (b := 1) rfl rfl rfl rfl rfl ?_
  refine x_goto rfl rfl ?_
  refine x_iload rfl rfl rfl ?_
  refine x_iload_n rfl rfl rfl ?_
  refine x_icmpN_ge (by omega) (by omega) rfl rfl (fun hc5 => absurd hc5 (by omega)) (fun hc5 => ?_)
  refine x_aload_n rfl rfl rfl ?_
  refine x_getR0 rfl rfl f_8_20 rfl (by decide) rfl rfl ?_
  refine x_getR0 rfl rfl f_8_79 rfl (by decide) rfl rfl ?_
  refine x_iload rfl rfl rfl ?_
  refine x_aaldi (a := n) rfl rfl rfl (by decide) (by decide) (by omega) (by decide) rfl ?_
  refine x_getRi rfl rfl f_8_92 rfl (by show _ < 40; omega) rfl rfl ?_
  refine x_iconstN (b := 4) rfl rfl ?_
  refine x_lload_n rfl rfl rfl ?_
  refine x_bipush (v := nI 8) rfl rfl (by decide +kernel) ?_
  refine x_iload rfl rfl rfl ?_
  refine x_imulN (a := 8) (b := 2) rfl rfl ?_
  refine x_lshr rfl rfl ?_
  refine x_ldc2 (v := 255) rfl rfl k_8_95 ?_
  refine x_land rfl rfl ?_
  refine x_callSl (d2 := 0) (c_valueOf hG (nI 4) ((b >>> ((nI 16).toInt64 &&& 63)) &&& 255)) rfl rfl s_8_68 rfl rfl (Nat.le_of_ble_eq_true rfl) (by omega) (by omega) ?_
  refine x_callVv (d2 := 0) (c_LL_add (len := 2) hG (lk_9 (by omega)) (16 * ((b >>> ((nI 16).toInt64 &&& 63)) &&& 255) + (nI 4).toInt64) (by first | rfl | simp [ui, ul]) (by omega)) rfl rfl v_8_97 rfl rfl (by show _ < 40; omega) rfl rfl (Nat.le_of_ble_eq_true rfl) (by omega) (by omega) ?_
  refine x_iincN (a := 2) (b := 1) rfl rfl rfl rfl rfl ?_
  refine x_goto rfl rfl ?_
  refine x_iload rfl rfl rfl ?_
  refine x_iload_n rfl rfl rfl ?_
  refine x_icmpN_ge (by omega) (by omega) rfl rfl (fun hc6 => ?_) (fun hc6 => absurd hc6 (by omega))
  refine x_bipush (v := nI 7) rfl rfl (by decide +kernel) ?_
  refine x_iload rfl rfl rfl ?_
  refine x_i2lN (a := n) (by omega) rfl rfl ?_
  refine x_callSl (d2 := 0) (c_valueOf hG (nI 7) (lN (n))) rfl rfl s_8_68 rfl rfl (Nat.le_of_ble_eq_true rfl) (by omega) (by omega) ?_
  exact x_retL rfl rfl rfl (by omega) rfl rfl
set_option maxHeartbeats 4000000 in
set_option maxRecDepth 20000 in
theorem c_bytes4 (hG : Gok G) (hd : 3 ≤ d) (b : Int64) {n : Nat} (hn : M.1 (1, 0) 5 = nI n) (hn2 : n < 40) : Ct G mX8_bytes d [.ref (ga G (0, 0)), .long (b), .int (nI 4)] M (.inl (some (.long (16 * (lN (n)) + (nI 7).toInt64)))) (ui (ul (ui (ul (ui (ul (ui (ul (ui (ui (ui (ui (ul (ui (ui M (8, n) 3 (nI 12)) (8, n) 4 ((-1))) (8, n) 5 0) (9, n) 1 (nI 0)) (11, n) 1 (nI 0)) (13, n) 1 (nI 0)) (1, 0) 5 (nI (n + 1))) (10, n) 0 (16 * ((b >>> ((nI 0).toInt64 &&& 63)) &&& 255) + (nI 4).toInt64)) (9, n) 1 (nI 1)) (10, n) 1 (16 * ((b >>> ((nI 8).toInt64 &&& 63)) &&& 255) + (nI 4).toInt64)) (9, n) 1 (nI 2)) (10, n) 2 (16 * ((b >>> ((nI 16).toInt64 &&& 63)) &&& 255) + (nI 4).toInt64)) (9, n) 1 (nI 3)) (10, n) 3 (16 * ((b >>> ((nI 24).toInt64 &&& 63)) &&& 255) + (nI 4).toInt64)) (9, n) 1 (nI 4)) 0 := by
  refine ct_of hG okX8_bytes (by decide +kernel) rfl (Nat.le_of_ble_eq_true rfl) ?_
  refine x_iload_n rfl rfl rfl ?_
  refine x_if_lt rfl rfl (fun hc1 => absurd hc1 (by decide +kernel)) (fun _ => ?_)
  refine x_iload_n rfl rfl rfl ?_
  refine x_bipush (v := nI 8) rfl rfl (by decide +kernel) ?_
  refine x_icmpN_le (by omega) (by omega) rfl rfl (fun hc2 => ?_) (fun hc2 => absurd hc2 (by omega))
  refine x_aload_n rfl rfl rfl ?_
  refine x_callVv (d2 := 0) (c_refuse0 (n := n) hG hn (by omega)) rfl rfl v_8_72 rfl rfl (by decide) rfl rfl (Nat.le_of_ble_eq_true rfl) (by omega) (by omega) ?_
  refine x_aload_n rfl rfl rfl ?_
  refine x_getR0 rfl rfl f_8_20 rfl (by decide) rfl rfl ?_
  refine x_bipush (v := nI 12) rfl rfl (by decide +kernel) ?_
  refine x_callVi (d2 := 2) (c_makeThing (n := n) hG (Nat.le_refl 2) (nI 12) hn (by omega)) rfl rfl v_8_75 rfl rfl (by decide) rfl rfl (Nat.le_of_ble_eq_true rfl) (by omega) (by omega) ?_
  refine x_istore rfl rfl rfl rfl ?_
  refine x_iconstN (b := 0) rfl rfl ?_
  refine x_istore rfl rfl rfl rfl ?_
  refine x_iload rfl rfl rfl ?_
  refine x_iload_n rfl rfl rfl ?_
  refine x_icmpN_ge (by omega) (by omega) rfl rfl (fun hc3 => absurd hc3 (by omega)) (fun hc3 => ?_)
  refine x_aload_n rfl rfl rfl ?_
  refine x_getR0 rfl rfl f_8_20 rfl (by decide) rfl rfl ?_
  refine x_getR0 rfl rfl f_8_79 rfl (by decide) rfl rfl ?_
  refine x_iload rfl rfl rfl ?_
  refine x_aaldi (a := n) rfl rfl rfl (by decide) (by decide) (by omega) (by decide) rfl ?_
  refine x_getRi rfl rfl f_8_92 rfl (by show _ < 40; omega) rfl rfl ?_
  refine x_iconstN (b := 4) rfl rfl ?_
  refine x_lload_n rfl rfl rfl ?_
  refine x_bipush (v := nI 8) rfl rfl (by decide +kernel) ?_
  refine x_iload rfl rfl rfl ?_
  refine x_imulN (a := 8) (b := 0) rfl rfl ?_
  refine x_lshr rfl rfl ?_
  refine x_ldc2 (v := 255) rfl rfl k_8_95 ?_
  refine x_land rfl rfl ?_
  refine x_callSl (d2 := 0) (c_valueOf hG (nI 4) ((b >>> ((nI 0).toInt64 &&& 63)) &&& 255)) rfl rfl s_8_68 rfl rfl (Nat.le_of_ble_eq_true rfl) (by omega) (by omega) ?_
  refine x_callVv (d2 := 0) (c_LL_add (len := 0) hG (lk_9 (by omega)) (16 * ((b >>> ((nI 0).toInt64 &&& 63)) &&& 255) + (nI 4).toInt64) (by first | rfl | simp [ui, ul]) (by omega)) rfl rfl v_8_97 rfl rfl (by show _ < 40; omega) rfl rfl (Nat.le_of_ble_eq_true rfl) (by omega) (by omega) ?_
  refine x_iincN (a := 0) (b := 1) rfl rfl rfl rfl rfl ?_
  refine x_goto rfl rfl ?_
  refine x_iload rfl rfl rfl ?_
  refine x_iload_n rfl rfl rfl ?_
  refine x_icmpN_ge (by omega) (by omega) rfl rfl (fun hc4 => absurd hc4 (by omega)) (fun hc4 => ?_)
  refine x_aload_n rfl rfl rfl ?_
  refine x_getR0 rfl rfl f_8_20 rfl (by decide) rfl rfl ?_
  refine x_getR0 rfl rfl f_8_79 rfl (by decide) rfl rfl ?_
  refine x_iload rfl rfl rfl ?_
  refine x_aaldi (a := n) rfl rfl rfl (by decide) (by decide) (by omega) (by decide) rfl ?_
  refine x_getRi rfl rfl f_8_92 rfl (by show _ < 40; omega) rfl rfl ?_
  refine x_iconstN (b := 4) rfl rfl ?_
  refine x_lload_n rfl rfl rfl ?_
  refine x_bipush (v := nI 8) rfl rfl (by decide +kernel) ?_
  refine x_iload rfl rfl rfl ?_
  refine x_imulN (a := 8) (b := 1) rfl rfl ?_
  refine x_lshr rfl rfl ?_
  refine x_ldc2 (v := 255) rfl rfl k_8_95 ?_
  refine x_land rfl rfl ?_
  refine x_callSl (d2 := 0) (c_valueOf hG (nI 4) ((b >>> ((nI 8).toInt64 &&& 63)) &&& 255)) rfl rfl s_8_68 rfl rfl (Nat.le_of_ble_eq_true rfl) (by omega) (by omega) ?_
  refine x_callVv (d2 := 0) (c_LL_add (len := 1) hG (lk_9 (by omega)) (16 * ((b >>> ((nI 8).toInt64 &&& 63)) &&& 255) + (nI 4).toInt64) (by first | rfl | simp [ui, ul]) (by omega)) rfl rfl v_8_97 rfl rfl (by show _ < 40; omega) rfl rfl (Nat.le_of_ble_eq_true rfl) (by omega) (by omega) ?_
  refine x_iincN (a := 1) (b := 1) rfl rfl rfl rfl rfl ?_
  refine x_goto rfl rfl ?_
  refine x_iload rfl rfl rfl ?_
  refine x_iload_n rfl rfl rfl ?_
  refine x_icmpN_ge (by omega) (by omega) rfl rfl (fun hc5 => absurd hc5 (by omega)) (fun hc5 => ?_)
  refine x_aload_n rfl rfl rfl ?_
  refine x_getR0 rfl rfl f_8_20 rfl (by decide) rfl rfl ?_
  refine x_getR0 rfl rfl f_8_79 rfl (by decide) rfl rfl ?_
  refine x_iload rfl rfl rfl ?_
  refine x_aaldi (a := n) rfl rfl rfl (by decide) (by decide) (by omega) (by decide) rfl ?_
  refine x_getRi rfl rfl f_8_92 rfl (by show _ < 40; omega) rfl rfl ?_
  refine x_iconstN (b := 4) rfl rfl ?_
  refine x_lload_n rfl rfl rfl ?_
  refine x_bipush (v := nI 8) rfl rfl (by decide +kernel) ?_
  refine x_iload rfl rfl rfl ?_
  refine x_imulN (a := 8) (b := 2) rfl rfl ?_
  refine x_lshr rfl rfl ?_
  refine x_ldc2 (v := 255) rfl rfl k_8_95 ?_
  refine x_land rfl rfl ?_
  refine x_callSl (d2 := 0) (c_valueOf hG (nI 4) ((b >>> ((nI 16).toInt64 &&& 63)) &&& 255)) rfl rfl s_8_68 rfl rfl (Nat.le_of_ble_eq_true rfl) (by omega) (by omega) ?_
  refine x_callVv (d2 := 0) (c_LL_add (len := 2) hG (lk_9 (by omega)) (16 * ((b >>> ((nI 16).toInt64 &&& 63)) &&& 255) + (nI 4).toInt64) (by first | rfl | simp [ui, ul]) (by omega)) rfl rfl v_8_97 rfl rfl (by show _ < 40; omega) rfl rfl (Nat.le_of_ble_eq_true rfl) (by omega) (by omega) ?_
  refine x_iincN (a := 2) (b := 1) rfl rfl rfl rfl rfl ?_
  refine x_goto rfl rfl ?_
  refine x_iload rfl rfl rfl ?_
  refine x_iload_n rfl rfl rfl ?_
  refine x_icmpN_ge (by omega) (by omega) rfl rfl (fun hc6 => absurd hc6 (by omega)) (fun hc6 => ?_)
  refine x_aload_n rfl rfl rfl ?_
  refine x_getR0 rfl rfl f_8_20 rfl (by decide) rfl rfl ?_
  refine x_getR0 rfl rfl f_8_79 rfl (by decide) rfl rfl ?_
  refine x_iload rfl rfl rfl ?_
  refine x_aaldi (a := n) rfl rfl rfl (by decide) (by decide) (by omega) (by decide) rfl ?_
  refine x_getRi rfl rfl f_8_92 rfl (by show _ < 40; omega) rfl rfl ?_
  refine x_iconstN (b := 4) rfl rfl ?_
  refine x_lload_n rfl rfl rfl ?_
  refine x_bipush (v := nI 8) rfl rfl (by decide +kernel) ?_
  refine x_iload rfl rfl rfl ?_
  refine x_imulN (a := 8) (b := 3) rfl rfl ?_
  refine x_lshr rfl rfl ?_
  refine x_ldc2 (v := 255) rfl rfl k_8_95 ?_
  refine x_land rfl rfl ?_
  refine x_callSl (d2 := 0) (c_valueOf hG (nI 4) ((b >>> ((nI 24).toInt64 &&& 63)) &&& 255)) rfl rfl s_8_68 rfl rfl (Nat.le_of_ble_eq_true rfl) (by omega) (by omega) ?_
  refine x_callVv (d2 := 0) (c_LL_add (len := 3) hG (lk_9 (by omega)) (16 * ((b >>> ((nI 24).toInt64 &&& 63)) &&& 255) + (nI 4).toInt64) (by first | rfl | simp [ui, ul]) (by omega)) rfl rfl v_8_97 rfl rfl (by show _ < 40; omega) rfl rfl (Nat.le_of_ble_eq_true rfl) (by omega) (by omega) ?_
  refine x_iincN (a := 3) (b := 1) rfl rfl rfl rfl rfl ?_
  refine x_goto rfl rfl ?_
  refine x_iload rfl rfl rfl ?_
  refine x_iload_n rfl rfl rfl ?_
  refine x_icmpN_ge (by omega) (by omega) rfl rfl (fun hc7 => ?_) (fun hc7 => absurd hc7 (by omega))
  refine x_bipush (v := nI 7) rfl rfl (by decide +kernel) ?_
  refine x_iload rfl rfl rfl ?_
  refine x_i2lN (a := n) (by omega) rfl rfl ?_
  refine x_callSl (d2 := 0) (c_valueOf hG (nI 7) (lN (n))) rfl rfl s_8_68 rfl rfl (Nat.le_of_ble_eq_true rfl) (by omega) (by omega) ?_
  exact x_retL rfl rfl rfl (by omega) rfl rfl
set_option maxHeartbeats 4000000 in
set_option maxRecDepth 20000 in
theorem c_bytes5 (hG : Gok G) (hd : 3 ≤ d) (b : Int64) {n : Nat} (hn : M.1 (1, 0) 5 = nI n) (hn2 : n < 40) : Ct G mX8_bytes d [.ref (ga G (0, 0)), .long (b), .int (nI 5)] M (.inl (some (.long (16 * (lN (n)) + (nI 7).toInt64)))) (ui (ul (ui (ul (ui (ul (ui (ul (ui (ul (ui (ui (ui (ui (ul (ui (ui M (8, n) 3 (nI 12)) (8, n) 4 ((-1))) (8, n) 5 0) (9, n) 1 (nI 0)) (11, n) 1 (nI 0)) (13, n) 1 (nI 0)) (1, 0) 5 (nI (n + 1))) (10, n) 0 (16 * ((b >>> ((nI 0).toInt64 &&& 63)) &&& 255) + (nI 4).toInt64)) (9, n) 1 (nI 1)) (10, n) 1 (16 * ((b >>> ((nI 8).toInt64 &&& 63)) &&& 255) + (nI 4).toInt64)) (9, n) 1 (nI 2)) (10, n) 2 (16 * ((b >>> ((nI 16).toInt64 &&& 63)) &&& 255) + (nI 4).toInt64)) (9, n) 1 (nI 3)) (10, n) 3 (16 * ((b >>> ((nI 24).toInt64 &&& 63)) &&& 255) + (nI 4).toInt64)) (9, n) 1 (nI 4)) (10, n) 4 (16 * ((b >>> ((nI 32).toInt64 &&& 63)) &&& 255) + (nI 4).toInt64)) (9, n) 1 (nI 5)) 0 := by
  refine ct_of hG okX8_bytes (by decide +kernel) rfl (Nat.le_of_ble_eq_true rfl) ?_
  refine x_iload_n rfl rfl rfl ?_
  refine x_if_lt rfl rfl (fun hc1 => absurd hc1 (by decide +kernel)) (fun _ => ?_)
  refine x_iload_n rfl rfl rfl ?_
  refine x_bipush (v := nI 8) rfl rfl (by decide +kernel) ?_
  refine x_icmpN_le (by omega) (by omega) rfl rfl (fun hc2 => ?_) (fun hc2 => absurd hc2 (by omega))
  refine x_aload_n rfl rfl rfl ?_
  refine x_callVv (d2 := 0) (c_refuse0 (n := n) hG hn (by omega)) rfl rfl v_8_72 rfl rfl (by decide) rfl rfl (Nat.le_of_ble_eq_true rfl) (by omega) (by omega) ?_
  refine x_aload_n rfl rfl rfl ?_
  refine x_getR0 rfl rfl f_8_20 rfl (by decide) rfl rfl ?_
  refine x_bipush (v := nI 12) rfl rfl (by decide +kernel) ?_
  refine x_callVi (d2 := 2) (c_makeThing (n := n) hG (Nat.le_refl 2) (nI 12) hn (by omega)) rfl rfl v_8_75 rfl rfl (by decide) rfl rfl (Nat.le_of_ble_eq_true rfl) (by omega) (by omega) ?_
  refine x_istore rfl rfl rfl rfl ?_
  refine x_iconstN (b := 0) rfl rfl ?_
  refine x_istore rfl rfl rfl rfl ?_
  refine x_iload rfl rfl rfl ?_
  refine x_iload_n rfl rfl rfl ?_
  refine x_icmpN_ge (by omega) (by omega) rfl rfl (fun hc3 => absurd hc3 (by omega)) (fun hc3 => ?_)
  refine x_aload_n rfl rfl rfl ?_
  refine x_getR0 rfl rfl f_8_20 rfl (by decide) rfl rfl ?_
  refine x_getR0 rfl rfl f_8_79 rfl (by decide) rfl rfl ?_
  refine x_iload rfl rfl rfl ?_
  refine x_aaldi (a := n) rfl rfl rfl (by decide) (by decide) (by omega) (by decide) rfl ?_
  refine x_getRi rfl rfl f_8_92 rfl (by show _ < 40; omega) rfl rfl ?_
  refine x_iconstN (b := 4) rfl rfl ?_
  refine x_lload_n rfl rfl rfl ?_
  refine x_bipush (v := nI 8) rfl rfl (by decide +kernel) ?_
  refine x_iload rfl rfl rfl ?_
  refine x_imulN (a := 8) (b := 0) rfl rfl ?_
  refine x_lshr rfl rfl ?_
  refine x_ldc2 (v := 255) rfl rfl k_8_95 ?_
  refine x_land rfl rfl ?_
  refine x_callSl (d2 := 0) (c_valueOf hG (nI 4) ((b >>> ((nI 0).toInt64 &&& 63)) &&& 255)) rfl rfl s_8_68 rfl rfl (Nat.le_of_ble_eq_true rfl) (by omega) (by omega) ?_
  refine x_callVv (d2 := 0) (c_LL_add (len := 0) hG (lk_9 (by omega)) (16 * ((b >>> ((nI 0).toInt64 &&& 63)) &&& 255) + (nI 4).toInt64) (by first | rfl | simp [ui, ul]) (by omega)) rfl rfl v_8_97 rfl rfl (by show _ < 40; omega) rfl rfl (Nat.le_of_ble_eq_true rfl) (by omega) (by omega) ?_
  refine x_iincN (a := 0) (b := 1) rfl rfl rfl rfl rfl ?_
  refine x_goto rfl rfl ?_
  refine x_iload rfl rfl rfl ?_
  refine x_iload_n rfl rfl rfl ?_
  refine x_icmpN_ge (by omega) (by omega) rfl rfl (fun hc4 => absurd hc4 (by omega)) (fun hc4 => ?_)
  refine x_aload_n rfl rfl rfl ?_
  refine x_getR0 rfl rfl f_8_20 rfl (by decide) rfl rfl ?_
  refine x_getR0 rfl rfl f_8_79 rfl (by decide) rfl rfl ?_
  refine x_iload rfl rfl rfl ?_
  refine x_aaldi (a := n) rfl rfl rfl (by decide) (by decide) (by omega) (by decide) rfl ?_
  refine x_getRi rfl rfl f_8_92 rfl (by show _ < 40; omega) rfl rfl ?_
  refine x_iconstN (b := 4) rfl rfl ?_
  refine x_lload_n rfl rfl rfl ?_
  refine x_bipush (v := nI 8) rfl rfl (by decide +kernel) ?_
  refine x_iload rfl rfl rfl ?_
  refine x_imulN (a := 8) (b := 1) rfl rfl ?_
  refine x_lshr rfl rfl ?_
  refine x_ldc2 (v := 255) rfl rfl k_8_95 ?_
  refine x_land rfl rfl ?_
  refine x_callSl (d2 := 0) (c_valueOf hG (nI 4) ((b >>> ((nI 8).toInt64 &&& 63)) &&& 255)) rfl rfl s_8_68 rfl rfl (Nat.le_of_ble_eq_true rfl) (by omega) (by omega) ?_
  refine x_callVv (d2 := 0) (c_LL_add (len := 1) hG (lk_9 (by omega)) (16 * ((b >>> ((nI 8).toInt64 &&& 63)) &&& 255) + (nI 4).toInt64) (by first | rfl | simp [ui, ul]) (by omega)) rfl rfl v_8_97 rfl rfl (by show _ < 40; omega) rfl rfl (Nat.le_of_ble_eq_true rfl) (by omega) (by omega) ?_
  refine x_iincN (a := 1) (b := 1) rfl rfl rfl rfl rfl ?_
  refine x_goto rfl rfl ?_
  refine x_iload rfl rfl rfl ?_
  refine x_iload_n rfl rfl rfl ?_
  refine x_icmpN_ge (by omega) (by omega) rfl rfl (fun hc5 => absurd hc5 (by omega)) (fun hc5 => ?_)
  refine x_aload_n rfl rfl rfl ?_
  refine x_getR0 rfl rfl f_8_20 rfl (by decide) rfl rfl ?_
  refine x_getR0 rfl rfl f_8_79 rfl (by decide) rfl rfl ?_
  refine x_iload rfl rfl rfl ?_
  refine x_aaldi (a := n) rfl rfl rfl (by decide) (by decide) (by omega) (by decide) rfl ?_
  refine x_getRi rfl rfl f_8_92 rfl (by show _ < 40; omega) rfl rfl ?_
  refine x_iconstN (b := 4) rfl rfl ?_
  refine x_lload_n rfl rfl rfl ?_
  refine x_bipush (v := nI 8) rfl rfl (by decide +kernel) ?_
  refine x_iload rfl rfl rfl ?_
  refine x_imulN (a := 8) (b := 2) rfl rfl ?_
  refine x_lshr rfl rfl ?_
  refine x_ldc2 (v := 255) rfl rfl k_8_95 ?_
  refine x_land rfl rfl ?_
  refine x_callSl (d2 := 0) (c_valueOf hG (nI 4) ((b >>> ((nI 16).toInt64 &&& 63)) &&& 255)) rfl rfl s_8_68 rfl rfl (Nat.le_of_ble_eq_true rfl) (by omega) (by omega) ?_
  refine x_callVv (d2 := 0) (c_LL_add (len := 2) hG (lk_9 (by omega)) (16 * ((b >>> ((nI 16).toInt64 &&& 63)) &&& 255) + (nI 4).toInt64) (by first | rfl | simp [ui, ul]) (by omega)) rfl rfl v_8_97 rfl rfl (by show _ < 40; omega) rfl rfl (Nat.le_of_ble_eq_true rfl) (by omega) (by omega) ?_
  refine x_iincN (a := 2) (b := 1) rfl rfl rfl rfl rfl ?_
  refine x_goto rfl rfl ?_
  refine x_iload rfl rfl rfl ?_
  refine x_iload_n rfl rfl rfl ?_
  refine x_icmpN_ge (by omega) (by omega) rfl rfl (fun hc6 => absurd hc6 (by omega)) (fun hc6 => ?_)
  refine x_aload_n rfl rfl rfl ?_
  refine x_getR0 rfl rfl f_8_20 rfl (by decide) rfl rfl ?_
  refine x_getR0 rfl rfl f_8_79 rfl (by decide) rfl rfl ?_
  refine x_iload rfl rfl rfl ?_
  refine x_aaldi (a := n) rfl rfl rfl (by decide) (by decide) (by omega) (by decide) rfl ?_
  refine x_getRi rfl rfl f_8_92 rfl (by show _ < 40; omega) rfl rfl ?_
  refine x_iconstN (b := 4) rfl rfl ?_
  refine x_lload_n rfl rfl rfl ?_
  refine x_bipush (v := nI 8) rfl rfl (by decide +kernel) ?_
  refine x_iload rfl rfl rfl ?_
  refine x_imulN (a := 8) (b := 3) rfl rfl ?_
  refine x_lshr rfl rfl ?_
  refine x_ldc2 (v := 255) rfl rfl k_8_95 ?_
  refine x_land rfl rfl ?_
  refine x_callSl (d2 := 0) (c_valueOf hG (nI 4) ((b >>> ((nI 24).toInt64 &&& 63)) &&& 255)) rfl rfl s_8_68 rfl rfl (Nat.le_of_ble_eq_true rfl) (by omega) (by omega) ?_
  refine x_callVv (d2 := 0) (c_LL_add (len := 3) hG (lk_9 (by omega)) (16 * ((b >>> ((nI 24).toInt64 &&& 63)) &&& 255) + (nI 4).toInt64) (by first | rfl | simp [ui, ul]) (by omega)) rfl rfl v_8_97 rfl rfl (by show _ < 40; omega) rfl rfl (Nat.le_of_ble_eq_true rfl) (by omega) (by omega) ?_
  refine x_iincN (a := 3) (b := 1) rfl rfl rfl rfl rfl ?_
  refine x_goto rfl rfl ?_
  refine x_iload rfl rfl rfl ?_
  refine x_iload_n rfl rfl rfl ?_
  refine x_icmpN_ge (by omega) (by omega) rfl rfl (fun hc7 => absurd hc7 (by omega)) (fun hc7 => ?_)
  refine x_aload_n rfl rfl rfl ?_
  refine x_getR0 rfl rfl f_8_20 rfl (by decide) rfl rfl ?_
  refine x_getR0 rfl rfl f_8_79 rfl (by decide) rfl rfl ?_
  refine x_iload rfl rfl rfl ?_
  refine x_aaldi (a := n) rfl rfl rfl (by decide) (by decide) (by omega) (by decide) rfl ?_
  refine x_getRi rfl rfl f_8_92 rfl (by show _ < 40; omega) rfl rfl ?_
  refine x_iconstN (b := 4) rfl rfl ?_
  refine x_lload_n rfl rfl rfl ?_
  refine x_bipush (v := nI 8) rfl rfl (by decide +kernel) ?_
  refine x_iload rfl rfl rfl ?_
  refine x_imulN (a := 8) (b := 4) rfl rfl ?_
  refine x_lshr rfl rfl ?_
  refine x_ldc2 (v := 255) rfl rfl k_8_95 ?_
  refine x_land rfl rfl ?_
  refine x_callSl (d2 := 0) (c_valueOf hG (nI 4) ((b >>> ((nI 32).toInt64 &&& 63)) &&& 255)) rfl rfl s_8_68 rfl rfl (Nat.le_of_ble_eq_true rfl) (by omega) (by omega) ?_
  refine x_callVv (d2 := 0) (c_LL_add (len := 4) hG (lk_9 (by omega)) (16 * ((b >>> ((nI 32).toInt64 &&& 63)) &&& 255) + (nI 4).toInt64) (by first | rfl | simp [ui, ul]) (by omega)) rfl rfl v_8_97 rfl rfl (by show _ < 40; omega) rfl rfl (Nat.le_of_ble_eq_true rfl) (by omega) (by omega) ?_
  refine x_iincN (a := 4) (b := 1) rfl rfl rfl rfl rfl ?_
  refine x_goto rfl rfl ?_
  refine x_iload rfl rfl rfl ?_
  refine x_iload_n rfl rfl rfl ?_
  refine x_icmpN_ge (by omega) (by omega) rfl rfl (fun hc8 => ?_) (fun hc8 => absurd hc8 (by omega))
  refine x_bipush (v := nI 7) rfl rfl (by decide +kernel) ?_
  refine x_iload rfl rfl rfl ?_
  refine x_i2lN (a := n) (by omega) rfl rfl ?_
  refine x_callSl (d2 := 0) (c_valueOf hG (nI 7) (lN (n))) rfl rfl s_8_68 rfl rfl (Nat.le_of_ble_eq_true rfl) (by omega) (by omega) ?_
  exact x_retL rfl rfl rfl (by omega) rfl rfl
set_option maxHeartbeats 4000000 in
set_option maxRecDepth 20000 in
theorem c_bytes6 (hG : Gok G) (hd : 3 ≤ d) (b : Int64) {n : Nat} (hn : M.1 (1, 0) 5 = nI n) (hn2 : n < 40) : Ct G mX8_bytes d [.ref (ga G (0, 0)), .long (b), .int (nI 6)] M (.inl (some (.long (16 * (lN (n)) + (nI 7).toInt64)))) (ui (ul (ui (ul (ui (ul (ui (ul (ui (ul (ui (ul (ui (ui (ui (ui (ul (ui (ui M (8, n) 3 (nI 12)) (8, n) 4 ((-1))) (8, n) 5 0) (9, n) 1 (nI 0)) (11, n) 1 (nI 0)) (13, n) 1 (nI 0)) (1, 0) 5 (nI (n + 1))) (10, n) 0 (16 * ((b >>> ((nI 0).toInt64 &&& 63)) &&& 255) + (nI 4).toInt64)) (9, n) 1 (nI 1)) (10, n) 1 (16 * ((b >>> ((nI 8).toInt64 &&& 63)) &&& 255) + (nI 4).toInt64)) (9, n) 1 (nI 2)) (10, n) 2 (16 * ((b >>> ((nI 16).toInt64 &&& 63)) &&& 255) + (nI 4).toInt64)) (9, n) 1 (nI 3)) (10, n) 3 (16 * ((b >>> ((nI 24).toInt64 &&& 63)) &&& 255) + (nI 4).toInt64)) (9, n) 1 (nI 4)) (10, n) 4 (16 * ((b >>> ((nI 32).toInt64 &&& 63)) &&& 255) + (nI 4).toInt64)) (9, n) 1 (nI 5)) (10, n) 5 (16 * ((b >>> ((nI 40).toInt64 &&& 63)) &&& 255) + (nI 4).toInt64)) (9, n) 1 (nI 6)) 0 := by
  refine ct_of hG okX8_bytes (by decide +kernel) rfl (Nat.le_of_ble_eq_true rfl) ?_
  refine x_iload_n rfl rfl rfl ?_
  refine x_if_lt rfl rfl (fun hc1 => absurd hc1 (by decide +kernel)) (fun _ => ?_)
  refine x_iload_n rfl rfl rfl ?_
  refine x_bipush (v := nI 8) rfl rfl (by decide +kernel) ?_
  refine x_icmpN_le (by omega) (by omega) rfl rfl (fun hc2 => ?_) (fun hc2 => absurd hc2 (by omega))
  refine x_aload_n rfl rfl rfl ?_
  refine x_callVv (d2 := 0) (c_refuse0 (n := n) hG hn (by omega)) rfl rfl v_8_72 rfl rfl (by decide) rfl rfl (Nat.le_of_ble_eq_true rfl) (by omega) (by omega) ?_
  refine x_aload_n rfl rfl rfl ?_
  refine x_getR0 rfl rfl f_8_20 rfl (by decide) rfl rfl ?_
  refine x_bipush (v := nI 12) rfl rfl (by decide +kernel) ?_
  refine x_callVi (d2 := 2) (c_makeThing (n := n) hG (Nat.le_refl 2) (nI 12) hn (by omega)) rfl rfl v_8_75 rfl rfl (by decide) rfl rfl (Nat.le_of_ble_eq_true rfl) (by omega) (by omega) ?_
  refine x_istore rfl rfl rfl rfl ?_
  refine x_iconstN (b := 0) rfl rfl ?_
  refine x_istore rfl rfl rfl rfl ?_
  refine x_iload rfl rfl rfl ?_
  refine x_iload_n rfl rfl rfl ?_
  refine x_icmpN_ge (by omega) (by omega) rfl rfl (fun hc3 => absurd hc3 (by omega)) (fun hc3 => ?_)
  refine x_aload_n rfl rfl rfl ?_
  refine x_getR0 rfl rfl f_8_20 rfl (by decide) rfl rfl ?_
  refine x_getR0 rfl rfl f_8_79 rfl (by decide) rfl rfl ?_
  refine x_iload rfl rfl rfl ?_
  refine x_aaldi (a := n) rfl rfl rfl (by decide) (by decide) (by omega) (by decide) rfl ?_
  refine x_getRi rfl rfl f_8_92 rfl (by show _ < 40; omega) rfl rfl ?_
  refine x_iconstN (b := 4) rfl rfl ?_
  refine x_lload_n rfl rfl rfl ?_
  refine x_bipush (v := nI 8) rfl rfl (by decide +kernel) ?_
  refine x_iload rfl rfl rfl ?_
  refine x_imulN (a := 8) (b := 0) rfl rfl ?_
  refine x_lshr rfl rfl ?_
  refine x_ldc2 (v := 255) rfl rfl k_8_95 ?_
  refine x_land rfl rfl ?_
  refine x_callSl (d2 := 0) (c_valueOf hG (nI 4) ((b >>> ((nI 0).toInt64 &&& 63)) &&& 255)) rfl rfl s_8_68 rfl rfl (Nat.le_of_ble_eq_true rfl) (by omega) (by omega) ?_
  refine x_callVv (d2 := 0) (c_LL_add (len := 0) hG (lk_9 (by omega)) (16 * ((b >>> ((nI 0).toInt64 &&& 63)) &&& 255) + (nI 4).toInt64) (by first | rfl | simp [ui, ul]) (by omega)) rfl rfl v_8_97 rfl rfl (by show _ < 40; omega) rfl rfl (Nat.le_of_ble_eq_true rfl) (by omega) (by omega) ?_
  refine x_iincN (a := 0) (b := 1) rfl rfl rfl rfl rfl ?_
  refine x_goto rfl rfl ?_
  refine x_iload rfl rfl rfl ?_
  refine x_iload_n rfl rfl rfl ?_
  refine x_icmpN_ge (by omega) (by omega) rfl rfl (fun hc4 => absurd hc4 (by omega)) (fun hc4 => ?_)
  refine x_aload_n rfl rfl rfl ?_
  refine x_getR0 rfl rfl f_8_20 rfl (by decide) rfl rfl ?_
  refine x_getR0 rfl rfl f_8_79 rfl (by decide) rfl rfl ?_
  refine x_iload rfl rfl rfl ?_
  refine x_aaldi (a := n) rfl rfl rfl (by decide) (by decide) (by omega) (by decide) rfl ?_
  refine x_getRi rfl rfl f_8_92 rfl (by show _ < 40; omega) rfl rfl ?_
  refine x_iconstN (b := 4) rfl rfl ?_
  refine x_lload_n rfl rfl rfl ?_
  refine x_bipush (v := nI 8) rfl rfl (by decide +kernel) ?_
  refine x_iload rfl rfl rfl ?_
  refine x_imulN (a := 8) (b := 1) rfl rfl ?_
  refine x_lshr rfl rfl ?_
  refine x_ldc2 (v := 255) rfl rfl k_8_95 ?_
  refine x_land rfl rfl ?_
  refine x_callSl (d2 := 0) (c_valueOf hG (nI 4) ((b >>> ((nI 8).toInt64 &&& 63)) &&& 255)) rfl rfl s_8_68 rfl rfl (Nat.le_of_ble_eq_true rfl) (by omega) (by omega) ?_
  refine x_callVv (d2 := 0) (c_LL_add (len := 1) hG (lk_9 (by omega)) (16 * ((b >>> ((nI 8).toInt64 &&& 63)) &&& 255) + (nI 4).toInt64) (by first | rfl | simp [ui, ul]) (by omega)) rfl rfl v_8_97 rfl rfl (by show _ < 40; omega) rfl rfl (Nat.le_of_ble_eq_true rfl) (by omega) (by omega) ?_
  refine x_iincN (a := 1) (b := 1) rfl rfl rfl rfl rfl ?_
  refine x_goto rfl rfl ?_
  refine x_iload rfl rfl rfl ?_
  refine x_iload_n rfl rfl rfl ?_
  refine x_icmpN_ge (by omega) (by omega) rfl rfl (fun hc5 => absurd hc5 (by omega)) (fun hc5 => ?_)
  refine x_aload_n rfl rfl rfl ?_
  refine x_getR0 rfl rfl f_8_20 rfl (by decide) rfl rfl ?_
  refine x_getR0 rfl rfl f_8_79 rfl (by decide) rfl rfl ?_
  refine x_iload rfl rfl rfl ?_
  refine x_aaldi (a := n) rfl rfl rfl (by decide) (by decide) (by omega) (by decide) rfl ?_
  refine x_getRi rfl rfl f_8_92 rfl (by show _ < 40; omega) rfl rfl ?_
  refine x_iconstN (b := 4) rfl rfl ?_
  refine x_lload_n rfl rfl rfl ?_
  refine x_bipush (v := nI 8) rfl rfl (by decide +kernel) ?_
  refine x_iload rfl rfl rfl ?_
  refine x_imulN (a := 8) (b := 2) rfl rfl ?_
  refine x_lshr rfl rfl ?_
  refine x_ldc2 (v := 255) rfl rfl k_8_95 ?_
  refine x_land rfl rfl ?_
  refine x_callSl (d2 := 0) (c_valueOf hG (nI 4) ((b >>> ((nI 16).toInt64 &&& 63)) &&& 255)) rfl rfl s_8_68 rfl rfl (Nat.le_of_ble_eq_true rfl) (by omega) (by omega) ?_
  refine x_callVv (d2 := 0) (c_LL_add (len := 2) hG (lk_9 (by omega)) (16 * ((b >>> ((nI 16).toInt64 &&& 63)) &&& 255) + (nI 4).toInt64) (by first | rfl | simp [ui, ul]) (by omega)) rfl rfl v_8_97 rfl rfl (by show _ < 40; omega) rfl rfl (Nat.le_of_ble_eq_true rfl) (by omega) (by omega) ?_
  refine x_iincN (a := 2) (b := 1) rfl rfl rfl rfl rfl ?_
  refine x_goto rfl rfl ?_
  refine x_iload rfl rfl rfl ?_
  refine x_iload_n rfl rfl rfl ?_
  refine x_icmpN_ge (by omega) (by omega) rfl rfl (fun hc6 => absurd hc6 (by omega)) (fun hc6 => ?_)
  refine x_aload_n rfl rfl rfl ?_
  refine x_getR0 rfl rfl f_8_20 rfl (by decide) rfl rfl ?_
  refine x_getR0 rfl rfl f_8_79 rfl (by decide) rfl rfl ?_
  refine x_iload rfl rfl rfl ?_
  refine x_aaldi (a := n) rfl rfl rfl (by decide) (by decide) (by omega) (by decide) rfl ?_
  refine x_getRi rfl rfl f_8_92 rfl (by show _ < 40; omega) rfl rfl ?_
  refine x_iconstN (b := 4) rfl rfl ?_
  refine x_lload_n rfl rfl rfl ?_
  refine x_bipush (v := nI 8) rfl rfl (by decide +kernel) ?_
  refine x_iload rfl rfl rfl ?_
  refine x_imulN (a := 8) (b := 3) rfl rfl ?_
  refine x_lshr rfl rfl ?_
  refine x_ldc2 (v := 255) rfl rfl k_8_95 ?_
  refine x_land rfl rfl ?_
  refine x_callSl (d2 := 0) (c_valueOf hG (nI 4) ((b >>> ((nI 24).toInt64 &&& 63)) &&& 255)) rfl rfl s_8_68 rfl rfl (Nat.le_of_ble_eq_true rfl) (by omega) (by omega) ?_
  refine x_callVv (d2 := 0) (c_LL_add (len := 3) hG (lk_9 (by omega)) (16 * ((b >>> ((nI 24).toInt64 &&& 63)) &&& 255) + (nI 4).toInt64) (by first | rfl | simp [ui, ul]) (by omega)) rfl rfl v_8_97 rfl rfl (by show _ < 40; omega) rfl rfl (Nat.le_of_ble_eq_true rfl) (by omega) (by omega) ?_
  refine x_iincN (a := 3) (b := 1) rfl rfl rfl rfl rfl ?_
  refine x_goto rfl rfl ?_
  refine x_iload rfl rfl rfl ?_
  refine x_iload_n rfl rfl rfl ?_
  refine x_icmpN_ge (by omega) (by omega) rfl rfl (fun hc7 => absurd hc7 (by omega)) (fun hc7 => ?_)
  refine x_aload_n rfl rfl rfl ?_
  refine x_getR0 rfl rfl f_8_20 rfl (by decide) rfl rfl ?_
  refine x_getR0 rfl rfl f_8_79 rfl (by decide) rfl rfl ?_
  refine x_iload rfl rfl rfl ?_
  refine x_aaldi (a := n) rfl rfl rfl (by decide) (by decide) (by omega) (by decide) rfl ?_
  refine x_getRi rfl rfl f_8_92 rfl (by show _ < 40; omega) rfl rfl ?_
  refine x_iconstN (b := 4) rfl rfl ?_
  refine x_lload_n rfl rfl rfl ?_
  refine x_bipush (v := nI 8) rfl rfl (by decide +kernel) ?_
  refine x_iload rfl rfl rfl ?_
  refine x_imulN (a := 8) (b := 4) rfl rfl ?_
  refine x_lshr rfl rfl ?_
  refine x_ldc2 (v := 255) rfl rfl k_8_95 ?_
  refine x_land rfl rfl ?_
  refine x_callSl (d2 := 0) (c_valueOf hG (nI 4) ((b >>> ((nI 32).toInt64 &&& 63)) &&& 255)) rfl rfl s_8_68 rfl rfl (Nat.le_of_ble_eq_true rfl) (by omega) (by omega) ?_
  refine x_callVv (d2 := 0) (c_LL_add (len := 4) hG (lk_9 (by omega)) (16 * ((b >>> ((nI 32).toInt64 &&& 63)) &&& 255) + (nI 4).toInt64) (by first | rfl | simp [ui, ul]) (by omega)) rfl rfl v_8_97 rfl rfl (by show _ < 40; omega) rfl rfl (Nat.le_of_ble_eq_true rfl) (by omega) (by omega) ?_
  refine x_iincN (a := 4) (b := 1) rfl rfl rfl rfl rfl ?_
  refine x_goto rfl rfl ?_
  refine x_iload rfl rfl rfl ?_
  refine x_iload_n rfl rfl rfl ?_
  refine x_icmpN_ge (by omega) (by omega) rfl rfl (fun hc8 => absurd hc8 (by omega)) (fun hc8 => ?_)
  refine x_aload_n rfl rfl rfl ?_
  refine x_getR0 rfl rfl f_8_20 rfl (by decide) rfl rfl ?_
  refine x_getR0 rfl rfl f_8_79 rfl (by decide) rfl rfl ?_
  refine x_iload rfl rfl rfl ?_
  refine x_aaldi (a := n) rfl rfl rfl (by decide) (by decide) (by omega) (by decide) rfl ?_
  refine x_getRi rfl rfl f_8_92 rfl (by show _ < 40; omega) rfl rfl ?_
  refine x_iconstN (b := 4) rfl rfl ?_
  refine x_lload_n rfl rfl rfl ?_
  refine x_bipush (v := nI 8) rfl rfl (by decide +kernel) ?_
  refine x_iload rfl rfl rfl ?_
  refine x_imulN (a := 8) (b := 5) rfl rfl ?_
  refine x_lshr rfl rfl ?_
  refine x_ldc2 (v := 255) rfl rfl k_8_95 ?_
  refine x_land rfl rfl ?_
  refine x_callSl (d2 := 0) (c_valueOf hG (nI 4) ((b >>> ((nI 40).toInt64 &&& 63)) &&& 255)) rfl rfl s_8_68 rfl rfl (Nat.le_of_ble_eq_true rfl) (by omega) (by omega) ?_
  refine x_callVv (d2 := 0) (c_LL_add (len := 5) hG (lk_9 (by omega)) (16 * ((b >>> ((nI 40).toInt64 &&& 63)) &&& 255) + (nI 4).toInt64) (by first | rfl | simp [ui, ul]) (by omega)) rfl rfl v_8_97 rfl rfl (by show _ < 40; omega) rfl rfl (Nat.le_of_ble_eq_true rfl) (by omega) (by omega) ?_
  refine x_iincN (a := 5) (b := 1) rfl rfl rfl rfl rfl ?_
  refine x_goto rfl rfl ?_
  refine x_iload rfl rfl rfl ?_
  refine x_iload_n rfl rfl rfl ?_
  refine x_icmpN_ge (by omega) (by omega) rfl rfl (fun hc9 => ?_) (fun hc9 => absurd hc9 (by omega))
  refine x_bipush (v := nI 7) rfl rfl (by decide +kernel) ?_
  refine x_iload rfl rfl rfl ?_
  refine x_i2lN (a := n) (by omega) rfl rfl ?_
  refine x_callSl (d2 := 0) (c_valueOf hG (nI 7) (lN (n))) rfl rfl s_8_68 rfl rfl (Nat.le_of_ble_eq_true rfl) (by omega) (by omega) ?_
  exact x_retL rfl rfl rfl (by omega) rfl rfl
set_option maxHeartbeats 4000000 in
set_option maxRecDepth 20000 in
theorem c_bytes7 (hG : Gok G) (hd : 3 ≤ d) (b : Int64) {n : Nat} (hn : M.1 (1, 0) 5 = nI n) (hn2 : n < 40) : Ct G mX8_bytes d [.ref (ga G (0, 0)), .long (b), .int (nI 7)] M (.inl (some (.long (16 * (lN (n)) + (nI 7).toInt64)))) (ui (ul (ui (ul (ui (ul (ui (ul (ui (ul (ui (ul (ui (ul (ui (ui (ui (ui (ul (ui (ui M (8, n) 3 (nI 12)) (8, n) 4 ((-1))) (8, n) 5 0) (9, n) 1 (nI 0)) (11, n) 1 (nI 0)) (13, n) 1 (nI 0)) (1, 0) 5 (nI (n + 1))) (10, n) 0 (16 * ((b >>> ((nI 0).toInt64 &&& 63)) &&& 255) + (nI 4).toInt64)) (9, n) 1 (nI 1)) (10, n) 1 (16 * ((b >>> ((nI 8).toInt64 &&& 63)) &&& 255) + (nI 4).toInt64)) (9, n) 1 (nI 2)) (10, n) 2 (16 * ((b >>> ((nI 16).toInt64 &&& 63)) &&& 255) + (nI 4).toInt64)) (9, n) 1 (nI 3)) (10, n) 3 (16 * ((b >>> ((nI 24).toInt64 &&& 63)) &&& 255) + (nI 4).toInt64)) (9, n) 1 (nI 4)) (10, n) 4 (16 * ((b >>> ((nI 32).toInt64 &&& 63)) &&& 255) + (nI 4).toInt64)) (9, n) 1 (nI 5)) (10, n) 5 (16 * ((b >>> ((nI 40).toInt64 &&& 63)) &&& 255) + (nI 4).toInt64)) (9, n) 1 (nI 6)) (10, n) 6 (16 * ((b >>> ((nI 48).toInt64 &&& 63)) &&& 255) + (nI 4).toInt64)) (9, n) 1 (nI 7)) 0 := by
  refine ct_of hG okX8_bytes (by decide +kernel) rfl (Nat.le_of_ble_eq_true rfl) ?_
  refine x_iload_n rfl rfl rfl ?_
  refine x_if_lt rfl rfl (fun hc1 => absurd hc1 (by decide +kernel)) (fun _ => ?_)
  refine x_iload_n rfl rfl rfl ?_
  refine x_bipush (v := nI 8) rfl rfl (by decide +kernel) ?_
  refine x_icmpN_le (by omega) (by omega) rfl rfl (fun hc2 => ?_) (fun hc2 => absurd hc2 (by omega))
  refine x_aload_n rfl rfl rfl ?_
  refine x_callVv (d2 := 0) (c_refuse0 (n := n) hG hn (by omega)) rfl rfl v_8_72 rfl rfl (by decide) rfl rfl (Nat.le_of_ble_eq_true rfl) (by omega) (by omega) ?_
  refine x_aload_n rfl rfl rfl ?_
  refine x_getR0 rfl rfl f_8_20 rfl (by decide) rfl rfl ?_
  refine x_bipush (v := nI 12) rfl rfl (by decide +kernel) ?_
  refine x_callVi (d2 := 2) (c_makeThing (n := n) hG (Nat.le_refl 2) (nI 12) hn (by omega)) rfl rfl v_8_75 rfl rfl (by decide) rfl rfl (Nat.le_of_ble_eq_true rfl) (by omega) (by omega) ?_
  refine x_istore rfl rfl rfl rfl ?_
  refine x_iconstN (b := 0) rfl rfl ?_
  refine x_istore rfl rfl rfl rfl ?_
  refine x_iload rfl rfl rfl ?_
  refine x_iload_n rfl rfl rfl ?_
  refine x_icmpN_ge (by omega) (by omega) rfl rfl (fun hc3 => absurd hc3 (by omega)) (fun hc3 => ?_)
  refine x_aload_n rfl rfl rfl ?_
  refine x_getR0 rfl rfl f_8_20 rfl (by decide) rfl rfl ?_
  refine x_getR0 rfl rfl f_8_79 rfl (by decide) rfl rfl ?_
  refine x_iload rfl rfl rfl ?_
  refine x_aaldi (a := n) rfl rfl rfl (by decide) (by decide) (by omega) (by decide) rfl ?_
  refine x_getRi rfl rfl f_8_92 rfl (by show _ < 40; omega) rfl rfl ?_
  refine x_iconstN (b := 4) rfl rfl ?_
  refine x_lload_n rfl rfl rfl ?_
  refine x_bipush (v := nI 8) rfl rfl (by decide +kernel) ?_
  refine x_iload rfl rfl rfl ?_
  refine x_imulN (a := 8) (b := 0) rfl rfl ?_
  refine x_lshr rfl rfl ?_
  refine x_ldc2 (v := 255) rfl rfl k_8_95 ?_
  refine x_land rfl rfl ?_
  refine x_callSl (d2 := 0) (c_valueOf hG (nI 4) ((b >>> ((nI 0).toInt64 &&& 63)) &&& 255)) rfl rfl s_8_68 rfl rfl (Nat.le_of_ble_eq_true rfl) (by omega) (by omega) ?_
  refine x_callVv (d2 := 0) (c_LL_add (len := 0) hG (lk_9 (by omega)) (16 * ((b >>> ((nI 0).toInt64 &&& 63)) &&& 255) + (nI 4).toInt64) (by first | rfl | simp [ui, ul]) (by omega)) rfl rfl v_8_97 rfl rfl (by show _ < 40; omega) rfl rfl (Nat.le_of_ble_eq_true rfl) (by omega) (by omega) ?_
  refine x_iincN (a := 0) (b := 1) rfl rfl rfl rfl rfl ?_
  refine x_goto rfl rfl ?_
  refine x_iload rfl rfl rfl ?_
  refine x_iload_n rfl rfl rfl ?_
  refine x_icmpN_ge (by omega) (by omega) rfl rfl (fun hc4 => absurd hc4 (by omega)) (fun hc4 => ?_)
  refine x_aload_n rfl rfl rfl ?_
  refine x_getR0 rfl rfl f_8_20 rfl (by decide) rfl rfl ?_
  refine x_getR0 rfl rfl f_8_79 rfl (by decide) rfl rfl ?_
  refine x_iload rfl rfl rfl ?_
  refine x_aaldi (a := n) rfl rfl rfl (by decide) (by decide) (by omega) (by decide) rfl ?_
  refine x_getRi rfl rfl f_8_92 rfl (by show _ < 40; omega) rfl rfl ?_
  refine x_iconstN (b := 4) rfl rfl ?_
  refine x_lload_n rfl rfl rfl ?_
  refine x_bipush (v := nI 8) rfl rfl (by decide +kernel) ?_
  refine x_iload rfl rfl rfl ?_
  refine x_imulN (a := 8) (b := 1) rfl rfl ?_
  refine x_lshr rfl rfl ?_
  refine x_ldc2 (v := 255) rfl rfl k_8_95 ?_
  refine x_land rfl rfl ?_
  refine x_callSl (d2 := 0) (c_valueOf hG (nI 4) ((b >>> ((nI 8).toInt64 &&& 63)) &&& 255)) rfl rfl s_8_68 rfl rfl (Nat.le_of_ble_eq_true rfl) (by omega) (by omega) ?_
  refine x_callVv (d2 := 0) (c_LL_add (len := 1) hG (lk_9 (by omega)) (16 * ((b >>> ((nI 8).toInt64 &&& 63)) &&& 255) + (nI 4).toInt64) (by first | rfl | simp [ui, ul]) (by omega)) rfl rfl v_8_97 rfl rfl (by show _ < 40; omega) rfl rfl (Nat.le_of_ble_eq_true rfl) (by omega) (by omega) ?_
  refine x_iincN (a := 1) (b := 1) rfl rfl rfl rfl rfl ?_
  refine x_goto rfl rfl ?_
  refine x_iload rfl rfl rfl ?_
  refine x_iload_n rfl rfl rfl ?_
  refine x_icmpN_ge (by omega) (by omega) rfl rfl (fun hc5 => absurd hc5 (by omega)) (fun hc5 => ?_)
  refine x_aload_n rfl rfl rfl ?_
  refine x_getR0 rfl rfl f_8_20 rfl (by decide) rfl rfl ?_
  refine x_getR0 rfl rfl f_8_79 rfl (by decide) rfl rfl ?_
  refine x_iload rfl rfl rfl ?_
  refine x_aaldi (a := n) rfl rfl rfl (by decide) (by decide) (by omega) (by decide) rfl ?_
  refine x_getRi rfl rfl f_8_92 rfl (by show _ < 40; omega) rfl rfl ?_
  refine x_iconstN (b := 4) rfl rfl ?_
  refine x_lload_n rfl rfl rfl ?_
  refine x_bipush (v := nI 8) rfl rfl (by decide +kernel) ?_
  refine x_iload rfl rfl rfl ?_
  refine x_imulN (a := 8) (b := 2) rfl rfl ?_
  refine x_lshr rfl rfl ?_
  refine x_ldc2 (v := 255) rfl rfl k_8_95 ?_
  refine x_land rfl rfl ?_
  refine x_callSl (d2 := 0) (c_valueOf hG (nI 4) ((b >>> ((nI 16).toInt64 &&& 63)) &&& 255)) rfl rfl s_8_68 rfl rfl (Nat.le_of_ble_eq_true rfl) (by omega) (by omega) ?_
  refine x_callVv (d2 := 0) (c_LL_add (len := 2) hG (lk_9 (by omega)) (16 * ((b >>> ((nI 16).toInt64 &&& 63)) &&& 255) + (nI 4).toInt64) (by first | rfl | simp [ui, ul]) (by omega)) rfl rfl v_8_97 rfl rfl (by show _ < 40; omega) rfl rfl (Nat.le_of_ble_eq_true rfl) (by omega) (by omega) ?_
  refine x_iincN (a := 2) (b := 1) rfl rfl rfl rfl rfl ?_
  refine x_goto rfl rfl ?_
  refine x_iload rfl rfl rfl ?_
  refine x_iload_n rfl rfl rfl ?_
  refine x_icmpN_ge (by omega) (by omega) rfl rfl (fun hc6 => absurd hc6 (by omega)) (fun hc6 => ?_)
  refine x_aload_n rfl rfl rfl ?_
  refine x_getR0 rfl rfl f_8_20 rfl (by decide) rfl rfl ?_
  refine x_getR0 rfl rfl f_8_79 rfl (by decide) rfl rfl ?_
  refine x_iload rfl rfl rfl ?_
  refine x_aaldi (a := n) rfl rfl rfl (by decide) (by decide) (by omega) (by decide) rfl ?_
  refine x_getRi rfl rfl f_8_92 rfl (by show _ < 40; omega) rfl rfl ?_
  refine x_iconstN (b := 4) rfl rfl ?_
  refine x_lload_n rfl rfl rfl ?_
  refine x_bipush (v := nI 8) rfl rfl (by decide +kernel) ?_
  refine x_iload rfl rfl rfl ?_
  refine x_imulN (a := 8) (b := 3) rfl rfl ?_
  refine x_lshr rfl rfl ?_
  refine x_ldc2 (v := 255) rfl rfl k_8_95 ?_
  refine x_land rfl rfl ?_
  refine x_callSl (d2 := 0) (c_valueOf hG (nI 4) ((b >>> ((nI 24).toInt64 &&& 63)) &&& 255)) rfl rfl s_8_68 rfl rfl (Nat.le_of_ble_eq_true rfl) (by omega) (by omega) ?_
  refine x_callVv (d2 := 0) (c_LL_add (len := 3) hG (lk_9 (by omega)) (16 * ((b >>> ((nI 24).toInt64 &&& 63)) &&& 255) + (nI 4).toInt64) (by first | rfl | simp [ui, ul]) (by omega)) rfl rfl v_8_97 rfl rfl (by show _ < 40; omega) rfl rfl (Nat.le_of_ble_eq_true rfl) (by omega) (by omega) ?_
  refine x_iincN (a := 3) (b := 1) rfl rfl rfl rfl rfl ?_
  refine x_goto rfl rfl ?_
  refine x_iload rfl rfl rfl ?_
  refine x_iload_n rfl rfl rfl ?_
  refine x_icmpN_ge (by omega) (by omega) rfl rfl (fun hc7 => absurd hc7 (by omega)) (fun hc7 => ?_)
  refine x_aload_n rfl rfl rfl ?_
  refine x_getR0 rfl rfl f_8_20 rfl (by decide) rfl rfl ?_
  refine x_getR0 rfl rfl f_8_79 rfl (by decide) rfl rfl ?_
  refine x_iload rfl rfl rfl ?_
  refine x_aaldi (a := n) rfl rfl rfl (by decide) (by decide) (by omega) (by decide) rfl ?_
  refine x_getRi rfl rfl f_8_92 rfl (by show _ < 40; omega) rfl rfl ?_
  refine x_iconstN (b := 4) rfl rfl ?_
  refine x_lload_n rfl rfl rfl ?_
  refine x_bipush (v := nI 8) rfl rfl (by decide +kernel) ?_
  refine x_iload rfl rfl rfl ?_
  refine x_imulN (a := 8) (b := 4) rfl rfl ?_
  refine x_lshr rfl rfl ?_
  refine x_ldc2 (v := 255) rfl rfl k_8_95 ?_
  refine x_land rfl rfl ?_
  refine x_callSl (d2 := 0) (c_valueOf hG (nI 4) ((b >>> ((nI 32).toInt64 &&& 63)) &&& 255)) rfl rfl s_8_68 rfl rfl (Nat.le_of_ble_eq_true rfl) (by omega) (by omega) ?_
  refine x_callVv (d2 := 0) (c_LL_add (len := 4) hG (lk_9 (by omega)) (16 * ((b >>> ((nI 32).toInt64 &&& 63)) &&& 255) + (nI 4).toInt64) (by first | rfl | simp [ui, ul]) (by omega)) rfl rfl v_8_97 rfl rfl (by show _ < 40; omega) rfl rfl (Nat.le_of_ble_eq_true rfl) (by omega) (by omega) ?_
  refine x_iincN (a := 4) (b := 1) rfl rfl rfl rfl rfl ?_
  refine x_goto rfl rfl ?_
  refine x_iload rfl rfl rfl ?_
  refine x_iload_n rfl rfl rfl ?_
  refine x_icmpN_ge (by omega) (by omega) rfl rfl (fun hc8 => absurd hc8 (by omega)) (fun hc8 => ?_)
  refine x_aload_n rfl rfl rfl ?_
  refine x_getR0 rfl rfl f_8_20 rfl (by decide) rfl rfl ?_
  refine x_getR0 rfl rfl f_8_79 rfl (by decide) rfl rfl ?_
  refine x_iload rfl rfl rfl ?_
  refine x_aaldi (a := n) rfl rfl rfl (by decide) (by decide) (by omega) (by decide) rfl ?_
  refine x_getRi rfl rfl f_8_92 rfl (by show _ < 40; omega) rfl rfl ?_
  refine x_iconstN (b := 4) rfl rfl ?_
  refine x_lload_n rfl rfl rfl ?_
  refine x_bipush (v := nI 8) rfl rfl (by decide +kernel) ?_
  refine x_iload rfl rfl rfl ?_
  refine x_imulN (a := 8) (b := 5) rfl rfl ?_
  refine x_lshr rfl rfl ?_
  refine x_ldc2 (v := 255) rfl rfl k_8_95 ?_
  refine x_land rfl rfl ?_
  refine x_callSl (d2 := 0) (c_valueOf hG (nI 4) ((b >>> ((nI 40).toInt64 &&& 63)) &&& 255)) rfl rfl s_8_68 rfl rfl (Nat.le_of_ble_eq_true rfl) (by omega) (by omega) ?_
  refine x_callVv (d2 := 0) (c_LL_add (len := 5) hG (lk_9 (by omega)) (16 * ((b >>> ((nI 40).toInt64 &&& 63)) &&& 255) + (nI 4).toInt64) (by first | rfl | simp [ui, ul]) (by omega)) rfl rfl v_8_97 rfl rfl (by show _ < 40; omega) rfl rfl (Nat.le_of_ble_eq_true rfl) (by omega) (by omega) ?_
  refine x_iincN (a := 5) (b := 1) rfl rfl rfl rfl rfl ?_
  refine x_goto rfl rfl ?_
  refine x_iload rfl rfl rfl ?_
  refine x_iload_n rfl rfl rfl ?_
  refine x_icmpN_ge (by omega) (by omega) rfl rfl (fun hc9 => absurd hc9 (by omega)) (fun hc9 => ?_)
  refine x_aload_n rfl rfl rfl ?_
  refine x_getR0 rfl rfl f_8_20 rfl (by decide) rfl rfl ?_
  refine x_getR0 rfl rfl f_8_79 rfl (by decide) rfl rfl ?_
  refine x_iload rfl rfl rfl ?_
  refine x_aaldi (a := n) rfl rfl rfl (by decide) (by decide) (by omega) (by decide) rfl ?_
  refine x_getRi rfl rfl f_8_92 rfl (by show _ < 40; omega) rfl rfl ?_
  refine x_iconstN (b := 4) rfl rfl ?_
  refine x_lload_n rfl rfl rfl ?_
  refine x_bipush (v := nI 8) rfl rfl (by decide +kernel) ?_
  refine x_iload rfl rfl rfl ?_
  refine x_imulN (a := 8) (b := 6) rfl rfl ?_
  refine x_lshr rfl rfl ?_
  refine x_ldc2 (v := 255) rfl rfl k_8_95 ?_
  refine x_land rfl rfl ?_
  refine x_callSl (d2 := 0) (c_valueOf hG (nI 4) ((b >>> ((nI 48).toInt64 &&& 63)) &&& 255)) rfl rfl s_8_68 rfl rfl (Nat.le_of_ble_eq_true rfl) (by omega) (by omega) ?_
  refine x_callVv (d2 := 0) (c_LL_add (len := 6) hG (lk_9 (by omega)) (16 * ((b >>> ((nI 48).toInt64 &&& 63)) &&& 255) + (nI 4).toInt64) (by first | rfl | simp [ui, ul]) (by omega)) rfl rfl v_8_97 rfl rfl (by show _ < 40; omega) rfl rfl (Nat.le_of_ble_eq_true rfl) (by omega) (by omega) ?_
  refine x_iincN (a := 6) (b := 1) rfl rfl rfl rfl rfl ?_
  refine x_goto rfl rfl ?_
  refine x_iload rfl rfl rfl ?_
  refine x_iload_n rfl rfl rfl ?_
  refine x_icmpN_ge (by omega) (by omega) rfl rfl (fun hc10 => ?_) (fun hc10 => absurd hc10 (by omega))
  refine x_bipush (v := nI 7) rfl rfl (by decide +kernel) ?_
  refine x_iload rfl rfl rfl ?_
  refine x_i2lN (a := n) (by omega) rfl rfl ?_
  refine x_callSl (d2 := 0) (c_valueOf hG (nI 7) (lN (n))) rfl rfl s_8_68 rfl rfl (Nat.le_of_ble_eq_true rfl) (by omega) (by omega) ?_
  exact x_retL rfl rfl rfl (by omega) rfl rfl
set_option maxHeartbeats 4000000 in
set_option maxRecDepth 20000 in
theorem c_bytes8 (hG : Gok G) (hd : 3 ≤ d) (b : Int64) {n : Nat} (hn : M.1 (1, 0) 5 = nI n) (hn2 : n < 40) : Ct G mX8_bytes d [.ref (ga G (0, 0)), .long (b), .int (nI 8)] M (.inl (some (.long (16 * (lN (n)) + (nI 7).toInt64)))) (ui (ul (ui (ul (ui (ul (ui (ul (ui (ul (ui (ul (ui (ul (ui (ul (ui (ui (ui (ui (ul (ui (ui M (8, n) 3 (nI 12)) (8, n) 4 ((-1))) (8, n) 5 0) (9, n) 1 (nI 0)) (11, n) 1 (nI 0)) (13, n) 1 (nI 0)) (1, 0) 5 (nI (n + 1))) (10, n) 0 (16 * ((b >>> ((nI 0).toInt64 &&& 63)) &&& 255) + (nI 4).toInt64)) (9, n) 1 (nI 1)) (10, n) 1 (16 * ((b >>> ((nI 8).toInt64 &&& 63)) &&& 255) + (nI 4).toInt64)) (9, n) 1 (nI 2)) (10, n) 2 (16 * ((b >>> ((nI 16).toInt64 &&& 63)) &&& 255) + (nI 4).toInt64)) (9, n) 1 (nI 3)) (10, n) 3 (16 * ((b >>> ((nI 24).toInt64 &&& 63)) &&& 255) + (nI 4).toInt64)) (9, n) 1 (nI 4)) (10, n) 4 (16 * ((b >>> ((nI 32).toInt64 &&& 63)) &&& 255) + (nI 4).toInt64)) (9, n) 1 (nI 5)) (10, n) 5 (16 * ((b >>> ((nI 40).toInt64 &&& 63)) &&& 255) + (nI 4).toInt64)) (9, n) 1 (nI 6)) (10, n) 6 (16 * ((b >>> ((nI 48).toInt64 &&& 63)) &&& 255) + (nI 4).toInt64)) (9, n) 1 (nI 7)) (10, n) 7 (16 * ((b >>> ((nI 56).toInt64 &&& 63)) &&& 255) + (nI 4).toInt64)) (9, n) 1 (nI 8)) 0 := by
  refine ct_of hG okX8_bytes (by decide +kernel) rfl (Nat.le_of_ble_eq_true rfl) ?_
  refine x_iload_n rfl rfl rfl ?_
  refine x_if_lt rfl rfl (fun hc1 => absurd hc1 (by decide +kernel)) (fun _ => ?_)
  refine x_iload_n rfl rfl rfl ?_
  refine x_bipush (v := nI 8) rfl rfl (by decide +kernel) ?_
  refine x_icmpN_le (by omega) (by omega) rfl rfl (fun hc2 => ?_) (fun hc2 => absurd hc2 (by omega))
  refine x_aload_n rfl rfl rfl ?_
  refine x_callVv (d2 := 0) (c_refuse0 (n := n) hG hn (by omega)) rfl rfl v_8_72 rfl rfl (by decide) rfl rfl (Nat.le_of_ble_eq_true rfl) (by omega) (by omega) ?_
  refine x_aload_n rfl rfl rfl ?_
  refine x_getR0 rfl rfl f_8_20 rfl (by decide) rfl rfl ?_
  refine x_bipush (v := nI 12) rfl rfl (by decide +kernel) ?_
  refine x_callVi (d2 := 2) (c_makeThing (n := n) hG (Nat.le_refl 2) (nI 12) hn (by omega)) rfl rfl v_8_75 rfl rfl (by decide) rfl rfl (Nat.le_of_ble_eq_true rfl) (by omega) (by omega) ?_
  refine x_istore rfl rfl rfl rfl ?_
  refine x_iconstN (b := 0) rfl rfl ?_
  refine x_istore rfl rfl rfl rfl ?_
  refine x_iload rfl rfl rfl ?_
  refine x_iload_n rfl rfl rfl ?_
  refine x_icmpN_ge (by omega) (by omega) rfl rfl (fun hc3 => absurd hc3 (by omega)) (fun hc3 => ?_)
  refine x_aload_n rfl rfl rfl ?_
  refine x_getR0 rfl rfl f_8_20 rfl (by decide) rfl rfl ?_
  refine x_getR0 rfl rfl f_8_79 rfl (by decide) rfl rfl ?_
  refine x_iload rfl rfl rfl ?_
  refine x_aaldi (a := n) rfl rfl rfl (by decide) (by decide) (by omega) (by decide) rfl ?_
  refine x_getRi rfl rfl f_8_92 rfl (by show _ < 40; omega) rfl rfl ?_
  refine x_iconstN (b := 4) rfl rfl ?_
  refine x_lload_n rfl rfl rfl ?_
  refine x_bipush (v := nI 8) rfl rfl (by decide +kernel) ?_
  refine x_iload rfl rfl rfl ?_
  refine x_imulN (a := 8) (b := 0) rfl rfl ?_
  refine x_lshr rfl rfl ?_
  refine x_ldc2 (v := 255) rfl rfl k_8_95 ?_
  refine x_land rfl rfl ?_
  refine x_callSl (d2 := 0) (c_valueOf hG (nI 4) ((b >>> ((nI 0).toInt64 &&& 63)) &&& 255)) rfl rfl s_8_68 rfl rfl (Nat.le_of_ble_eq_true rfl) (by omega) (by omega) ?_
  refine x_callVv (d2 := 0) (c_LL_add (len := 0) hG (lk_9 (by omega)) (16 * ((b >>> ((nI 0).toInt64 &&& 63)) &&& 255) + (nI 4).toInt64) (by first | rfl | simp [ui, ul]) (by omega)) rfl rfl v_8_97 rfl rfl (by show _ < 40; omega) rfl rfl (Nat.le_of_ble_eq_true rfl) (by omega) (by omega) ?_
  refine x_iincN (a := 0) (b := 1) rfl rfl rfl rfl rfl ?_
  refine x_goto rfl rfl ?_
  refine x_iload rfl rfl rfl ?_
  refine x_iload_n rfl rfl rfl ?_
  refine x_icmpN_ge (by omega) (by omega) rfl rfl (fun hc4 => absurd hc4 (by omega)) (fun hc4 => ?_)
  refine x_aload_n rfl rfl rfl ?_
  refine x_getR0 rfl rfl f_8_20 rfl (by decide) rfl rfl ?_
  refine x_getR0 rfl rfl f_8_79 rfl (by decide) rfl rfl ?_
  refine x_iload rfl rfl rfl ?_
  refine x_aaldi (a := n) rfl rfl rfl (by decide) (by decide) (by omega) (by decide) rfl ?_
  refine x_getRi rfl rfl f_8_92 rfl (by show _ < 40; omega) rfl rfl ?_
  refine x_iconstN (b := 4) rfl rfl ?_
  refine x_lload_n rfl rfl rfl ?_
  refine x_bipush (v := nI 8) rfl rfl (by decide +kernel) ?_
  refine x_iload rfl rfl rfl ?_
  refine x_imulN (a := 8) (b := 1) rfl rfl ?_
  refine x_lshr rfl rfl ?_
  refine x_ldc2 (v := 255) rfl rfl k_8_95 ?_
  refine x_land rfl rfl ?_
  refine x_callSl (d2 := 0) (c_valueOf hG (nI 4) ((b >>> ((nI 8).toInt64 &&& 63)) &&& 255)) rfl rfl s_8_68 rfl rfl (Nat.le_of_ble_eq_true rfl) (by omega) (by omega) ?_
  refine x_callVv (d2 := 0) (c_LL_add (len := 1) hG (lk_9 (by omega)) (16 * ((b >>> ((nI 8).toInt64 &&& 63)) &&& 255) + (nI 4).toInt64) (by first | rfl | simp [ui, ul]) (by omega)) rfl rfl v_8_97 rfl rfl (by show _ < 40; omega) rfl rfl (Nat.le_of_ble_eq_true rfl) (by omega) (by omega) ?_
  refine x_iincN (a := 1) (b := 1) rfl rfl rfl rfl rfl ?_
  refine x_goto rfl rfl ?_
  refine x_iload rfl rfl rfl ?_
  refine x_iload_n rfl rfl rfl ?_
  refine x_icmpN_ge (by omega) (by omega) rfl rfl (fun hc5 => absurd hc5 (by omega)) (fun hc5 => ?_)
  refine x_aload_n rfl rfl rfl ?_
  refine x_getR0 rfl rfl f_8_20 rfl (by decide) rfl rfl ?_
  refine x_getR0 rfl rfl f_8_79 rfl (by decide) rfl rfl ?_
  refine x_iload rfl rfl rfl ?_
  refine x_aaldi (a := n) rfl rfl rfl (by decide) (by decide) (by omega) (by decide) rfl ?_
  refine x_getRi rfl rfl f_8_92 rfl (by show _ < 40; omega) rfl rfl ?_
  refine x_iconstN (b := 4) rfl rfl ?_
  refine x_lload_n rfl rfl rfl ?_
  refine x_bipush (v := nI 8) rfl rfl (by decide +kernel) ?_
  refine x_iload rfl rfl rfl ?_
  refine x_imulN (a := 8) (b := 2) rfl rfl ?_
  refine x_lshr rfl rfl ?_
  refine x_ldc2 (v := 255) rfl rfl k_8_95 ?_
  refine x_land rfl rfl ?_
  refine x_callSl (d2 := 0) (c_valueOf hG (nI 4) ((b >>> ((nI 16).toInt64 &&& 63)) &&& 255)) rfl rfl s_8_68 rfl rfl (Nat.le_of_ble_eq_true rfl) (by omega) (by omega) ?_
  refine x_callVv (d2 := 0) (c_LL_add (len := 2) hG (lk_9 (by omega)) (16 * ((b >>> ((nI 16).toInt64 &&& 63)) &&& 255) + (nI 4).toInt64) (by first | rfl | simp [ui, ul]) (by omega)) rfl rfl v_8_97 rfl rfl (by show _ < 40; omega) rfl rfl (Nat.le_of_ble_eq_true rfl) (by omega) (by omega) ?_
  refine x_iincN (a := 2) (b := 1) rfl rfl rfl rfl rfl ?_
  refine x_goto rfl rfl ?_
  refine x_iload rfl rfl rfl ?_
  refine x_iload_n rfl rfl rfl ?_
  refine x_icmpN_ge (by omega) (by omega) rfl rfl (fun hc6 => absurd hc6 (by omega)) (fun hc6 => ?_)
  refine x_aload_n rfl rfl rfl ?_
  refine x_getR0 rfl rfl f_8_20 rfl (by decide) rfl rfl ?_
  refine x_getR0 rfl rfl f_8_79 rfl (by decide) rfl rfl ?_
  refine x_iload rfl rfl rfl ?_
  refine x_aaldi (a := n) rfl rfl rfl (by decide) (by decide) (by omega) (by decide) rfl ?_
  refine x_getRi rfl rfl f_8_92 rfl (by show _ < 40; omega) rfl rfl ?_
  refine x_iconstN (b := 4) rfl rfl ?_
  refine x_lload_n rfl rfl rfl ?_
  refine x_bipush (v := nI 8) rfl rfl (by decide +kernel) ?_
  refine x_iload rfl rfl rfl ?_
  refine x_imulN (a := 8) (b := 3) rfl rfl ?_
  refine x_lshr rfl rfl ?_
  refine x_ldc2 (v := 255) rfl rfl k_8_95 ?_
  refine x_land rfl rfl ?_
  refine x_callSl (d2 := 0) (c_valueOf hG (nI 4) ((b >>> ((nI 24).toInt64 &&& 63)) &&& 255)) rfl rfl s_8_68 rfl rfl (Nat.le_of_ble_eq_true rfl) (by omega) (by omega) ?_
  refine x_callVv (d2 := 0) (c_LL_add (len := 3) hG (lk_9 (by omega)) (16 * ((b >>> ((nI 24).toInt64 &&& 63)) &&& 255) + (nI 4).toInt64) (by first | rfl | simp [ui, ul]) (by omega)) rfl rfl v_8_97 rfl rfl (by show _ < 40; omega) rfl rfl (Nat.le_of_ble_eq_true rfl) (by omega) (by omega) ?_
  refine x_iincN (a := 3) (b := 1) rfl rfl rfl rfl rfl ?_
  refine x_goto rfl rfl ?_
  refine x_iload rfl rfl rfl ?_
  refine x_iload_n rfl rfl rfl ?_
  refine x_icmpN_ge (by omega) (by omega) rfl rfl (fun hc7 => absurd hc7 (by omega)) (fun hc7 => ?_)
  refine x_aload_n rfl rfl rfl ?_
  refine x_getR0 rfl rfl f_8_20 rfl (by decide) rfl rfl ?_
  refine x_getR0 rfl rfl f_8_79 rfl (by decide) rfl rfl ?_
  refine x_iload rfl rfl rfl ?_
  refine x_aaldi (a := n) rfl rfl rfl (by decide) (by decide) (by omega) (by decide) rfl ?_
  refine x_getRi rfl rfl f_8_92 rfl (by show _ < 40; omega) rfl rfl ?_
  refine x_iconstN (b := 4) rfl rfl ?_
  refine x_lload_n rfl rfl rfl ?_
  refine x_bipush (v := nI 8) rfl rfl (by decide +kernel) ?_
  refine x_iload rfl rfl rfl ?_
  refine x_imulN (a := 8) (b := 4) rfl rfl ?_
  refine x_lshr rfl rfl ?_
  refine x_ldc2 (v := 255) rfl rfl k_8_95 ?_
  refine x_land rfl rfl ?_
  refine x_callSl (d2 := 0) (c_valueOf hG (nI 4) ((b >>> ((nI 32).toInt64 &&& 63)) &&& 255)) rfl rfl s_8_68 rfl rfl (Nat.le_of_ble_eq_true rfl) (by omega) (by omega) ?_
  refine x_callVv (d2 := 0) (c_LL_add (len := 4) hG (lk_9 (by omega)) (16 * ((b >>> ((nI 32).toInt64 &&& 63)) &&& 255) + (nI 4).toInt64) (by first | rfl | simp [ui, ul]) (by omega)) rfl rfl v_8_97 rfl rfl (by show _ < 40; omega) rfl rfl (Nat.le_of_ble_eq_true rfl) (by omega) (by omega) ?_
  refine x_iincN (a := 4) (b := 1) rfl rfl rfl rfl rfl ?_
  refine x_goto rfl rfl ?_
  refine x_iload rfl rfl rfl ?_
  refine x_iload_n rfl rfl rfl ?_
  refine x_icmpN_ge (by omega) (by omega) rfl rfl (fun hc8 => absurd hc8 (by omega)) (fun hc8 => ?_)
  refine x_aload_n rfl rfl rfl ?_
  refine x_getR0 rfl rfl f_8_20 rfl (by decide) rfl rfl ?_
  refine x_getR0 rfl rfl f_8_79 rfl (by decide) rfl rfl ?_
  refine x_iload rfl rfl rfl ?_
  refine x_aaldi (a := n) rfl rfl rfl (by decide) (by decide) (by omega) (by decide) rfl ?_
  refine x_getRi rfl rfl f_8_92 rfl (by show _ < 40; omega) rfl rfl ?_
  refine x_iconstN (b := 4) rfl rfl ?_
  refine x_lload_n rfl rfl rfl ?_
  refine x_bipush (v := nI 8) rfl rfl (by decide +kernel) ?_
  refine x_iload rfl rfl rfl ?_
  refine x_imulN (a := 8) (b := 5) rfl rfl ?_
  refine x_lshr rfl rfl ?_
  refine x_ldc2 (v := 255) rfl rfl k_8_95 ?_
  refine x_land rfl rfl ?_
  refine x_callSl (d2 := 0) (c_valueOf hG (nI 4) ((b >>> ((nI 40).toInt64 &&& 63)) &&& 255)) rfl rfl s_8_68 rfl rfl (Nat.le_of_ble_eq_true rfl) (by omega) (by omega) ?_
  refine x_callVv (d2 := 0) (c_LL_add (len := 5) hG (lk_9 (by omega)) (16 * ((b >>> ((nI 40).toInt64 &&& 63)) &&& 255) + (nI 4).toInt64) (by first | rfl | simp [ui, ul]) (by omega)) rfl rfl v_8_97 rfl rfl (by show _ < 40; omega) rfl rfl (Nat.le_of_ble_eq_true rfl) (by omega) (by omega) ?_
  refine x_iincN (a := 5) (b := 1) rfl rfl rfl rfl rfl ?_
  refine x_goto rfl rfl ?_
  refine x_iload rfl rfl rfl ?_
  refine x_iload_n rfl rfl rfl ?_
  refine x_icmpN_ge (by omega) (by omega) rfl rfl (fun hc9 => absurd hc9 (by omega)) (fun hc9 => ?_)
  refine x_aload_n rfl rfl rfl ?_
  refine x_getR0 rfl rfl f_8_20 rfl (by decide) rfl rfl ?_
  refine x_getR0 rfl rfl f_8_79 rfl (by decide) rfl rfl ?_
  refine x_iload rfl rfl rfl ?_
  refine x_aaldi (a := n) rfl rfl rfl (by decide) (by decide) (by omega) (by decide) rfl ?_
  refine x_getRi rfl rfl f_8_92 rfl (by show _ < 40; omega) rfl rfl ?_
  refine x_iconstN (b := 4) rfl rfl ?_
  refine x_lload_n rfl rfl rfl ?_
  refine x_bipush (v := nI 8) rfl rfl (by decide +kernel) ?_
  refine x_iload rfl rfl rfl ?_
  refine x_imulN (a := 8) (b := 6) rfl rfl ?_
  refine x_lshr rfl rfl ?_
  refine x_ldc2 (v := 255) rfl rfl k_8_95 ?_
  refine x_land rfl rfl ?_
  refine x_callSl (d2 := 0) (c_valueOf hG (nI 4) ((b >>> ((nI 48).toInt64 &&& 63)) &&& 255)) rfl rfl s_8_68 rfl rfl (Nat.le_of_ble_eq_true rfl) (by omega) (by omega) ?_
  refine x_callVv (d2 := 0) (c_LL_add (len := 6) hG (lk_9 (by omega)) (16 * ((b >>> ((nI 48).toInt64 &&& 63)) &&& 255) + (nI 4).toInt64) (by first | rfl | simp [ui, ul]) (by omega)) rfl rfl v_8_97 rfl rfl (by show _ < 40; omega) rfl rfl (Nat.le_of_ble_eq_true rfl) (by omega) (by omega) ?_
  refine x_iincN (a := 6) (b := 1) rfl rfl rfl rfl rfl ?_
  refine x_goto rfl rfl ?_
  refine x_iload rfl rfl rfl ?_
  refine x_iload_n rfl rfl rfl ?_
  refine x_icmpN_ge (by omega) (by omega) rfl rfl (fun hc10 => absurd hc10 (by omega)) (fun hc10 => ?_)
  refine x_aload_n rfl rfl rfl ?_
  refine x_getR0 rfl rfl f_8_20 rfl (by decide) rfl rfl ?_
  refine x_getR0 rfl rfl f_8_79 rfl (by decide) rfl rfl ?_
  refine x_iload rfl rfl rfl ?_
  refine x_aaldi (a := n) rfl rfl rfl (by decide) (by decide) (by omega) (by decide) rfl ?_
  refine x_getRi rfl rfl f_8_92 rfl (by show _ < 40; omega) rfl rfl ?_
  refine x_iconstN (b := 4) rfl rfl ?_
  refine x_lload_n rfl rfl rfl ?_
  refine x_bipush (v := nI 8) rfl rfl (by decide +kernel) ?_
  refine x_iload rfl rfl rfl ?_
  refine x_imulN (a := 8) (b := 7) rfl rfl ?_
  refine x_lshr rfl rfl ?_
  refine x_ldc2 (v := 255) rfl rfl k_8_95 ?_
  refine x_land rfl rfl ?_
  refine x_callSl (d2 := 0) (c_valueOf hG (nI 4) ((b >>> ((nI 56).toInt64 &&& 63)) &&& 255)) rfl rfl s_8_68 rfl rfl (Nat.le_of_ble_eq_true rfl) (by omega) (by omega) ?_
  refine x_callVv (d2 := 0) (c_LL_add (len := 7) hG (lk_9 (by omega)) (16 * ((b >>> ((nI 56).toInt64 &&& 63)) &&& 255) + (nI 4).toInt64) (by first | rfl | simp [ui, ul]) (by omega)) rfl rfl v_8_97 rfl rfl (by show _ < 40; omega) rfl rfl (Nat.le_of_ble_eq_true rfl) (by omega) (by omega) ?_
  refine x_iincN (a := 7) (b := 1) rfl rfl rfl rfl rfl ?_
  refine x_goto rfl rfl ?_
  refine x_iload rfl rfl rfl ?_
  refine x_iload_n rfl rfl rfl ?_
  refine x_icmpN_ge (by omega) (by omega) rfl rfl (fun hc11 => ?_) (fun hc11 => absurd hc11 (by omega))
  refine x_bipush (v := nI 7) rfl rfl (by decide +kernel) ?_
  refine x_iload rfl rfl rfl ?_
  refine x_i2lN (a := n) (by omega) rfl rfl ?_
  refine x_callSl (d2 := 0) (c_valueOf hG (nI 7) (lN (n))) rfl rfl s_8_68 rfl rfl (Nat.le_of_ble_eq_true rfl) (by omega) (by omega) ?_
  exact x_retL rfl rfl rfl (by omega) rfl rfl
set_option maxHeartbeats 4000000 in
set_option maxRecDepth 20000 in
theorem c_bytesX (hG : Gok G) (hd : 7 ≤ d) (b : Int64) {m : Nat} (hm : m ≤ 8) (hn : M.1 (1, 0) 5 = nI 40) : Ct G mX8_bytes d [.ref (ga G (0, 0)), .long (b), .int (nI m)] M (.inr "java/lang/IllegalStateException") M 1 := by
  refine ct_of hG okX8_bytes (by decide +kernel) rfl (Nat.le_of_ble_eq_true rfl) ?_
  refine x_iload_n rfl rfl rfl ?_
  refine x_ifN_lt (by omega) rfl rfl (fun hc1 => hc1.elim) (fun hc1 => ?_)
  refine x_iload_n rfl rfl rfl ?_
  refine x_bipush (v := nI 8) rfl rfl (by decide +kernel) ?_
  refine x_icmpN_le (by omega) (by omega) rfl rfl (fun hc2 => ?_) (fun hc2 => absurd hc2 (by omega))
  refine x_aload_n rfl rfl rfl ?_
  exact x_throwV (d2 := 6) (c_refuse1 hG (Nat.le_refl 6) hn) rfl rfl v_8_72 rfl rfl (by decide) rfl rfl (Nat.le_of_ble_eq_true rfl) (by omega) (by omega)
set_option maxHeartbeats 4000000 in
set_option maxRecDepth 20000 in
theorem c_bytesN (hG : Gok G) (hd : 6 ≤ d) (b : Int64) {m : Int32} (hm : m < 0) : Ct G mX8_bytes d [.ref (ga G (0, 0)), .long (b), .int (m)] M (.inr "java/lang/IllegalArgumentException") M 1 := by
  refine ct_of hG okX8_bytes (by decide +kernel) rfl (Nat.le_of_ble_eq_true rfl) ?_
  refine x_iload_n rfl rfl rfl ?_
  refine x_if_lt rfl rfl (fun hc1 => ?_) (fun hc1 => absurd hm hc1)
  exact x_throw rfl rfl rfl rfl rfl rfl rfl rfl th_8_89_91 (Nat.le_of_ble_eq_true rfl) (by omega) (by omega)
set_option maxHeartbeats 4000000 in
set_option maxRecDepth 20000 in
theorem c_bytesO (hG : Gok G) (hd : 6 ≤ d) (b : Int64) {m : Nat} (hm : 8 < m) (hm2 : m < 2 ^ 31) : Ct G mX8_bytes d [.ref (ga G (0, 0)), .long (b), .int (nI m)] M (.inr "java/lang/IllegalArgumentException") M 1 := by
  refine ct_of hG okX8_bytes (by decide +kernel) rfl (Nat.le_of_ble_eq_true rfl) ?_
  refine x_iload_n rfl rfl rfl ?_
  refine x_ifN_lt (by omega) rfl rfl (fun hc1 => hc1.elim) (fun hc1 => ?_)
  refine x_iload_n rfl rfl rfl ?_
  refine x_bipush (v := nI 8) rfl rfl (by decide +kernel) ?_
  refine x_icmpN_le (by omega) (by omega) rfl rfl (fun hc2 => absurd hc2 (by omega)) (fun hc2 => ?_)
  exact x_throw rfl rfl rfl rfl rfl rfl rfl rfl th_8_89_91 (Nat.le_of_ble_eq_true rfl) (by omega) (by omega)
set_option maxHeartbeats 4000000 in
set_option maxRecDepth 20000 in
theorem c_object0 (hG : Gok G) (hd : 3 ≤ d) {n : Nat} (hn : M.1 (1, 0) 5 = nI n) (hn2 : n < 40) {tn : Nat} (htn : M.1 (1, 0) 4 = nI tn) (htn2 : tn ≤ 12) {t : Nat} (ht : t < tn) (hm : M.1 (6, t) 1 = nI 0) : Ct G mX8_object d [.ref (ga G (0, 0)), .int (nI t)] M (.inl (some (.long (16 * (lN (n)) + (nI 7).toInt64)))) (ui (ui (ui (ui (ui (ul (ui (ui M (8, n) 3 (nI 10)) (8, n) 4 ((-1))) (8, n) 5 0) (9, n) 1 (nI 0)) (11, n) 1 (nI 0)) (13, n) 1 (nI 0)) (1, 0) 5 (nI (n + 1))) (8, n) 4 (nI t)) 0 := by
  refine ct_of hG okX8_object (by decide +kernel) rfl (Nat.le_of_ble_eq_true rfl) ?_
  refine x_iload_n rfl rfl rfl ?_
  refine x_ifN_lt (by omega) rfl rfl (fun hc1 => hc1.elim) (fun hc1 => ?_)
  refine x_iload_n rfl rfl rfl ?_
  refine x_aload_n rfl rfl rfl ?_
  refine x_getR0 rfl rfl f_8_20 rfl (by decide) rfl rfl ?_
  refine x_getIv (v := nI tn) htn rfl rfl f_8_113 rfl (by decide) rfl ?_
  refine x_icmpN_lt (by omega) (by omega) rfl rfl (fun hc2 => ?_) (fun hc2 => absurd hc2 (by omega))
  refine x_aload_n rfl rfl rfl ?_
  refine x_callVv (d2 := 0) (c_refuse0 (n := n) hG hn (by omega)) rfl rfl v_8_72 rfl rfl (by decide) rfl rfl (Nat.le_of_ble_eq_true rfl) (by omega) (by omega) ?_
  refine x_aload_n rfl rfl rfl ?_
  refine x_getR0 rfl rfl f_8_20 rfl (by decide) rfl rfl ?_
  refine x_bipush (v := nI 10) rfl rfl (by decide +kernel) ?_
  refine x_callVi (d2 := 2) (c_makeThing (n := n) hG (Nat.le_refl 2) (nI 10) hn (by omega)) rfl rfl v_8_75 rfl rfl (by decide) rfl rfl (Nat.le_of_ble_eq_true rfl) (by omega) (by omega) ?_
  refine x_istore_n rfl rfl rfl rfl ?_
  refine x_aload_n rfl rfl rfl ?_
  refine x_getR0 rfl rfl f_8_20 rfl (by decide) rfl rfl ?_
  refine x_aload_n rfl rfl rfl ?_
  refine x_getR0 rfl rfl f_8_20 rfl (by decide) rfl rfl ?_
  refine x_getR0 rfl rfl f_8_79 rfl (by decide) rfl rfl ?_
  refine x_iload_n rfl rfl rfl ?_
  refine x_aaldi (a := n) rfl rfl rfl (by decide) (by decide) (by omega) (by decide) rfl ?_
  refine x_iload_n rfl rfl rfl ?_
  refine x_callVv (d2 := 1) (c_giveTraits0 hG (Nat.le_refl 1) (by omega) (by omega) (by first | rfl | simp [ui, ul]) (by first | exact hm | (rw [← hm]; rfl) | simp [ui, ul, hm])) rfl rfl v_8_129 rfl rfl (by decide) rfl rfl (Nat.le_of_ble_eq_true rfl) (by omega) (by omega) ?_
  refine x_bipush (v := nI 7) rfl rfl (by decide +kernel) ?_
  refine x_iload_n rfl rfl rfl ?_
  refine x_i2lN (a := n) (by omega) rfl rfl ?_
  refine x_callSl (d2 := 0) (c_valueOf hG (nI 7) (lN (n))) rfl rfl s_8_68 rfl rfl (Nat.le_of_ble_eq_true rfl) (by omega) (by omega) ?_
  exact x_retL rfl rfl rfl (by omega) rfl rfl
set_option maxHeartbeats 4000000 in
set_option maxRecDepth 20000 in
theorem c_object1 (hG : Gok G) (hd : 3 ≤ d) {n : Nat} (hn : M.1 (1, 0) 5 = nI n) (hn2 : n < 40) {tn : Nat} (htn : M.1 (1, 0) 4 = nI tn) (htn2 : tn ≤ 12) {t : Nat} (ht : t < tn) (hm : M.1 (6, t) 1 = nI 1) : Ct G mX8_object d [.ref (ga G (0, 0)), .int (nI t)] M (.inl (some (.long (16 * (lN (n)) + (nI 7).toInt64)))) (ui (ul (ui (ui (ui (ui (ui (ul (ui (ui M (8, n) 3 (nI 10)) (8, n) 4 ((-1))) (8, n) 5 0) (9, n) 1 (nI 0)) (11, n) 1 (nI 0)) (13, n) 1 (nI 0)) (1, 0) 5 (nI (n + 1))) (8, n) 4 (nI t)) (10, n) 0 0) (9, n) 1 (nI 1)) 0 := by
  refine ct_of hG okX8_object (by decide +kernel) rfl (Nat.le_of_ble_eq_true rfl) ?_
  refine x_iload_n rfl rfl rfl ?_
  refine x_ifN_lt (by omega) rfl rfl (fun hc1 => hc1.elim) (fun hc1 => ?_)
  refine x_iload_n rfl rfl rfl ?_
  refine x_aload_n rfl rfl rfl ?_
  refine x_getR0 rfl rfl f_8_20 rfl (by decide) rfl rfl ?_
  refine x_getIv (v := nI tn) htn rfl rfl f_8_113 rfl (by decide) rfl ?_
  refine x_icmpN_lt (by omega) (by omega) rfl rfl (fun hc2 => ?_) (fun hc2 => absurd hc2 (by omega))
  refine x_aload_n rfl rfl rfl ?_
  refine x_callVv (d2 := 0) (c_refuse0 (n := n) hG hn (by omega)) rfl rfl v_8_72 rfl rfl (by decide) rfl rfl (Nat.le_of_ble_eq_true rfl) (by omega) (by omega) ?_
  refine x_aload_n rfl rfl rfl ?_
  refine x_getR0 rfl rfl f_8_20 rfl (by decide) rfl rfl ?_
  refine x_bipush (v := nI 10) rfl rfl (by decide +kernel) ?_
  refine x_callVi (d2 := 2) (c_makeThing (n := n) hG (Nat.le_refl 2) (nI 10) hn (by omega)) rfl rfl v_8_75 rfl rfl (by decide) rfl rfl (Nat.le_of_ble_eq_true rfl) (by omega) (by omega) ?_
  refine x_istore_n rfl rfl rfl rfl ?_
  refine x_aload_n rfl rfl rfl ?_
  refine x_getR0 rfl rfl f_8_20 rfl (by decide) rfl rfl ?_
  refine x_aload_n rfl rfl rfl ?_
  refine x_getR0 rfl rfl f_8_20 rfl (by decide) rfl rfl ?_
  refine x_getR0 rfl rfl f_8_79 rfl (by decide) rfl rfl ?_
  refine x_iload_n rfl rfl rfl ?_
  refine x_aaldi (a := n) rfl rfl rfl (by decide) (by decide) (by omega) (by decide) rfl ?_
  refine x_iload_n rfl rfl rfl ?_
  refine x_callVv (d2 := 1) (c_giveTraits1 hG (Nat.le_refl 1) (by omega) (by omega) (by first | rfl | simp [ui, ul]) (by first | exact hm | (rw [← hm]; rfl) | simp [ui, ul, hm])) rfl rfl v_8_129 rfl rfl (by decide) rfl rfl (Nat.le_of_ble_eq_true rfl) (by omega) (by omega) ?_
  refine x_bipush (v := nI 7) rfl rfl (by decide +kernel) ?_
  refine x_iload_n rfl rfl rfl ?_
  refine x_i2lN (a := n) (by omega) rfl rfl ?_
  refine x_callSl (d2 := 0) (c_valueOf hG (nI 7) (lN (n))) rfl rfl s_8_68 rfl rfl (Nat.le_of_ble_eq_true rfl) (by omega) (by omega) ?_
  exact x_retL rfl rfl rfl (by omega) rfl rfl
set_option maxHeartbeats 4000000 in
set_option maxRecDepth 20000 in
theorem c_object2 (hG : Gok G) (hd : 3 ≤ d) {n : Nat} (hn : M.1 (1, 0) 5 = nI n) (hn2 : n < 40) {tn : Nat} (htn : M.1 (1, 0) 4 = nI tn) (htn2 : tn ≤ 12) {t : Nat} (ht : t < tn) (hm : M.1 (6, t) 1 = nI 2) : Ct G mX8_object d [.ref (ga G (0, 0)), .int (nI t)] M (.inl (some (.long (16 * (lN (n)) + (nI 7).toInt64)))) (ui (ul (ui (ul (ui (ui (ui (ui (ui (ul (ui (ui M (8, n) 3 (nI 10)) (8, n) 4 ((-1))) (8, n) 5 0) (9, n) 1 (nI 0)) (11, n) 1 (nI 0)) (13, n) 1 (nI 0)) (1, 0) 5 (nI (n + 1))) (8, n) 4 (nI t)) (10, n) 0 0) (9, n) 1 (nI 1)) (10, n) 1 0) (9, n) 1 (nI 2)) 0 := by
  refine ct_of hG okX8_object (by decide +kernel) rfl (Nat.le_of_ble_eq_true rfl) ?_
  refine x_iload_n rfl rfl rfl ?_
  refine x_ifN_lt (by omega) rfl rfl (fun hc1 => hc1.elim) (fun hc1 => ?_)
  refine x_iload_n rfl rfl rfl ?_
  refine x_aload_n rfl rfl rfl ?_
  refine x_getR0 rfl rfl f_8_20 rfl (by decide) rfl rfl ?_
  refine x_getIv (v := nI tn) htn rfl rfl f_8_113 rfl (by decide) rfl ?_
  refine x_icmpN_lt (by omega) (by omega) rfl rfl (fun hc2 => ?_) (fun hc2 => absurd hc2 (by omega))
  refine x_aload_n rfl rfl rfl ?_
  refine x_callVv (d2 := 0) (c_refuse0 (n := n) hG hn (by omega)) rfl rfl v_8_72 rfl rfl (by decide) rfl rfl (Nat.le_of_ble_eq_true rfl) (by omega) (by omega) ?_
  refine x_aload_n rfl rfl rfl ?_
  refine x_getR0 rfl rfl f_8_20 rfl (by decide) rfl rfl ?_
  refine x_bipush (v := nI 10) rfl rfl (by decide +kernel) ?_
  refine x_callVi (d2 := 2) (c_makeThing (n := n) hG (Nat.le_refl 2) (nI 10) hn (by omega)) rfl rfl v_8_75 rfl rfl (by decide) rfl rfl (Nat.le_of_ble_eq_true rfl) (by omega) (by omega) ?_
  refine x_istore_n rfl rfl rfl rfl ?_
  refine x_aload_n rfl rfl rfl ?_
  refine x_getR0 rfl rfl f_8_20 rfl (by decide) rfl rfl ?_
  refine x_aload_n rfl rfl rfl ?_
  refine x_getR0 rfl rfl f_8_20 rfl (by decide) rfl rfl ?_
  refine x_getR0 rfl rfl f_8_79 rfl (by decide) rfl rfl ?_
  refine x_iload_n rfl rfl rfl ?_
  refine x_aaldi (a := n) rfl rfl rfl (by decide) (by decide) (by omega) (by decide) rfl ?_
  refine x_iload_n rfl rfl rfl ?_
  refine x_callVv (d2 := 1) (c_giveTraits2 hG (Nat.le_refl 1) (by omega) (by omega) (by first | rfl | simp [ui, ul]) (by first | exact hm | (rw [← hm]; rfl) | simp [ui, ul, hm])) rfl rfl v_8_129 rfl rfl (by decide) rfl rfl (Nat.le_of_ble_eq_true rfl) (by omega) (by omega) ?_
  refine x_bipush (v := nI 7) rfl rfl (by decide +kernel) ?_
  refine x_iload_n rfl rfl rfl ?_
  refine x_i2lN (a := n) (by omega) rfl rfl ?_
  refine x_callSl (d2 := 0) (c_valueOf hG (nI 7) (lN (n))) rfl rfl s_8_68 rfl rfl (Nat.le_of_ble_eq_true rfl) (by omega) (by omega) ?_
  exact x_retL rfl rfl rfl (by omega) rfl rfl
set_option maxHeartbeats 4000000 in
set_option maxRecDepth 20000 in
theorem c_object3 (hG : Gok G) (hd : 3 ≤ d) {n : Nat} (hn : M.1 (1, 0) 5 = nI n) (hn2 : n < 40) {tn : Nat} (htn : M.1 (1, 0) 4 = nI tn) (htn2 : tn ≤ 12) {t : Nat} (ht : t < tn) (hm : M.1 (6, t) 1 = nI 3) : Ct G mX8_object d [.ref (ga G (0, 0)), .int (nI t)] M (.inl (some (.long (16 * (lN (n)) + (nI 7).toInt64)))) (ui (ul (ui (ul (ui (ul (ui (ui (ui (ui (ui (ul (ui (ui M (8, n) 3 (nI 10)) (8, n) 4 ((-1))) (8, n) 5 0) (9, n) 1 (nI 0)) (11, n) 1 (nI 0)) (13, n) 1 (nI 0)) (1, 0) 5 (nI (n + 1))) (8, n) 4 (nI t)) (10, n) 0 0) (9, n) 1 (nI 1)) (10, n) 1 0) (9, n) 1 (nI 2)) (10, n) 2 0) (9, n) 1 (nI 3)) 0 := by
  refine ct_of hG okX8_object (by decide +kernel) rfl (Nat.le_of_ble_eq_true rfl) ?_
  refine x_iload_n rfl rfl rfl ?_
  refine x_ifN_lt (by omega) rfl rfl (fun hc1 => hc1.elim) (fun hc1 => ?_)
  refine x_iload_n rfl rfl rfl ?_
  refine x_aload_n rfl rfl rfl ?_
  refine x_getR0 rfl rfl f_8_20 rfl (by decide) rfl rfl ?_
  refine x_getIv (v := nI tn) htn rfl rfl f_8_113 rfl (by decide) rfl ?_
  refine x_icmpN_lt (by omega) (by omega) rfl rfl (fun hc2 => ?_) (fun hc2 => absurd hc2 (by omega))
  refine x_aload_n rfl rfl rfl ?_
  refine x_callVv (d2 := 0) (c_refuse0 (n := n) hG hn (by omega)) rfl rfl v_8_72 rfl rfl (by decide) rfl rfl (Nat.le_of_ble_eq_true rfl) (by omega) (by omega) ?_
  refine x_aload_n rfl rfl rfl ?_
  refine x_getR0 rfl rfl f_8_20 rfl (by decide) rfl rfl ?_
  refine x_bipush (v := nI 10) rfl rfl (by decide +kernel) ?_
  refine x_callVi (d2 := 2) (c_makeThing (n := n) hG (Nat.le_refl 2) (nI 10) hn (by omega)) rfl rfl v_8_75 rfl rfl (by decide) rfl rfl (Nat.le_of_ble_eq_true rfl) (by omega) (by omega) ?_
  refine x_istore_n rfl rfl rfl rfl ?_
  refine x_aload_n rfl rfl rfl ?_
  refine x_getR0 rfl rfl f_8_20 rfl (by decide) rfl rfl ?_
  refine x_aload_n rfl rfl rfl ?_
  refine x_getR0 rfl rfl f_8_20 rfl (by decide) rfl rfl ?_
  refine x_getR0 rfl rfl f_8_79 rfl (by decide) rfl rfl ?_
  refine x_iload_n rfl rfl rfl ?_
  refine x_aaldi (a := n) rfl rfl rfl (by decide) (by decide) (by omega) (by decide) rfl ?_
  refine x_iload_n rfl rfl rfl ?_
  refine x_callVv (d2 := 1) (c_giveTraits3 hG (Nat.le_refl 1) (by omega) (by omega) (by first | rfl | simp [ui, ul]) (by first | exact hm | (rw [← hm]; rfl) | simp [ui, ul, hm])) rfl rfl v_8_129 rfl rfl (by decide) rfl rfl (Nat.le_of_ble_eq_true rfl) (by omega) (by omega) ?_
  refine x_bipush (v := nI 7) rfl rfl (by decide +kernel) ?_
  refine x_iload_n rfl rfl rfl ?_
  refine x_i2lN (a := n) (by omega) rfl rfl ?_
  refine x_callSl (d2 := 0) (c_valueOf hG (nI 7) (lN (n))) rfl rfl s_8_68 rfl rfl (Nat.le_of_ble_eq_true rfl) (by omega) (by omega) ?_
  exact x_retL rfl rfl rfl (by omega) rfl rfl
set_option maxHeartbeats 4000000 in
set_option maxRecDepth 20000 in
theorem c_objectX (hG : Gok G) (hd : 7 ≤ d) (hn : M.1 (1, 0) 5 = nI 40) {tn : Nat} (htn : M.1 (1, 0) 4 = nI tn) (htn2 : tn ≤ 12) {t : Nat} (ht : t < tn) : Ct G mX8_object d [.ref (ga G (0, 0)), .int (nI t)] M (.inr "java/lang/IllegalStateException") M 1 := by
  refine ct_of hG okX8_object (by decide +kernel) rfl (Nat.le_of_ble_eq_true rfl) ?_
  refine x_iload_n rfl rfl rfl ?_
  refine x_ifN_lt (by omega) rfl rfl (fun hc1 => hc1.elim) (fun hc1 => ?_)
  refine x_iload_n rfl rfl rfl ?_
  refine x_aload_n rfl rfl rfl ?_
  refine x_getR0 rfl rfl f_8_20 rfl (by decide) rfl rfl ?_
  refine x_getIv (v := nI tn) htn rfl rfl f_8_113 rfl (by decide) rfl ?_
  refine x_icmpN_lt (by omega) (by omega) rfl rfl (fun hc2 => ?_) (fun hc2 => absurd hc2 (by omega))
  refine x_aload_n rfl rfl rfl ?_
  exact x_throwV (d2 := 6) (c_refuse1 hG (Nat.le_refl 6) hn) rfl rfl v_8_72 rfl rfl (by decide) rfl rfl (Nat.le_of_ble_eq_true rfl) (by omega) (by omega)
set_option maxHeartbeats 4000000 in
set_option maxRecDepth 20000 in
theorem c_objectN (hG : Gok G) (hd : 6 ≤ d) {t : Int32} (ht : t < 0) : Ct G mX8_object d [.ref (ga G (0, 0)), .int (t)] M (.inr "java/lang/IllegalArgumentException") M 1 := by
  refine ct_of hG okX8_object (by decide +kernel) rfl (Nat.le_of_ble_eq_true rfl) ?_
  refine x_iload_n rfl rfl rfl ?_
  refine x_if_lt rfl rfl (fun hc1 => ?_) (fun hc1 => absurd ht hc1)
  exact x_throw rfl rfl rfl rfl rfl rfl rfl rfl th_8_89_91 (Nat.le_of_ble_eq_true rfl) (by omega) (by omega)
set_option maxHeartbeats 4000000 in
set_option maxRecDepth 20000 in
theorem c_objectO (hG : Gok G) (hd : 6 ≤ d) {tn : Nat} (htn : M.1 (1, 0) 4 = nI tn) (htn2 : tn ≤ 12) {t : Nat} (ht : tn ≤ t) (ht2 : t < 2 ^ 31) : Ct G mX8_object d [.ref (ga G (0, 0)), .int (nI t)] M (.inr "java/lang/IllegalArgumentException") M 1 := by
  refine ct_of hG okX8_object (by decide +kernel) rfl (Nat.le_of_ble_eq_true rfl) ?_
  refine x_iload_n rfl rfl rfl ?_
  refine x_ifN_lt (by omega) rfl rfl (fun hc1 => hc1.elim) (fun hc1 => ?_)
  refine x_iload_n rfl rfl rfl ?_
  refine x_aload_n rfl rfl rfl ?_
  refine x_getR0 rfl rfl f_8_20 rfl (by decide) rfl rfl ?_
  refine x_getIv (v := nI tn) htn rfl rfl f_8_113 rfl (by decide) rfl ?_
  refine x_icmpN_lt (by omega) (by omega) rfl rfl (fun hc2 => absurd hc2 (by omega)) (fun hc2 => ?_)
  exact x_throw rfl rfl rfl rfl rfl rfl rfl rfl th_8_89_91 (Nat.le_of_ble_eq_true rfl) (by omega) (by omega)
set_option maxHeartbeats 4000000 in
set_option maxRecDepth 20000 in
theorem c_allow (hG : Gok G) (hd : 2 ≤ d) (nm : Int64) {an : Nat} (han : M.1 (17, 0) 1 = nI an) (han2 : an ≤ 6) (h1 : isTx nm) (h2 : nm ≠ 0) (h3 : fx (M.2 (18, 0)) nm 0 an = none) (h4 : an < 6) : Ct G mX8_allow d [.ref (ga G (0, 0)), .long (nm)] M (.inl (some (.int (nI 1)))) (ui (ul M (18, 0) an nm) (17, 0) 1 (nI (an + 1))) 0 := by
  refine ct_of hG okX8_allow (by decide +kernel) rfl (Nat.le_of_ble_eq_true rfl) ?_
  refine x_lload_n rfl rfl rfl ?_
  refine x_callSi (d2 := 0) (c_isText hG (nm)) rfl rfl s_8_101 rfl rfl (Nat.le_of_ble_eq_true rfl) (by omega) (by omega) ?_
  refine x_ifB_eq rfl rfl (fun hc1 => absurd h1 hc1) (fun hc1 => ?_)
  refine x_lload_n rfl rfl rfl ?_
  refine x_lconst (v := 0) rfl rfl (by decide +kernel) ?_
  refine x_lc_eq rfl rfl rfl rfl (fun hc2 => absurd hc2 h2) (fun hc2 => ?_)
  refine x_aload_n rfl rfl rfl ?_
  refine x_getR0 rfl rfl f_8_28 rfl (by decide) rfl rfl ?_
  refine x_lload_n rfl rfl rfl ?_
  refine x_callVi (d2 := 1) (c_LL_has (len := an) hG (lk_17 (by decide)) (nm) han (by omega) (by decide) (Nat.le_refl 1)) rfl rfl v_8_168 rfl rfl (by decide) rfl rfl (Nat.le_of_ble_eq_true rfl) (by omega) (by omega) ?_
  refine x_ifB_ne rfl rfl (fun hc3 => absurd h3 hc3) (fun hc3 => ?_)
  refine x_aload_n rfl rfl rfl ?_
  refine x_getR0 rfl rfl f_8_28 rfl (by decide) rfl rfl ?_
  refine x_callVi (d2 := 0) (c_LL_isFull (len := an) hG (lk_17 (by decide)) han (by omega)) rfl rfl v_8_139 rfl rfl (by decide) rfl rfl (Nat.le_of_ble_eq_true rfl) (by omega) (by omega) ?_
  refine x_ifB_eq rfl rfl (fun hc4 => ?_) (fun hc4 => absurd hc4 (by omega))
  refine x_aload_n rfl rfl rfl ?_
  refine x_getR0 rfl rfl f_8_28 rfl (by decide) rfl rfl ?_
  refine x_lload_n rfl rfl rfl ?_
  refine x_callVv (d2 := 0) (c_LL_add (len := an) hG (lk_17 (by decide)) (nm) han (by omega)) rfl rfl v_8_97 rfl rfl (by decide) rfl rfl (Nat.le_of_ble_eq_true rfl) (by omega) (by omega) ?_
  refine x_iconstN (b := 1) rfl rfl ?_
  exact x_retZ rfl rfl rfl (by first | exact Or.inl rfl | exact Or.inr rfl) (by omega) rfl rfl
set_option maxHeartbeats 4000000 in
set_option maxRecDepth 20000 in
theorem c_allowX (hG : Gok G) (hd : 2 ≤ d) (nm : Int64) {an : Nat} (han : M.1 (17, 0) 1 = nI an) (han2 : an ≤ 6) (h : ¬ (isTx nm ∧ nm ≠ 0 ∧ fx (M.2 (18, 0)) nm 0 an = none ∧ an < 6)) : Ct G mX8_allow d [.ref (ga G (0, 0)), .long (nm)] M (.inl (some (.int (nI 0)))) M 0 := by
  refine ct_of hG okX8_allow (by decide +kernel) rfl (Nat.le_of_ble_eq_true rfl) ?_
  refine x_lload_n rfl rfl rfl ?_
  refine x_callSi (d2 := 0) (c_isText hG (nm)) rfl rfl s_8_101 rfl rfl (Nat.le_of_ble_eq_true rfl) (by omega) (by omega) ?_
  refine x_ifB_eq rfl rfl (fun hc1 => ?_) (fun hc1 => ?_)
  · refine x_iconstN (b := 0) rfl rfl ?_
    exact x_retZ rfl rfl rfl (Or.inl rfl) (by omega) rfl rfl
  · refine x_lload_n rfl rfl rfl ?_
    refine x_lconst (v := 0) rfl rfl (by decide +kernel) ?_
    refine x_lc_eq rfl rfl rfl rfl (fun hc2 => ?_) (fun hc2 => ?_)
    · refine x_iconstN (b := 0) rfl rfl ?_
      exact x_retZ rfl rfl rfl (Or.inl rfl) (by omega) rfl rfl
    · refine x_aload_n rfl rfl rfl ?_
      refine x_getR0 rfl rfl f_8_28 rfl (by decide) rfl rfl ?_
      refine x_lload_n rfl rfl rfl ?_
      refine x_callVi (d2 := 1) (c_LL_has (len := an) hG (lk_17 (by decide)) (nm) han (by omega) (by decide) (Nat.le_refl 1)) rfl rfl v_8_168 rfl rfl (by decide) rfl rfl (Nat.le_of_ble_eq_true rfl) (by omega) (by omega) ?_
      refine x_ifB_ne rfl rfl (fun hc3 => ?_) (fun hc3 => ?_)
      · refine x_iconstN (b := 0) rfl rfl ?_
        exact x_retZ rfl rfl rfl (Or.inl rfl) (by omega) rfl rfl
      · refine x_aload_n rfl rfl rfl ?_
        refine x_getR0 rfl rfl f_8_28 rfl (by decide) rfl rfl ?_
        refine x_callVi (d2 := 0) (c_LL_isFull (len := an) hG (lk_17 (by decide)) han (by omega)) rfl rfl v_8_139 rfl rfl (by decide) rfl rfl (Nat.le_of_ble_eq_true rfl) (by omega) (by omega) ?_
        refine x_ifB_eq rfl rfl (fun hc4 => ?_) (fun hc4 => ?_)
        · refine x_aload_n rfl rfl rfl ?_
          refine x_getR0 rfl rfl f_8_28 rfl (by decide) rfl rfl ?_
          refine x_lload_n rfl rfl rfl ?_
          refine x_callVv (d2 := 0) (c_LL_add (len := an) hG (lk_17 (by decide)) (nm) han (by omega)) rfl rfl v_8_97 rfl rfl (by decide) rfl rfl (Nat.le_of_ble_eq_true rfl) (by omega) (by omega) ?_
          refine x_iconstN (b := 1) rfl rfl ?_
          exact absurd ⟨hc1, hc2, Classical.byContradiction hc3, by omega⟩ h
        · refine x_iconstN (b := 0) rfl rfl ?_
          exact x_retZ rfl rfl rfl (Or.inl rfl) (by omega) rfl rfl
set_option maxHeartbeats 4000000 in
set_option maxRecDepth 20000 in
theorem c_append (hG : Gok G) (hd : 2 ≤ d) (v : Int64) {n : Nat} (hn : M.1 (1, 0) 5 = nI n) (hn2 : n ≤ 40) {w : Nat} (hw : M.1 (1, 0) 3 = nI w) (hw2 : w ≤ 40) {i : Nat} (hi : i < n) {il : Nat} (hil : M.1 (9, i) 1 = nI il) (hil2 : il < 8) (hkd : M.1 (8, i) 3 = nI 9) (hv : isV w n v) : Ct G mX8_append d [.ref (ga G (0, 0)), .int (nI i), .long (v)] M (.inl (some (.int (nI (il + 1))))) (ui (ul M (10, i) il v) (9, i) 1 (nI (il + 1))) 0 := by
  refine ct_of hG okX8_append (by decide +kernel) rfl (Nat.le_of_ble_eq_true rfl) ?_
  refine x_aload_n rfl rfl rfl ?_
  refine x_iload_n rfl rfl rfl ?_
  refine x_callVi (d2 := 1) (c_kind (kd := 9) hG (Nat.le_refl 1) hn hn2 hi hkd) rfl rfl v_8_133 rfl rfl (by decide) rfl rfl (Nat.le_of_ble_eq_true rfl) (by omega) (by omega) ?_
  refine x_bipush (v := nI 9) rfl rfl (by decide +kernel) ?_
  refine x_icmpN_ne (by omega) (by omega) rfl rfl (fun hc1 => absurd hc1 (by omega)) (fun hc1 => ?_)
  refine x_aload_n rfl rfl rfl ?_
  refine x_getR0 rfl rfl f_8_20 rfl (by decide) rfl rfl ?_
  refine x_lload_n rfl rfl rfl ?_
  refine x_callVi (d2 := 1) (c_isValue hG (Nat.le_refl 1) (v) hn hn2 hw hw2) rfl rfl v_8_136 rfl rfl (by decide) rfl rfl (Nat.le_of_ble_eq_true rfl) (by omega) (by omega) ?_
  refine x_ifB_ne rfl rfl (fun hc2 => ?_) (fun hc2 => absurd hv hc2)
  refine x_aload_n rfl rfl rfl ?_
  refine x_getR0 rfl rfl f_8_20 rfl (by decide) rfl rfl ?_
  refine x_getR0 rfl rfl f_8_79 rfl (by decide) rfl rfl ?_
  refine x_iload_n rfl rfl rfl ?_
  refine x_aaldi (a := i) rfl rfl rfl (by decide) (by decide) (by omega) (by decide) rfl ?_
  refine x_getRi rfl rfl f_8_92 rfl (by show _ < 40; omega) rfl rfl ?_
  refine x_astore rfl rfl rfl rfl ?_
  refine x_aload rfl rfl rfl ?_
  refine x_callVi (d2 := 0) (c_LL_isFull (len := il) hG (lk_9 (by omega)) hil (by omega)) rfl rfl v_8_139 rfl rfl (by show _ < 40; omega) rfl rfl (Nat.le_of_ble_eq_true rfl) (by omega) (by omega) ?_
  refine x_ifB_eq rfl rfl (fun hc3 => ?_) (fun hc3 => absurd hc3 (by omega))
  refine x_aload rfl rfl rfl ?_
  refine x_lload_n rfl rfl rfl ?_
  refine x_callVv (d2 := 0) (c_LL_add (len := il) hG (lk_9 (by omega)) (v) hil (by omega)) rfl rfl v_8_97 rfl rfl (by show _ < 40; omega) rfl rfl (Nat.le_of_ble_eq_true rfl) (by omega) (by omega) ?_
  refine x_aload rfl rfl rfl ?_
  refine x_getIv (v := nI (il + 1)) (by first | rfl | simp [ui, ul]) rfl rfl f_8_143 rfl (by show _ < 40; omega) rfl ?_
  exact x_retI rfl rfl rfl (by omega) rfl rfl
set_option maxHeartbeats 4000000 in
set_option maxRecDepth 20000 in
theorem c_appendF (hG : Gok G) (hd : 6 ≤ d) (v : Int64) {n : Nat} (hn : M.1 (1, 0) 5 = nI n) (hn2 : n ≤ 40) {w : Nat} (hw : M.1 (1, 0) 3 = nI w) (hw2 : w ≤ 40) {i : Nat} (hi : i < n) (hil : M.1 (9, i) 1 = nI 8) (hkd : M.1 (8, i) 3 = nI 9) (hv : isV w n v) : Ct G mX8_append d [.ref (ga G (0, 0)), .int (nI i), .long (v)] M (.inr "java/lang/IllegalStateException") M 1 := by
  refine ct_of hG okX8_append (by decide +kernel) rfl (Nat.le_of_ble_eq_true rfl) ?_
  refine x_aload_n rfl rfl rfl ?_
  refine x_iload_n rfl rfl rfl ?_
  refine x_callVi (d2 := 1) (c_kind (kd := 9) hG (Nat.le_refl 1) hn hn2 hi hkd) rfl rfl v_8_133 rfl rfl (by decide) rfl rfl (Nat.le_of_ble_eq_true rfl) (by omega) (by omega) ?_
  refine x_bipush (v := nI 9) rfl rfl (by decide +kernel) ?_
  refine x_icmpN_ne (by omega) (by omega) rfl rfl (fun hc1 => absurd hc1 (by omega)) (fun hc1 => ?_)
  refine x_aload_n rfl rfl rfl ?_
  refine x_getR0 rfl rfl f_8_20 rfl (by decide) rfl rfl ?_
  refine x_lload_n rfl rfl rfl ?_
  refine x_callVi (d2 := 1) (c_isValue hG (Nat.le_refl 1) (v) hn hn2 hw hw2) rfl rfl v_8_136 rfl rfl (by decide) rfl rfl (Nat.le_of_ble_eq_true rfl) (by omega) (by omega) ?_
  refine x_ifB_ne rfl rfl (fun hc2 => ?_) (fun hc2 => absurd hv hc2)
  refine x_aload_n rfl rfl rfl ?_
  refine x_getR0 rfl rfl f_8_20 rfl (by decide) rfl rfl ?_
  refine x_getR0 rfl rfl f_8_79 rfl (by decide) rfl rfl ?_
  refine x_iload_n rfl rfl rfl ?_
  refine x_aaldi (a := i) rfl rfl rfl (by decide) (by decide) (by omega) (by decide) rfl ?_
  refine x_getRi rfl rfl f_8_92 rfl (by show _ < 40; omega) rfl rfl ?_
  refine x_astore rfl rfl rfl rfl ?_
  refine x_aload rfl rfl rfl ?_
  refine x_callVi (d2 := 0) (c_LL_isFull (len := 8) hG (lk_9 (by omega)) hil (by omega)) rfl rfl v_8_139 rfl rfl (by show _ < 40; omega) rfl rfl (Nat.le_of_ble_eq_true rfl) (by omega) (by omega) ?_
  refine x_ifB_eq rfl rfl (fun hc3 => absurd rfl hc3) (fun hc3 => ?_)
  exact x_throw rfl rfl rfl rfl rfl rfl rfl rfl th_8_61_63 (Nat.le_of_ble_eq_true rfl) (by omega) (by omega)
set_option maxHeartbeats 4000000 in
set_option maxRecDepth 20000 in
theorem c_appendV (hG : Gok G) (hd : 6 ≤ d) (v : Int64) {n : Nat} (hn : M.1 (1, 0) 5 = nI n) (hn2 : n ≤ 40) {w : Nat} (hw : M.1 (1, 0) 3 = nI w) (hw2 : w ≤ 40) {i : Nat} (hi : i < n) (hkd : M.1 (8, i) 3 = nI 9) (hv : ¬ isV w n v) : Ct G mX8_append d [.ref (ga G (0, 0)), .int (nI i), .long (v)] M (.inr "java/lang/IllegalArgumentException") M 1 := by
  refine ct_of hG okX8_append (by decide +kernel) rfl (Nat.le_of_ble_eq_true rfl) ?_
  refine x_aload_n rfl rfl rfl ?_
  refine x_iload_n rfl rfl rfl ?_
  refine x_callVi (d2 := 1) (c_kind (kd := 9) hG (Nat.le_refl 1) hn hn2 hi hkd) rfl rfl v_8_133 rfl rfl (by decide) rfl rfl (Nat.le_of_ble_eq_true rfl) (by omega) (by omega) ?_
  refine x_bipush (v := nI 9) rfl rfl (by decide +kernel) ?_
  refine x_icmpN_ne (by omega) (by omega) rfl rfl (fun hc1 => absurd hc1 (by omega)) (fun hc1 => ?_)
  refine x_aload_n rfl rfl rfl ?_
  refine x_getR0 rfl rfl f_8_20 rfl (by decide) rfl rfl ?_
  refine x_lload_n rfl rfl rfl ?_
  refine x_callVi (d2 := 1) (c_isValue hG (Nat.le_refl 1) (v) hn hn2 hw hw2) rfl rfl v_8_136 rfl rfl (by decide) rfl rfl (Nat.le_of_ble_eq_true rfl) (by omega) (by omega) ?_
  refine x_ifB_ne rfl rfl (fun hc2 => absurd hc2 hv) (fun hc2 => ?_)
  exact x_throw rfl rfl rfl rfl rfl rfl rfl rfl th_8_89_91 (Nat.le_of_ble_eq_true rfl) (by omega) (by omega)
set_option maxHeartbeats 4000000 in
set_option maxRecDepth 20000 in
theorem c_appendK (hG : Gok G) (hd : 6 ≤ d) (v : Int64) {n : Nat} (hn : M.1 (1, 0) 5 = nI n) (hn2 : n ≤ 40) {i : Nat} (hi : i < n) {kd : Nat} (hkd : M.1 (8, i) 3 = nI kd) (hkd2 : kd < 16) (hne : kd ≠ 9) : Ct G mX8_append d [.ref (ga G (0, 0)), .int (nI i), .long (v)] M (.inr "java/lang/IllegalArgumentException") M 1 := by
  refine ct_of hG okX8_append (by decide +kernel) rfl (Nat.le_of_ble_eq_true rfl) ?_
  refine x_aload_n rfl rfl rfl ?_
  refine x_iload_n rfl rfl rfl ?_
  refine x_callVi (d2 := 1) (c_kind (kd := kd) hG (Nat.le_refl 1) hn hn2 hi hkd) rfl rfl v_8_133 rfl rfl (by decide) rfl rfl (Nat.le_of_ble_eq_true rfl) (by omega) (by omega) ?_
  refine x_bipush (v := nI 9) rfl rfl (by decide +kernel) ?_
  refine x_icmpN_ne (by omega) (by omega) rfl rfl (fun hc1 => ?_) (fun hc1 => absurd hc1 hne)
  exact x_throw rfl rfl rfl rfl rfl rfl rfl rfl th_8_89_91 (Nat.le_of_ble_eq_true rfl) (by omega) (by omega)
set_option maxHeartbeats 4000000 in
set_option maxRecDepth 20000 in
theorem c_appendT (hG : Gok G) (hd : 6 ≤ d) (v : Int64) {n : Nat} (hn : M.1 (1, 0) 5 = nI n) (hn2 : n ≤ 40) {th : Int32} (ho : ∀ i, i < n → th ≠ nI i) : Ct G mX8_append d [.ref (ga G (0, 0)), .int (th), .long (v)] M (.inr "java/lang/IllegalArgumentException") M 1 := by
  refine ct_of hG okX8_append (by decide +kernel) rfl (Nat.le_of_ble_eq_true rfl) ?_
  refine x_aload_n rfl rfl rfl ?_
  refine x_iload_n rfl rfl rfl ?_
  refine x_callVi (d2 := 1) (c_kindO hG (Nat.le_refl 1) hn hn2 ho) rfl rfl v_8_133 rfl rfl (by decide) rfl rfl (Nat.le_of_ble_eq_true rfl) (by omega) (by omega) ?_
  refine x_bipush (v := nI 9) rfl rfl (by decide +kernel) ?_
  refine x_icmp_ne rfl rfl (fun hc1 => ?_) (fun hc1 => absurd hc1 (by decide +kernel))
  exact x_throw rfl rfl rfl rfl rfl rfl rfl rfl th_8_89_91 (Nat.le_of_ble_eq_true rfl) (by omega) (by omega)
set_option maxHeartbeats 4000000 in
set_option maxRecDepth 20000 in
theorem c_hasItem9 (hG : Gok G) (hd : 2 ≤ d) {n : Nat} (hn : M.1 (1, 0) 5 = nI n) (hn2 : n ≤ 40) {i : Nat} (hi : i < n) {il : Nat} (hil : M.1 (9, i) 1 = nI il) (hil2 : il ≤ 8) (hkd : M.1 (8, i) 3 = nI 9) {j : Nat} (hj : j < il) : Ct G mX8_hasItem d [.ref (ga G (0, 0)), .int (nI i), .int (nI j)] M (.inl (some (.int (nI 1)))) M 0 := by
  refine ct_of hG okX8_hasItem (by decide +kernel) rfl (Nat.le_of_ble_eq_true rfl) ?_
  refine x_aload_n rfl rfl rfl ?_
  refine x_iload_n rfl rfl rfl ?_
  refine x_callVi (d2 := 1) (c_kind (kd := 9) hG (Nat.le_refl 1) hn hn2 hi hkd) rfl rfl v_8_133 rfl rfl (by decide) rfl rfl (Nat.le_of_ble_eq_true rfl) (by omega) (by omega) ?_
  refine x_istore_n rfl rfl rfl rfl ?_
  refine x_iload_n rfl rfl rfl ?_
  refine x_bipush (v := nI 9) rfl rfl (by decide +kernel) ?_
  refine x_icmpN_eq (by omega) (by omega) rfl rfl (fun hc1 => ?_) (fun hc1 => absurd hc1 (by omega))
  refine x_iload_n rfl rfl rfl ?_
  refine x_ifN_lt (by omega) rfl rfl (fun hc2 => hc2.elim) (fun hc2 => ?_)
  refine x_iload_n rfl rfl rfl ?_
  refine x_aload_n rfl rfl rfl ?_
  refine x_getR0 rfl rfl f_8_20 rfl (by decide) rfl rfl ?_
  refine x_getR0 rfl rfl f_8_79 rfl (by decide) rfl rfl ?_
  refine x_iload_n rfl rfl rfl ?_
  refine x_aaldi (a := i) rfl rfl rfl (by decide) (by decide) (by omega) (by decide) rfl ?_
  refine x_getRi rfl rfl f_8_92 rfl (by show _ < 40; omega) rfl rfl ?_
  refine x_getIv (v := nI il) hil rfl rfl f_8_143 rfl (by show _ < 40; omega) rfl ?_
  refine x_icmpN_ge (by omega) (by omega) rfl rfl (fun hc3 => absurd hc3 (by omega)) (fun hc3 => ?_)
  refine x_iconstN (b := 1) rfl rfl ?_
  refine x_goto rfl rfl ?_
  exact x_retZ rfl rfl rfl (by first | exact Or.inl rfl | exact Or.inr rfl) (by omega) rfl rfl
set_option maxHeartbeats 4000000 in
set_option maxRecDepth 20000 in
theorem c_hasItem9O (hG : Gok G) (hd : 2 ≤ d) {n : Nat} (hn : M.1 (1, 0) 5 = nI n) (hn2 : n ≤ 40) {i : Nat} (hi : i < n) {il : Nat} (hil : M.1 (9, i) 1 = nI il) (hil2 : il ≤ 8) (hkd : M.1 (8, i) 3 = nI 9) {j : Nat} (hj : il ≤ j) (hj2 : j < 2 ^ 31) : Ct G mX8_hasItem d [.ref (ga G (0, 0)), .int (nI i), .int (nI j)] M (.inl (some (.int (nI 0)))) M 0 := by
  refine ct_of hG okX8_hasItem (by decide +kernel) rfl (Nat.le_of_ble_eq_true rfl) ?_
  refine x_aload_n rfl rfl rfl ?_
  refine x_iload_n rfl rfl rfl ?_
  refine x_callVi (d2 := 1) (c_kind (kd := 9) hG (Nat.le_refl 1) hn hn2 hi hkd) rfl rfl v_8_133 rfl rfl (by decide) rfl rfl (Nat.le_of_ble_eq_true rfl) (by omega) (by omega) ?_
  refine x_istore_n rfl rfl rfl rfl ?_
  refine x_iload_n rfl rfl rfl ?_
  refine x_bipush (v := nI 9) rfl rfl (by decide +kernel) ?_
  refine x_icmpN_eq (by omega) (by omega) rfl rfl (fun hc1 => ?_) (fun hc1 => absurd hc1 (by omega))
  refine x_iload_n rfl rfl rfl ?_
  refine x_ifN_lt (by omega) rfl rfl (fun hc2 => hc2.elim) (fun hc2 => ?_)
  refine x_iload_n rfl rfl rfl ?_
  refine x_aload_n rfl rfl rfl ?_
  refine x_getR0 rfl rfl f_8_20 rfl (by decide) rfl rfl ?_
  refine x_getR0 rfl rfl f_8_79 rfl (by decide) rfl rfl ?_
  refine x_iload_n rfl rfl rfl ?_
  refine x_aaldi (a := i) rfl rfl rfl (by decide) (by decide) (by omega) (by decide) rfl ?_
  refine x_getRi rfl rfl f_8_92 rfl (by show _ < 40; omega) rfl rfl ?_
  refine x_getIv (v := nI il) hil rfl rfl f_8_143 rfl (by show _ < 40; omega) rfl ?_
  refine x_icmpN_ge (by omega) (by omega) rfl rfl (fun hc3 => ?_) (fun hc3 => absurd hc3 (by omega))
  refine x_iconstN (b := 0) rfl rfl ?_
  exact x_retZ rfl rfl rfl (by first | exact Or.inl rfl | exact Or.inr rfl) (by omega) rfl rfl
set_option maxHeartbeats 4000000 in
set_option maxRecDepth 20000 in
theorem c_hasItem9N (hG : Gok G) (hd : 2 ≤ d) {n : Nat} (hn : M.1 (1, 0) 5 = nI n) (hn2 : n ≤ 40) {i : Nat} (hi : i < n) (hkd : M.1 (8, i) 3 = nI 9) {j : Int32} (hj : j < 0) : Ct G mX8_hasItem d [.ref (ga G (0, 0)), .int (nI i), .int (j)] M (.inl (some (.int (nI 0)))) M 0 := by
  refine ct_of hG okX8_hasItem (by decide +kernel) rfl (Nat.le_of_ble_eq_true rfl) ?_
  refine x_aload_n rfl rfl rfl ?_
  refine x_iload_n rfl rfl rfl ?_
  refine x_callVi (d2 := 1) (c_kind (kd := 9) hG (Nat.le_refl 1) hn hn2 hi hkd) rfl rfl v_8_133 rfl rfl (by decide) rfl rfl (Nat.le_of_ble_eq_true rfl) (by omega) (by omega) ?_
  refine x_istore_n rfl rfl rfl rfl ?_
  refine x_iload_n rfl rfl rfl ?_
  refine x_bipush (v := nI 9) rfl rfl (by decide +kernel) ?_
  refine x_icmpN_eq (by omega) (by omega) rfl rfl (fun hc1 => ?_) (fun hc1 => absurd hc1 (by omega))
  refine x_iload_n rfl rfl rfl ?_
  refine x_if_lt rfl rfl (fun hc2 => ?_) (fun hc2 => absurd hj hc2)
  refine x_iconstN (b := 0) rfl rfl ?_
  exact x_retZ rfl rfl rfl (by first | exact Or.inl rfl | exact Or.inr rfl) (by omega) rfl rfl
set_option maxHeartbeats 4000000 in
set_option maxRecDepth 20000 in
theorem c_hasItem10 (hG : Gok G) (hd : 2 ≤ d) {n : Nat} (hn : M.1 (1, 0) 5 = nI n) (hn2 : n ≤ 40) {i : Nat} (hi : i < n) {il : Nat} (hil : M.1 (9, i) 1 = nI il) (hil2 : il ≤ 8) (hkd : M.1 (8, i) 3 = nI 10) {j : Nat} (hj : j < il) : Ct G mX8_hasItem d [.ref (ga G (0, 0)), .int (nI i), .int (nI j)] M (.inl (some (.int (nI 1)))) M 0 := by
  refine ct_of hG okX8_hasItem (by decide +kernel) rfl (Nat.le_of_ble_eq_true rfl) ?_
  refine x_aload_n rfl rfl rfl ?_
  refine x_iload_n rfl rfl rfl ?_
  refine x_callVi (d2 := 1) (c_kind (kd := 10) hG (Nat.le_refl 1) hn hn2 hi hkd) rfl rfl v_8_133 rfl rfl (by decide) rfl rfl (Nat.le_of_ble_eq_true rfl) (by omega) (by omega) ?_
  refine x_istore_n rfl rfl rfl rfl ?_
  refine x_iload_n rfl rfl rfl ?_
  refine x_bipush (v := nI 9) rfl rfl (by decide +kernel) ?_
  refine x_icmpN_eq (by omega) (by omega) rfl rfl (fun hc1 => absurd hc1 (by omega)) (fun hc1 => ?_)
  refine x_iload_n rfl rfl rfl ?_
  refine x_bipush (v := nI 10) rfl rfl (by decide +kernel) ?_
  refine x_icmpN_ne (by omega) (by omega) rfl rfl (fun hc2 => absurd hc2 (by omega)) (fun hc2 => ?_)
  refine x_iload_n rfl rfl rfl ?_
  refine x_ifN_lt (by omega) rfl rfl (fun hc3 => hc3.elim) (fun hc3 => ?_)
  refine x_iload_n rfl rfl rfl ?_
  refine x_aload_n rfl rfl rfl ?_
  refine x_getR0 rfl rfl f_8_20 rfl (by decide) rfl rfl ?_
  refine x_getR0 rfl rfl f_8_79 rfl (by decide) rfl rfl ?_
  refine x_iload_n rfl rfl rfl ?_
  refine x_aaldi (a := i) rfl rfl rfl (by decide) (by decide) (by omega) (by decide) rfl ?_
  refine x_getRi rfl rfl f_8_92 rfl (by show _ < 40; omega) rfl rfl ?_
  refine x_getIv (v := nI il) hil rfl rfl f_8_143 rfl (by show _ < 40; omega) rfl ?_
  refine x_icmpN_ge (by omega) (by omega) rfl rfl (fun hc4 => absurd hc4 (by omega)) (fun hc4 => ?_)
  refine x_iconstN (b := 1) rfl rfl ?_
  refine x_goto rfl rfl ?_
  exact x_retZ rfl rfl rfl (by first | exact Or.inl rfl | exact Or.inr rfl) (by omega) rfl rfl
set_option maxHeartbeats 4000000 in
set_option maxRecDepth 20000 in
theorem c_hasItem10O (hG : Gok G) (hd : 2 ≤ d) {n : Nat} (hn : M.1 (1, 0) 5 = nI n) (hn2 : n ≤ 40) {i : Nat} (hi : i < n) {il : Nat} (hil : M.1 (9, i) 1 = nI il) (hil2 : il ≤ 8) (hkd : M.1 (8, i) 3 = nI 10) {j : Nat} (hj : il ≤ j) (hj2 : j < 2 ^ 31) : Ct G mX8_hasItem d [.ref (ga G (0, 0)), .int (nI i), .int (nI j)] M (.inl (some (.int (nI 0)))) M 0 := by
  refine ct_of hG okX8_hasItem (by decide +kernel) rfl (Nat.le_of_ble_eq_true rfl) ?_
  refine x_aload_n rfl rfl rfl ?_
  refine x_iload_n rfl rfl rfl ?_
  refine x_callVi (d2 := 1) (c_kind (kd := 10) hG (Nat.le_refl 1) hn hn2 hi hkd) rfl rfl v_8_133 rfl rfl (by decide) rfl rfl (Nat.le_of_ble_eq_true rfl) (by omega) (by omega) ?_
  refine x_istore_n rfl rfl rfl rfl ?_
  refine x_iload_n rfl rfl rfl ?_
  refine x_bipush (v := nI 9) rfl rfl (by decide +kernel) ?_
  refine x_icmpN_eq (by omega) (by omega) rfl rfl (fun hc1 => absurd hc1 (by omega)) (fun hc1 => ?_)
  refine x_iload_n rfl rfl rfl ?_
  refine x_bipush (v := nI 10) rfl rfl (by decide +kernel) ?_
  refine x_icmpN_ne (by omega) (by omega) rfl rfl (fun hc2 => absurd hc2 (by omega)) (fun hc2 => ?_)
  refine x_iload_n rfl rfl rfl ?_
  refine x_ifN_lt (by omega) rfl rfl (fun hc3 => hc3.elim) (fun hc3 => ?_)
  refine x_iload_n rfl rfl rfl ?_
  refine x_aload_n rfl rfl rfl ?_
  refine x_getR0 rfl rfl f_8_20 rfl (by decide) rfl rfl ?_
  refine x_getR0 rfl rfl f_8_79 rfl (by decide) rfl rfl ?_
  refine x_iload_n rfl rfl rfl ?_
  refine x_aaldi (a := i) rfl rfl rfl (by decide) (by decide) (by omega) (by decide) rfl ?_
  refine x_getRi rfl rfl f_8_92 rfl (by show _ < 40; omega) rfl rfl ?_
  refine x_getIv (v := nI il) hil rfl rfl f_8_143 rfl (by show _ < 40; omega) rfl ?_
  refine x_icmpN_ge (by omega) (by omega) rfl rfl (fun hc4 => ?_) (fun hc4 => absurd hc4 (by omega))
  refine x_iconstN (b := 0) rfl rfl ?_
  exact x_retZ rfl rfl rfl (by first | exact Or.inl rfl | exact Or.inr rfl) (by omega) rfl rfl
set_option maxHeartbeats 4000000 in
set_option maxRecDepth 20000 in
theorem c_hasItem10N (hG : Gok G) (hd : 2 ≤ d) {n : Nat} (hn : M.1 (1, 0) 5 = nI n) (hn2 : n ≤ 40) {i : Nat} (hi : i < n) (hkd : M.1 (8, i) 3 = nI 10) {j : Int32} (hj : j < 0) : Ct G mX8_hasItem d [.ref (ga G (0, 0)), .int (nI i), .int (j)] M (.inl (some (.int (nI 0)))) M 0 := by
  refine ct_of hG okX8_hasItem (by decide +kernel) rfl (Nat.le_of_ble_eq_true rfl) ?_
  refine x_aload_n rfl rfl rfl ?_
  refine x_iload_n rfl rfl rfl ?_
  refine x_callVi (d2 := 1) (c_kind (kd := 10) hG (Nat.le_refl 1) hn hn2 hi hkd) rfl rfl v_8_133 rfl rfl (by decide) rfl rfl (Nat.le_of_ble_eq_true rfl) (by omega) (by omega) ?_
  refine x_istore_n rfl rfl rfl rfl ?_
  refine x_iload_n rfl rfl rfl ?_
  refine x_bipush (v := nI 9) rfl rfl (by decide +kernel) ?_
  refine x_icmpN_eq (by omega) (by omega) rfl rfl (fun hc1 => absurd hc1 (by omega)) (fun hc1 => ?_)
  refine x_iload_n rfl rfl rfl ?_
  refine x_bipush (v := nI 10) rfl rfl (by decide +kernel) ?_
  refine x_icmpN_ne (by omega) (by omega) rfl rfl (fun hc2 => absurd hc2 (by omega)) (fun hc2 => ?_)
  refine x_iload_n rfl rfl rfl ?_
  refine x_if_lt rfl rfl (fun hc3 => ?_) (fun hc3 => absurd hj hc3)
  refine x_iconstN (b := 0) rfl rfl ?_
  exact x_retZ rfl rfl rfl (by first | exact Or.inl rfl | exact Or.inr rfl) (by omega) rfl rfl
set_option maxHeartbeats 4000000 in
set_option maxRecDepth 20000 in
theorem c_hasItemK (hG : Gok G) (hd : 2 ≤ d) {n : Nat} (hn : M.1 (1, 0) 5 = nI n) (hn2 : n ≤ 40) {i : Nat} (hi : i < n) {kd : Nat} (hkd : M.1 (8, i) 3 = nI kd) (hkd2 : kd < 16) (h9 : kd ≠ 9) (h10 : kd ≠ 10) (j : Int32) : Ct G mX8_hasItem d [.ref (ga G (0, 0)), .int (nI i), .int (j)] M (.inl (some (.int (nI 0)))) M 0 := by
  refine ct_of hG okX8_hasItem (by decide +kernel) rfl (Nat.le_of_ble_eq_true rfl) ?_
  refine x_aload_n rfl rfl rfl ?_
  refine x_iload_n rfl rfl rfl ?_
  refine x_callVi (d2 := 1) (c_kind (kd := kd) hG (Nat.le_refl 1) hn hn2 hi hkd) rfl rfl v_8_133 rfl rfl (by decide) rfl rfl (Nat.le_of_ble_eq_true rfl) (by omega) (by omega) ?_
  refine x_istore_n rfl rfl rfl rfl ?_
  refine x_iload_n rfl rfl rfl ?_
  refine x_bipush (v := nI 9) rfl rfl (by decide +kernel) ?_
  refine x_icmpN_eq (by omega) (by omega) rfl rfl (fun hc1 => absurd hc1 h9) (fun hc1 => ?_)
  refine x_iload_n rfl rfl rfl ?_
  refine x_bipush (v := nI 10) rfl rfl (by decide +kernel) ?_
  refine x_icmpN_ne (by omega) (by omega) rfl rfl (fun hc2 => ?_) (fun hc2 => absurd hc2 h10)
  refine x_iconstN (b := 0) rfl rfl ?_
  exact x_retZ rfl rfl rfl (by first | exact Or.inl rfl | exact Or.inr rfl) (by omega) rfl rfl
set_option maxHeartbeats 4000000 in
set_option maxRecDepth 20000 in
theorem c_hasItemT (hG : Gok G) (hd : 2 ≤ d) {n : Nat} (hn : M.1 (1, 0) 5 = nI n) (hn2 : n ≤ 40) {th : Int32} (ho : ∀ i, i < n → th ≠ nI i) (j : Int32) : Ct G mX8_hasItem d [.ref (ga G (0, 0)), .int (th), .int (j)] M (.inl (some (.int (nI 0)))) M 0 := by
  refine ct_of hG okX8_hasItem (by decide +kernel) rfl (Nat.le_of_ble_eq_true rfl) ?_
  refine x_aload_n rfl rfl rfl ?_
  refine x_iload_n rfl rfl rfl ?_
  refine x_callVi (d2 := 1) (c_kindO hG (Nat.le_refl 1) hn hn2 ho) rfl rfl v_8_133 rfl rfl (by decide) rfl rfl (Nat.le_of_ble_eq_true rfl) (by omega) (by omega) ?_
  refine x_istore_n rfl rfl rfl rfl ?_
  refine x_iload_n rfl rfl rfl ?_
  refine x_bipush (v := nI 9) rfl rfl (by decide +kernel) ?_
  refine x_icmp_eq rfl rfl (fun hc1 => absurd hc1 (by decide +kernel)) (fun hc1 => ?_)
  refine x_iload_n rfl rfl rfl ?_
  refine x_bipush (v := nI 10) rfl rfl (by decide +kernel) ?_
  refine x_icmp_ne rfl rfl (fun hc2 => ?_) (fun hc2 => absurd hc2 (by decide +kernel))
  refine x_iconstN (b := 0) rfl rfl ?_
  exact x_retZ rfl rfl rfl (by first | exact Or.inl rfl | exact Or.inr rfl) (by omega) rfl rfl
set_option maxHeartbeats 4000000 in
set_option maxRecDepth 20000 in
theorem c_set9 (hG : Gok G) (hd : 3 ≤ d) (v : Int64) {n : Nat} (hn : M.1 (1, 0) 5 = nI n) (hn2 : n ≤ 40) {w : Nat} (hw : M.1 (1, 0) 3 = nI w) (hw2 : w ≤ 40) {i : Nat} (hi : i < n) {il : Nat} (hil : M.1 (9, i) 1 = nI il) (hil2 : il ≤ 8) (hkd : M.1 (8, i) 3 = nI 9) {j : Nat} (hj : j < il) (hv : isV w n v) : Ct G mX8_set d [.ref (ga G (0, 0)), .int (nI i), .int (nI j), .long (v)] M (.inl none) (ul M (10, i) j v) 0 := by
  refine ct_of hG okX8_set (by decide +kernel) rfl (Nat.le_of_ble_eq_true rfl) ?_
  refine x_aload_n rfl rfl rfl ?_
  refine x_iload_n rfl rfl rfl ?_
  refine x_iload_n rfl rfl rfl ?_
  refine x_callVi (d2 := 2) (c_hasItem9 hG (Nat.le_refl 2) hn hn2 hi hil hil2 hkd hj) rfl rfl v_8_146 rfl rfl (by decide) rfl rfl (Nat.le_of_ble_eq_true rfl) (by omega) (by omega) ?_
  refine x_if_eq rfl rfl (fun hc1 => absurd hc1 (by decide +kernel)) (fun _ => ?_)
  refine x_aload_n rfl rfl rfl ?_
  refine x_getR0 rfl rfl f_8_20 rfl (by decide) rfl rfl ?_
  refine x_lload_n rfl rfl rfl ?_
  refine x_callVi (d2 := 1) (c_isValue hG (Nat.le_refl 1) (v) hn hn2 hw hw2) rfl rfl v_8_136 rfl rfl (by decide) rfl rfl (Nat.le_of_ble_eq_true rfl) (by omega) (by omega) ?_
  refine x_ifB_ne rfl rfl (fun hc2 => ?_) (fun hc2 => absurd hv hc2)
  refine x_aload_n rfl rfl rfl ?_
  refine x_getR0 rfl rfl f_8_20 rfl (by decide) rfl rfl ?_
  refine x_getR0 rfl rfl f_8_79 rfl (by decide) rfl rfl ?_
  refine x_iload_n rfl rfl rfl ?_
  refine x_aaldi (a := i) rfl rfl rfl (by decide) (by decide) (by omega) (by decide) rfl ?_
  refine x_getRi rfl rfl f_8_92 rfl (by show _ < 40; omega) rfl rfl ?_
  refine x_iload_n rfl rfl rfl ?_
  refine x_lload_n rfl rfl rfl ?_
  refine x_callVv (d2 := 0) (c_LL_replace (len := il) hG (lk_9 (by omega)) (j) (v) hil (by omega) (by omega)) rfl rfl v_8_150 rfl rfl (by show _ < 40; omega) rfl rfl (Nat.le_of_ble_eq_true rfl) (by omega) (by omega) ?_
  exact x_retV rfl rfl rfl (by omega) rfl rfl
set_option maxHeartbeats 4000000 in
set_option maxRecDepth 20000 in
theorem c_set9V (hG : Gok G) (hd : 6 ≤ d) (v : Int64) {n : Nat} (hn : M.1 (1, 0) 5 = nI n) (hn2 : n ≤ 40) {w : Nat} (hw : M.1 (1, 0) 3 = nI w) (hw2 : w ≤ 40) {i : Nat} (hi : i < n) {il : Nat} (hil : M.1 (9, i) 1 = nI il) (hil2 : il ≤ 8) (hkd : M.1 (8, i) 3 = nI 9) {j : Nat} (hj : j < il) (hv : ¬ isV w n v) : Ct G mX8_set d [.ref (ga G (0, 0)), .int (nI i), .int (nI j), .long (v)] M (.inr "java/lang/IllegalArgumentException") M 1 := by
  refine ct_of hG okX8_set (by decide +kernel) rfl (Nat.le_of_ble_eq_true rfl) ?_
  refine x_aload_n rfl rfl rfl ?_
  refine x_iload_n rfl rfl rfl ?_
  refine x_iload_n rfl rfl rfl ?_
  refine x_callVi (d2 := 2) (c_hasItem9 hG (Nat.le_refl 2) hn hn2 hi hil hil2 hkd hj) rfl rfl v_8_146 rfl rfl (by decide) rfl rfl (Nat.le_of_ble_eq_true rfl) (by omega) (by omega) ?_
  refine x_if_eq rfl rfl (fun hc1 => absurd hc1 (by decide +kernel)) (fun _ => ?_)
  refine x_aload_n rfl rfl rfl ?_
  refine x_getR0 rfl rfl f_8_20 rfl (by decide) rfl rfl ?_
  refine x_lload_n rfl rfl rfl ?_
  refine x_callVi (d2 := 1) (c_isValue hG (Nat.le_refl 1) (v) hn hn2 hw hw2) rfl rfl v_8_136 rfl rfl (by decide) rfl rfl (Nat.le_of_ble_eq_true rfl) (by omega) (by omega) ?_
  refine x_ifB_ne rfl rfl (fun hc2 => absurd hc2 hv) (fun hc2 => ?_)
  exact x_throw rfl rfl rfl rfl rfl rfl rfl rfl th_8_89_91 (Nat.le_of_ble_eq_true rfl) (by omega) (by omega)
set_option maxHeartbeats 4000000 in
set_option maxRecDepth 20000 in
theorem c_set9O (hG : Gok G) (hd : 6 ≤ d) (v : Int64) {n : Nat} (hn : M.1 (1, 0) 5 = nI n) (hn2 : n ≤ 40) {i : Nat} (hi : i < n) {il : Nat} (hil : M.1 (9, i) 1 = nI il) (hil2 : il ≤ 8) (hkd : M.1 (8, i) 3 = nI 9) {j : Nat} (hj : il ≤ j) (hj2 : j < 2 ^ 31) : Ct G mX8_set d [.ref (ga G (0, 0)), .int (nI i), .int (nI j), .long (v)] M (.inr "java/lang/IllegalArgumentException") M 1 := by
  refine ct_of hG okX8_set (by decide +kernel) rfl (Nat.le_of_ble_eq_true rfl) ?_
  refine x_aload_n rfl rfl rfl ?_
  refine x_iload_n rfl rfl rfl ?_
  refine x_iload_n rfl rfl rfl ?_
  refine x_callVi (d2 := 2) (c_hasItem9O hG (Nat.le_refl 2) hn hn2 hi hil hil2 hkd hj hj2) rfl rfl v_8_146 rfl rfl (by decide) rfl rfl (Nat.le_of_ble_eq_true rfl) (by omega) (by omega) ?_
  refine x_if_eq rfl rfl (fun _ => ?_) (fun hc1 => absurd hc1 (by decide +kernel))
  exact x_throw rfl rfl rfl rfl rfl rfl rfl rfl th_8_89_91 (Nat.le_of_ble_eq_true rfl) (by omega) (by omega)
set_option maxHeartbeats 4000000 in
set_option maxRecDepth 20000 in
theorem c_set9N (hG : Gok G) (hd : 6 ≤ d) (v : Int64) {n : Nat} (hn : M.1 (1, 0) 5 = nI n) (hn2 : n ≤ 40) {i : Nat} (hi : i < n) (hkd : M.1 (8, i) 3 = nI 9) {j : Int32} (hj : j < 0) : Ct G mX8_set d [.ref (ga G (0, 0)), .int (nI i), .int (j), .long (v)] M (.inr "java/lang/IllegalArgumentException") M 1 := by
  refine ct_of hG okX8_set (by decide +kernel) rfl (Nat.le_of_ble_eq_true rfl) ?_
  refine x_aload_n rfl rfl rfl ?_
  refine x_iload_n rfl rfl rfl ?_
  refine x_iload_n rfl rfl rfl ?_
  refine x_callVi (d2 := 2) (c_hasItem9N hG (Nat.le_refl 2) hn hn2 hi hkd hj) rfl rfl v_8_146 rfl rfl (by decide) rfl rfl (Nat.le_of_ble_eq_true rfl) (by omega) (by omega) ?_
  refine x_if_eq rfl rfl (fun _ => ?_) (fun hc1 => absurd hc1 (by decide +kernel))
  exact x_throw rfl rfl rfl rfl rfl rfl rfl rfl th_8_89_91 (Nat.le_of_ble_eq_true rfl) (by omega) (by omega)
set_option maxHeartbeats 4000000 in
set_option maxRecDepth 20000 in
theorem c_set10 (hG : Gok G) (hd : 3 ≤ d) (v : Int64) {n : Nat} (hn : M.1 (1, 0) 5 = nI n) (hn2 : n ≤ 40) {w : Nat} (hw : M.1 (1, 0) 3 = nI w) (hw2 : w ≤ 40) {i : Nat} (hi : i < n) {il : Nat} (hil : M.1 (9, i) 1 = nI il) (hil2 : il ≤ 8) (hkd : M.1 (8, i) 3 = nI 10) {j : Nat} (hj : j < il) (hv : isV w n v) : Ct G mX8_set d [.ref (ga G (0, 0)), .int (nI i), .int (nI j), .long (v)] M (.inl none) (ul M (10, i) j v) 0 := by
  refine ct_of hG okX8_set (by decide +kernel) rfl (Nat.le_of_ble_eq_true rfl) ?_
  refine x_aload_n rfl rfl rfl ?_
  refine x_iload_n rfl rfl rfl ?_
  refine x_iload_n rfl rfl rfl ?_
  refine x_callVi (d2 := 2) (c_hasItem10 hG (Nat.le_refl 2) hn hn2 hi hil hil2 hkd hj) rfl rfl v_8_146 rfl rfl (by decide) rfl rfl (Nat.le_of_ble_eq_true rfl) (by omega) (by omega) ?_
  refine x_if_eq rfl rfl (fun hc1 => absurd hc1 (by decide +kernel)) (fun _ => ?_)
  refine x_aload_n rfl rfl rfl ?_
  refine x_getR0 rfl rfl f_8_20 rfl (by decide) rfl rfl ?_
  refine x_lload_n rfl rfl rfl ?_
  refine x_callVi (d2 := 1) (c_isValue hG (Nat.le_refl 1) (v) hn hn2 hw hw2) rfl rfl v_8_136 rfl rfl (by decide) rfl rfl (Nat.le_of_ble_eq_true rfl) (by omega) (by omega) ?_
  refine x_ifB_ne rfl rfl (fun hc2 => ?_) (fun hc2 => absurd hv hc2)
  refine x_aload_n rfl rfl rfl ?_
  refine x_getR0 rfl rfl f_8_20 rfl (by decide) rfl rfl ?_
  refine x_getR0 rfl rfl f_8_79 rfl (by decide) rfl rfl ?_
  refine x_iload_n rfl rfl rfl ?_
  refine x_aaldi (a := i) rfl rfl rfl (by decide) (by decide) (by omega) (by decide) rfl ?_
  refine x_getRi rfl rfl f_8_92 rfl (by show _ < 40; omega) rfl rfl ?_
  refine x_iload_n rfl rfl rfl ?_
  refine x_lload_n rfl rfl rfl ?_
  refine x_callVv (d2 := 0) (c_LL_replace (len := il) hG (lk_9 (by omega)) (j) (v) hil (by omega) (by omega)) rfl rfl v_8_150 rfl rfl (by show _ < 40; omega) rfl rfl (Nat.le_of_ble_eq_true rfl) (by omega) (by omega) ?_
  exact x_retV rfl rfl rfl (by omega) rfl rfl
set_option maxHeartbeats 4000000 in
set_option maxRecDepth 20000 in
theorem c_set10V (hG : Gok G) (hd : 6 ≤ d) (v : Int64) {n : Nat} (hn : M.1 (1, 0) 5 = nI n) (hn2 : n ≤ 40) {w : Nat} (hw : M.1 (1, 0) 3 = nI w) (hw2 : w ≤ 40) {i : Nat} (hi : i < n) {il : Nat} (hil : M.1 (9, i) 1 = nI il) (hil2 : il ≤ 8) (hkd : M.1 (8, i) 3 = nI 10) {j : Nat} (hj : j < il) (hv : ¬ isV w n v) : Ct G mX8_set d [.ref (ga G (0, 0)), .int (nI i), .int (nI j), .long (v)] M (.inr "java/lang/IllegalArgumentException") M 1 := by
  refine ct_of hG okX8_set (by decide +kernel) rfl (Nat.le_of_ble_eq_true rfl) ?_
  refine x_aload_n rfl rfl rfl ?_
  refine x_iload_n rfl rfl rfl ?_
  refine x_iload_n rfl rfl rfl ?_
  refine x_callVi (d2 := 2) (c_hasItem10 hG (Nat.le_refl 2) hn hn2 hi hil hil2 hkd hj) rfl rfl v_8_146 rfl rfl (by decide) rfl rfl (Nat.le_of_ble_eq_true rfl) (by omega) (by omega) ?_
  refine x_if_eq rfl rfl (fun hc1 => absurd hc1 (by decide +kernel)) (fun _ => ?_)
  refine x_aload_n rfl rfl rfl ?_
  refine x_getR0 rfl rfl f_8_20 rfl (by decide) rfl rfl ?_
  refine x_lload_n rfl rfl rfl ?_
  refine x_callVi (d2 := 1) (c_isValue hG (Nat.le_refl 1) (v) hn hn2 hw hw2) rfl rfl v_8_136 rfl rfl (by decide) rfl rfl (Nat.le_of_ble_eq_true rfl) (by omega) (by omega) ?_
  refine x_ifB_ne rfl rfl (fun hc2 => absurd hc2 hv) (fun hc2 => ?_)
  exact x_throw rfl rfl rfl rfl rfl rfl rfl rfl th_8_89_91 (Nat.le_of_ble_eq_true rfl) (by omega) (by omega)
set_option maxHeartbeats 4000000 in
set_option maxRecDepth 20000 in
theorem c_set10O (hG : Gok G) (hd : 6 ≤ d) (v : Int64) {n : Nat} (hn : M.1 (1, 0) 5 = nI n) (hn2 : n ≤ 40) {i : Nat} (hi : i < n) {il : Nat} (hil : M.1 (9, i) 1 = nI il) (hil2 : il ≤ 8) (hkd : M.1 (8, i) 3 = nI 10) {j : Nat} (hj : il ≤ j) (hj2 : j < 2 ^ 31) : Ct G mX8_set d [.ref (ga G (0, 0)), .int (nI i), .int (nI j), .long (v)] M (.inr "java/lang/IllegalArgumentException") M 1 := by
  refine ct_of hG okX8_set (by decide +kernel) rfl (Nat.le_of_ble_eq_true rfl) ?_
  refine x_aload_n rfl rfl rfl ?_
  refine x_iload_n rfl rfl rfl ?_
  refine x_iload_n rfl rfl rfl ?_
  refine x_callVi (d2 := 2) (c_hasItem10O hG (Nat.le_refl 2) hn hn2 hi hil hil2 hkd hj hj2) rfl rfl v_8_146 rfl rfl (by decide) rfl rfl (Nat.le_of_ble_eq_true rfl) (by omega) (by omega) ?_
  refine x_if_eq rfl rfl (fun _ => ?_) (fun hc1 => absurd hc1 (by decide +kernel))
  exact x_throw rfl rfl rfl rfl rfl rfl rfl rfl th_8_89_91 (Nat.le_of_ble_eq_true rfl) (by omega) (by omega)
set_option maxHeartbeats 4000000 in
set_option maxRecDepth 20000 in
theorem c_set10N (hG : Gok G) (hd : 6 ≤ d) (v : Int64) {n : Nat} (hn : M.1 (1, 0) 5 = nI n) (hn2 : n ≤ 40) {i : Nat} (hi : i < n) (hkd : M.1 (8, i) 3 = nI 10) {j : Int32} (hj : j < 0) : Ct G mX8_set d [.ref (ga G (0, 0)), .int (nI i), .int (j), .long (v)] M (.inr "java/lang/IllegalArgumentException") M 1 := by
  refine ct_of hG okX8_set (by decide +kernel) rfl (Nat.le_of_ble_eq_true rfl) ?_
  refine x_aload_n rfl rfl rfl ?_
  refine x_iload_n rfl rfl rfl ?_
  refine x_iload_n rfl rfl rfl ?_
  refine x_callVi (d2 := 2) (c_hasItem10N hG (Nat.le_refl 2) hn hn2 hi hkd hj) rfl rfl v_8_146 rfl rfl (by decide) rfl rfl (Nat.le_of_ble_eq_true rfl) (by omega) (by omega) ?_
  refine x_if_eq rfl rfl (fun _ => ?_) (fun hc1 => absurd hc1 (by decide +kernel))
  exact x_throw rfl rfl rfl rfl rfl rfl rfl rfl th_8_89_91 (Nat.le_of_ble_eq_true rfl) (by omega) (by omega)
set_option maxHeartbeats 4000000 in
set_option maxRecDepth 20000 in
theorem c_setK (hG : Gok G) (hd : 6 ≤ d) (v : Int64) {n : Nat} (hn : M.1 (1, 0) 5 = nI n) (hn2 : n ≤ 40) {i : Nat} (hi : i < n) {kd : Nat} (hkd : M.1 (8, i) 3 = nI kd) (hkd2 : kd < 16) (h9 : kd ≠ 9) (h10 : kd ≠ 10) (j : Int32) : Ct G mX8_set d [.ref (ga G (0, 0)), .int (nI i), .int (j), .long (v)] M (.inr "java/lang/IllegalArgumentException") M 1 := by
  refine ct_of hG okX8_set (by decide +kernel) rfl (Nat.le_of_ble_eq_true rfl) ?_
  refine x_aload_n rfl rfl rfl ?_
  refine x_iload_n rfl rfl rfl ?_
  refine x_iload_n rfl rfl rfl ?_
  refine x_callVi (d2 := 2) (c_hasItemK hG (Nat.le_refl 2) hn hn2 hi hkd hkd2 h9 h10 j) rfl rfl v_8_146 rfl rfl (by decide) rfl rfl (Nat.le_of_ble_eq_true rfl) (by omega) (by omega) ?_
  refine x_if_eq rfl rfl (fun _ => ?_) (fun hc1 => absurd hc1 (by decide +kernel))
  exact x_throw rfl rfl rfl rfl rfl rfl rfl rfl th_8_89_91 (Nat.le_of_ble_eq_true rfl) (by omega) (by omega)
set_option maxHeartbeats 4000000 in
set_option maxRecDepth 20000 in
theorem c_setT (hG : Gok G) (hd : 6 ≤ d) (v : Int64) {n : Nat} (hn : M.1 (1, 0) 5 = nI n) (hn2 : n ≤ 40) {th : Int32} (ho : ∀ i, i < n → th ≠ nI i) (j : Int32) : Ct G mX8_set d [.ref (ga G (0, 0)), .int (th), .int (j), .long (v)] M (.inr "java/lang/IllegalArgumentException") M 1 := by
  refine ct_of hG okX8_set (by decide +kernel) rfl (Nat.le_of_ble_eq_true rfl) ?_
  refine x_aload_n rfl rfl rfl ?_
  refine x_iload_n rfl rfl rfl ?_
  refine x_iload_n rfl rfl rfl ?_
  refine x_callVi (d2 := 2) (c_hasItemT hG (Nat.le_refl 2) hn hn2 ho j) rfl rfl v_8_146 rfl rfl (by decide) rfl rfl (Nat.le_of_ble_eq_true rfl) (by omega) (by omega) ?_
  refine x_if_eq rfl rfl (fun _ => ?_) (fun hc1 => absurd hc1 (by decide +kernel))
  exact x_throw rfl rfl rfl rfl rfl rfl rfl rfl th_8_89_91 (Nat.le_of_ble_eq_true rfl) (by omega) (by omega)
set_option maxHeartbeats 4000000 in
set_option maxRecDepth 20000 in
theorem c_chk9 (hG : Gok G) (hd : 1 ≤ d) (e : Int64) {n : Nat} (hn : M.1 (1, 0) 5 = nI n) (hn2 : n ≤ 40) {i : Nat} (hi : i < n) (hkd : M.1 (8, i) 3 = nI 9) : Ct G mX8_canHaveKey d [.ref (ga G (0, 0)), .int (nI i), .long (e)] M (.inl (some (.int (bI (isTx e ∧ e ≠ 0))))) M 0 := by
  refine ct_of hG okX8_canHaveKey (by decide +kernel) rfl (Nat.le_of_ble_eq_true rfl) ?_
  refine x_aload_n rfl rfl rfl ?_
  refine x_getR0 rfl rfl f_8_20 rfl (by decide) rfl rfl ?_
  refine x_iload_n rfl rfl rfl ?_
  refine x_i2lN (a := i) (by omega) rfl rfl ?_
  refine x_callVi (d2 := 0) (c_isThing hG (lN (i)) hn hn2) rfl rfl v_8_210 rfl rfl (by decide) rfl rfl (Nat.le_of_ble_eq_true rfl) (by omega) (by omega) ?_
  refine x_ifB_eq rfl rfl (fun hc1 => absurd (inTh hi hn2) hc1) (fun hc1 => ?_)
  refine x_lload_n rfl rfl rfl ?_
  refine x_callSi (d2 := 0) (c_isText hG (e)) rfl rfl s_8_101 rfl rfl (Nat.le_of_ble_eq_true rfl) (by omega) (by omega) ?_
  refine x_ifB_eq rfl rfl (fun hc2 => ?_) (fun hc2 => ?_)
  · refine x_iconstN (b := 0) rfl rfl ?_
    exact x_retZ rfl rfl rfl (by first | exact Or.inl rfl | exact Or.inr rfl) (by omega) (oB_f (by simp_all)) rfl
  · refine x_lload_n rfl rfl rfl ?_
    refine x_lconst (v := 0) rfl rfl (by decide +kernel) ?_
    refine x_lc_ne rfl rfl rfl rfl (fun hc3 => ?_) (fun hc3 => ?_)
    · refine x_aload_n rfl rfl rfl ?_
      refine x_getR0 rfl rfl f_8_20 rfl (by decide) rfl rfl ?_
      refine x_getR0 rfl rfl f_8_79 rfl (by decide) rfl rfl ?_
      refine x_iload_n rfl rfl rfl ?_
      refine x_aaldi (a := i) rfl rfl rfl (by decide) (by decide) (by omega) (by decide) rfl ?_
      refine x_astore rfl rfl rfl rfl ?_
      refine x_aload_n rfl rfl rfl ?_
      refine x_getR0 rfl rfl f_8_20 rfl (by decide) rfl rfl ?_
      refine x_aload rfl rfl rfl ?_
      refine x_callVi (d2 := 0) (c_chp9 hG (by omega) hkd) rfl rfl v_8_231 rfl rfl (by decide) rfl rfl (Nat.le_of_ble_eq_true rfl) (by omega) (by omega) ?_
      refine x_if_eq rfl rfl (fun hc4 => absurd hc4 (by decide +kernel)) (fun _ => ?_)
      refine x_aload_n rfl rfl rfl ?_
      refine x_getR0 rfl rfl f_8_20 rfl (by decide) rfl rfl ?_
      refine x_aload rfl rfl rfl ?_
      refine x_lload_n rfl rfl rfl ?_
      refine x_callVi (d2 := 0) (c_isMemberO hG (by omega) (by decide) (e) hkd (by decide)) rfl rfl v_8_235 rfl rfl (by decide) rfl rfl (Nat.le_of_ble_eq_true rfl) (by omega) (by omega) ?_
      refine x_if_ne rfl rfl (fun hc5 => absurd hc5 (by decide +kernel)) (fun _ => ?_)
      refine x_iconstN (b := 1) rfl rfl ?_
      refine x_goto rfl rfl ?_
      exact x_retZ rfl rfl rfl (by first | exact Or.inl rfl | exact Or.inr rfl) (by omega) (oB_t (by simp_all)) rfl
    · refine x_iconstN (b := 0) rfl rfl ?_
      exact x_retZ rfl rfl rfl (by first | exact Or.inl rfl | exact Or.inr rfl) (by omega) (oB_f (by simp_all)) rfl
set_option maxHeartbeats 4000000 in
set_option maxRecDepth 20000 in
theorem c_chk10 (hG : Gok G) (hd : 3 ≤ d) (e : Int64) {n : Nat} (hn : M.1 (1, 0) 5 = nI n) (hn2 : n ≤ 40) {i : Nat} (hi : i < n) (hkd : M.1 (8, i) 3 = nI 10) {t m : Nat} (ht : t < 13) (dy : Prop) (htr : M.1 (8, i) 4 = nI t) (hdy : M.1 (5, t) 2 = bI dy) (hm : M.1 (6, t) 1 = nI m) (hm2 : m ≤ 3) : Ct G mX8_canHaveKey d [.ref (ga G (0, 0)), .int (nI i), .long (e)] M (.inl (some (.int (bI ((isTx e ∧ e ≠ 0) ∧ dy ∧ fx (M.2 (7, t)) e 0 m = none))))) M 0 := by
  refine ct_of hG okX8_canHaveKey (by decide +kernel) rfl (Nat.le_of_ble_eq_true rfl) ?_
  refine x_aload_n rfl rfl rfl ?_
  refine x_getR0 rfl rfl f_8_20 rfl (by decide) rfl rfl ?_
  refine x_iload_n rfl rfl rfl ?_
  refine x_i2lN (a := i) (by omega) rfl rfl ?_
  refine x_callVi (d2 := 0) (c_isThing hG (lN (i)) hn hn2) rfl rfl v_8_210 rfl rfl (by decide) rfl rfl (Nat.le_of_ble_eq_true rfl) (by omega) (by omega) ?_
  refine x_ifB_eq rfl rfl (fun hc1 => absurd (inTh hi hn2) hc1) (fun hc1 => ?_)
  refine x_lload_n rfl rfl rfl ?_
  refine x_callSi (d2 := 0) (c_isText hG (e)) rfl rfl s_8_101 rfl rfl (Nat.le_of_ble_eq_true rfl) (by omega) (by omega) ?_
  refine x_ifB_eq rfl rfl (fun hc2 => ?_) (fun hc2 => ?_)
  · refine x_iconstN (b := 0) rfl rfl ?_
    exact x_retZ rfl rfl rfl (by first | exact Or.inl rfl | exact Or.inr rfl) (by omega) (oB_f (by simp_all)) rfl
  · refine x_lload_n rfl rfl rfl ?_
    refine x_lconst (v := 0) rfl rfl (by decide +kernel) ?_
    refine x_lc_ne rfl rfl rfl rfl (fun hc3 => ?_) (fun hc3 => ?_)
    · refine x_aload_n rfl rfl rfl ?_
      refine x_getR0 rfl rfl f_8_20 rfl (by decide) rfl rfl ?_
      refine x_getR0 rfl rfl f_8_79 rfl (by decide) rfl rfl ?_
      refine x_iload_n rfl rfl rfl ?_
      refine x_aaldi (a := i) rfl rfl rfl (by decide) (by decide) (by omega) (by decide) rfl ?_
      refine x_astore rfl rfl rfl rfl ?_
      refine x_aload_n rfl rfl rfl ?_
      refine x_getR0 rfl rfl f_8_20 rfl (by decide) rfl rfl ?_
      refine x_aload rfl rfl rfl ?_
      refine x_callVi (d2 := 0) (c_chp10 hG (by omega) (by omega) dy hkd htr hdy) rfl rfl v_8_231 rfl rfl (by decide) rfl rfl (Nat.le_of_ble_eq_true rfl) (by omega) (by omega) ?_
      refine x_ifB_eq rfl rfl (fun hc4 => ?_) (fun hc4 => ?_)
      · refine x_iconstN (b := 0) rfl rfl ?_
        exact x_retZ rfl rfl rfl (by first | exact Or.inl rfl | exact Or.inr rfl) (by omega) (oB_f (by simp_all)) rfl
      · refine x_aload_n rfl rfl rfl ?_
        refine x_getR0 rfl rfl f_8_20 rfl (by decide) rfl rfl ?_
        refine x_aload rfl rfl rfl ?_
        refine x_lload_n rfl rfl rfl ?_
        refine x_callVi (d2 := 2) (c_isMember10 hG (Nat.le_refl 2) (by omega) (by omega) (e) hkd htr hm hm2) rfl rfl v_8_235 rfl rfl (by decide) rfl rfl (Nat.le_of_ble_eq_true rfl) (by omega) (by omega) ?_
        refine x_ifB_ne rfl rfl (fun hc5 => ?_) (fun hc5 => ?_)
        · refine x_iconstN (b := 0) rfl rfl ?_
          exact x_retZ rfl rfl rfl (by first | exact Or.inl rfl | exact Or.inr rfl) (by omega) (oB_f (by simp_all)) rfl
        · refine x_iconstN (b := 1) rfl rfl ?_
          refine x_goto rfl rfl ?_
          exact x_retZ rfl rfl rfl (by first | exact Or.inl rfl | exact Or.inr rfl) (by omega) (oB_t (by simp_all)) rfl
    · refine x_iconstN (b := 0) rfl rfl ?_
      exact x_retZ rfl rfl rfl (by first | exact Or.inl rfl | exact Or.inr rfl) (by omega) (oB_f (by simp_all)) rfl
set_option maxHeartbeats 4000000 in
set_option maxRecDepth 20000 in
theorem c_chkK (hG : Gok G) (hd : 1 ≤ d) (e : Int64) {n : Nat} (hn : M.1 (1, 0) 5 = nI n) (hn2 : n ≤ 40) {i : Nat} (hi : i < n) {kd : Nat} (hkd : M.1 (8, i) 3 = nI kd) (hkd2 : kd < 16) (h9 : kd ≠ 9) (h10 : kd ≠ 10) : Ct G mX8_canHaveKey d [.ref (ga G (0, 0)), .int (nI i), .long (e)] M (.inl (some (.int (nI 0)))) M 0 := by
  refine ct_of hG okX8_canHaveKey (by decide +kernel) rfl (Nat.le_of_ble_eq_true rfl) ?_
  refine x_aload_n rfl rfl rfl ?_
  refine x_getR0 rfl rfl f_8_20 rfl (by decide) rfl rfl ?_
  refine x_iload_n rfl rfl rfl ?_
  refine x_i2lN (a := i) (by omega) rfl rfl ?_
  refine x_callVi (d2 := 0) (c_isThing hG (lN (i)) hn hn2) rfl rfl v_8_210 rfl rfl (by decide) rfl rfl (Nat.le_of_ble_eq_true rfl) (by omega) (by omega) ?_
  refine x_ifB_eq rfl rfl (fun hc1 => absurd (inTh hi hn2) hc1) (fun hc1 => ?_)
  refine x_lload_n rfl rfl rfl ?_
  refine x_callSi (d2 := 0) (c_isText hG (e)) rfl rfl s_8_101 rfl rfl (Nat.le_of_ble_eq_true rfl) (by omega) (by omega) ?_
  refine x_ifB_eq rfl rfl (fun hc2 => ?_) (fun hc2 => ?_)
  · refine x_iconstN (b := 0) rfl rfl ?_
    exact x_retZ rfl rfl rfl (Or.inl rfl) (by omega) rfl rfl
  · refine x_lload_n rfl rfl rfl ?_
    refine x_lconst (v := 0) rfl rfl (by decide +kernel) ?_
    refine x_lc_ne rfl rfl rfl rfl (fun hc3 => ?_) (fun hc3 => ?_)
    · refine x_aload_n rfl rfl rfl ?_
      refine x_getR0 rfl rfl f_8_20 rfl (by decide) rfl rfl ?_
      refine x_getR0 rfl rfl f_8_79 rfl (by decide) rfl rfl ?_
      refine x_iload_n rfl rfl rfl ?_
      refine x_aaldi (a := i) rfl rfl rfl (by decide) (by decide) (by omega) (by decide) rfl ?_
      refine x_astore rfl rfl rfl rfl ?_
      refine x_aload_n rfl rfl rfl ?_
      refine x_getR0 rfl rfl f_8_20 rfl (by decide) rfl rfl ?_
      refine x_aload rfl rfl rfl ?_
      refine x_callVi (d2 := 0) (c_chpO hG (by omega) hkd2 hkd h9 h10) rfl rfl v_8_231 rfl rfl (by decide) rfl rfl (Nat.le_of_ble_eq_true rfl) (by omega) (by omega) ?_
      refine x_if_eq rfl rfl (fun _ => ?_) (fun hc4 => absurd hc4 (by decide +kernel))
      refine x_iconstN (b := 0) rfl rfl ?_
      exact x_retZ rfl rfl rfl (Or.inl rfl) (by omega) rfl rfl
    · refine x_iconstN (b := 0) rfl rfl ?_
      exact x_retZ rfl rfl rfl (Or.inl rfl) (by omega) rfl rfl
set_option maxHeartbeats 4000000 in
set_option maxRecDepth 20000 in
theorem c_chkT (hG : Gok G) (hd : 1 ≤ d) (e : Int64) {n : Nat} (hn : M.1 (1, 0) 5 = nI n) (hn2 : n ≤ 40) {th : Int32} (ho : ∀ i, i < n → th ≠ nI i) : Ct G mX8_canHaveKey d [.ref (ga G (0, 0)), .int (th), .long (e)] M (.inl (some (.int (nI 0)))) M 0 := by
  refine ct_of hG okX8_canHaveKey (by decide +kernel) rfl (Nat.le_of_ble_eq_true rfl) ?_
  refine x_aload_n rfl rfl rfl ?_
  refine x_getR0 rfl rfl f_8_20 rfl (by decide) rfl rfl ?_
  refine x_iload_n rfl rfl rfl ?_
  refine x_i2l rfl rfl ?_
  refine x_callVi (d2 := 0) (c_isThing hG ((th).toInt64) hn hn2) rfl rfl v_8_210 rfl rfl (by decide) rfl rfl (Nat.le_of_ble_eq_true rfl) (by omega) (by omega) ?_
  refine x_ifB_eq rfl rfl (fun hc1 => ?_) (fun hc1 => absurd hc1 (outTh ho hn2))
  refine x_iconstN (b := 0) rfl rfl ?_
  exact x_retZ rfl rfl rfl (by first | exact Or.inl rfl | exact Or.inr rfl) (by omega) rfl rfl
set_option maxHeartbeats 4000000 in
set_option maxRecDepth 20000 in
theorem c_put9R (hG : Gok G) (hd : 6 ≤ d) (e v : Int64) {n : Nat} (hn : M.1 (1, 0) 5 = nI n) (hn2 : n ≤ 40) {w : Nat} (hw : M.1 (1, 0) 3 = nI w) (hw2 : w ≤ 40) {i : Nat} (hi : i < n) (hkd : M.1 (8, i) 3 = nI 9) {kl : Nat} (hkl : M.1 (11, i) 1 = nI kl) (hvl : M.1 (13, i) 1 = nI kl) (hkl2 : kl ≤ 6) (hp : isTx e ∧ e ≠ 0) (hv : isV w n v) {j : Nat} (hf : fx (M.2 (12, i)) e 0 kl = some j) (hj : j < kl) : Ct G mX8_put d [.ref (ga G (0, 0)), .int (nI i), .long (e), .long (v)] M (.inl (some (.int (nI kl)))) (ul M (14, i) j v) 0 := by
  refine ct_of hG okX8_put (by decide +kernel) rfl (Nat.le_of_ble_eq_true rfl) ?_
  refine x_aload_n rfl rfl rfl ?_
  refine x_iload_n rfl rfl rfl ?_
  refine x_lload_n rfl rfl rfl ?_
  refine x_callVi (d2 := 3) (c_chk9 hG (by decide) (e) hn hn2 hi hkd) rfl rfl v_8_154 rfl rfl (by decide) rfl rfl (Nat.le_of_ble_eq_true rfl) (by omega) (by omega) ?_
  refine x_ifB_eq rfl rfl (fun hc1 => absurd hp hc1) (fun hc1 => ?_)
  refine x_aload_n rfl rfl rfl ?_
  refine x_getR0 rfl rfl f_8_20 rfl (by decide) rfl rfl ?_
  refine x_lload rfl rfl rfl ?_
  refine x_callVi (d2 := 1) (c_isValue hG (Nat.le_refl 1) (v) hn hn2 hw hw2) rfl rfl v_8_136 rfl rfl (by decide) rfl rfl (Nat.le_of_ble_eq_true rfl) (by omega) (by omega) ?_
  refine x_ifB_ne rfl rfl (fun hc2 => ?_) (fun hc2 => absurd hv hc2)
  refine x_aload_n rfl rfl rfl ?_
  refine x_getR0 rfl rfl f_8_20 rfl (by decide) rfl rfl ?_
  refine x_getR0 rfl rfl f_8_79 rfl (by decide) rfl rfl ?_
  refine x_iload_n rfl rfl rfl ?_
  refine x_aaldi (a := i) rfl rfl rfl (by decide) (by decide) (by omega) (by decide) rfl ?_
  refine x_astore rfl rfl rfl rfl ?_
  refine x_aload rfl rfl rfl ?_
  refine x_getRi rfl rfl f_8_158 rfl (by show _ < 40; omega) rfl rfl ?_
  refine x_lload_n rfl rfl rfl ?_
  refine x_callVi (d2 := 0) (c_LL_placeOf (len := kl) hG (lk_11 (by omega)) (e) hkl (by omega)) rfl rfl v_8_161 rfl rfl (by show _ < 40; omega) rfl rfl (Nat.le_of_ble_eq_true rfl) (by omega) (by omega) ?_
  refine x_topI (v := nI j) (by rw [hf]; rfl) ?_
  refine x_istore rfl rfl rfl rfl ?_
  refine x_iload rfl rfl rfl ?_
  refine x_iconst (v := -1) rfl rfl (by decide +kernel) ?_
  refine x_icmp_ne rfl rfl (fun hc3 => ?_) (fun hc3 => absurd hc3 (nIm1 (by omega)))
  refine x_iload rfl rfl rfl ?_
  refine x_iconst (v := -1) rfl rfl (by decide +kernel) ?_
  refine x_icmp_ne rfl rfl (fun hc4 => ?_) (fun hc4 => absurd hc4 (nIm1 (by omega)))
  refine x_aload rfl rfl rfl ?_
  refine x_getRi rfl rfl f_8_165 rfl (by show _ < 40; omega) rfl rfl ?_
  refine x_iload rfl rfl rfl ?_
  refine x_lload rfl rfl rfl ?_
  refine x_callVv (d2 := 0) (c_LL_replace (len := kl) hG (lk_13 (by omega)) (j) (v) hvl (by omega) (by omega)) rfl rfl v_8_150 rfl rfl (by show _ < 40; omega) rfl rfl (Nat.le_of_ble_eq_true rfl) (by omega) (by omega) ?_
  refine x_aload rfl rfl rfl ?_
  refine x_getRi rfl rfl f_8_158 rfl (by show _ < 40; omega) rfl rfl ?_
  refine x_getIv (v := nI kl) (by first | exact hkl | (rw [← hkl]; rfl) | simp [ui, ul, hkl]) rfl rfl f_8_143 rfl (by show _ < 40; omega) rfl ?_
  exact x_retI rfl rfl rfl (by omega) rfl rfl
set_option maxHeartbeats 4000000 in
set_option maxRecDepth 20000 in
theorem c_put9A (hG : Gok G) (hd : 6 ≤ d) (e v : Int64) {n : Nat} (hn : M.1 (1, 0) 5 = nI n) (hn2 : n ≤ 40) {w : Nat} (hw : M.1 (1, 0) 3 = nI w) (hw2 : w ≤ 40) {i : Nat} (hi : i < n) (hkd : M.1 (8, i) 3 = nI 9) {kl : Nat} (hkl : M.1 (11, i) 1 = nI kl) (hvl : M.1 (13, i) 1 = nI kl) (hkl2 : kl < 6) (hp : isTx e ∧ e ≠ 0) (hv : isV w n v) (hf : fx (M.2 (12, i)) e 0 kl = none) : Ct G mX8_put d [.ref (ga G (0, 0)), .int (nI i), .long (e), .long (v)] M (.inl (some (.int (nI (kl + 1))))) (ui (ul (ui (ul M (12, i) kl e) (11, i) 1 (nI (kl + 1))) (14, i) kl v) (13, i) 1 (nI (kl + 1))) 0 := by
  refine ct_of hG okX8_put (by decide +kernel) rfl (Nat.le_of_ble_eq_true rfl) ?_
  refine x_aload_n rfl rfl rfl ?_
  refine x_iload_n rfl rfl rfl ?_
  refine x_lload_n rfl rfl rfl ?_
  refine x_callVi (d2 := 3) (c_chk9 hG (by decide) (e) hn hn2 hi hkd) rfl rfl v_8_154 rfl rfl (by decide) rfl rfl (Nat.le_of_ble_eq_true rfl) (by omega) (by omega) ?_
  refine x_ifB_eq rfl rfl (fun hc1 => absurd hp hc1) (fun hc1 => ?_)
  refine x_aload_n rfl rfl rfl ?_
  refine x_getR0 rfl rfl f_8_20 rfl (by decide) rfl rfl ?_
  refine x_lload rfl rfl rfl ?_
  refine x_callVi (d2 := 1) (c_isValue hG (Nat.le_refl 1) (v) hn hn2 hw hw2) rfl rfl v_8_136 rfl rfl (by decide) rfl rfl (Nat.le_of_ble_eq_true rfl) (by omega) (by omega) ?_
  refine x_ifB_ne rfl rfl (fun hc2 => ?_) (fun hc2 => absurd hv hc2)
  refine x_aload_n rfl rfl rfl ?_
  refine x_getR0 rfl rfl f_8_20 rfl (by decide) rfl rfl ?_
  refine x_getR0 rfl rfl f_8_79 rfl (by decide) rfl rfl ?_
  refine x_iload_n rfl rfl rfl ?_
  refine x_aaldi (a := i) rfl rfl rfl (by decide) (by decide) (by omega) (by decide) rfl ?_
  refine x_astore rfl rfl rfl rfl ?_
  refine x_aload rfl rfl rfl ?_
  refine x_getRi rfl rfl f_8_158 rfl (by show _ < 40; omega) rfl rfl ?_
  refine x_lload_n rfl rfl rfl ?_
  refine x_callVi (d2 := 0) (c_LL_placeOf (len := kl) hG (lk_11 (by omega)) (e) hkl (by omega)) rfl rfl v_8_161 rfl rfl (by show _ < 40; omega) rfl rfl (Nat.le_of_ble_eq_true rfl) (by omega) (by omega) ?_
  refine x_topI (v := -1) (by rw [hf]; rfl) ?_
  refine x_istore rfl rfl rfl rfl ?_
  refine x_iload rfl rfl rfl ?_
  refine x_iconst (v := -1) rfl rfl (by decide +kernel) ?_
  refine x_icmp_ne rfl rfl (fun hc3 => absurd rfl hc3) (fun hc3 => ?_)
  refine x_aload rfl rfl rfl ?_
  refine x_getRi rfl rfl f_8_158 rfl (by show _ < 40; omega) rfl rfl ?_
  refine x_callVi (d2 := 0) (c_LL_isFull (len := kl) hG (lk_11 (by omega)) hkl (by omega)) rfl rfl v_8_139 rfl rfl (by show _ < 40; omega) rfl rfl (Nat.le_of_ble_eq_true rfl) (by omega) (by omega) ?_
  refine x_ifB_eq rfl rfl (fun hc4 => ?_) (fun hc4 => absurd hc4 (by omega))
  refine x_iload rfl rfl rfl ?_
  refine x_iconst (v := -1) rfl rfl (by decide +kernel) ?_
  refine x_icmp_ne rfl rfl (fun hc5 => absurd rfl hc5) (fun hc5 => ?_)
  refine x_aload rfl rfl rfl ?_
  refine x_getRi rfl rfl f_8_158 rfl (by show _ < 40; omega) rfl rfl ?_
  refine x_lload_n rfl rfl rfl ?_
  refine x_callVv (d2 := 0) (c_LL_add (len := kl) hG (lk_11 (by omega)) (e) hkl (by omega)) rfl rfl v_8_97 rfl rfl (by show _ < 40; omega) rfl rfl (Nat.le_of_ble_eq_true rfl) (by omega) (by omega) ?_
  refine x_aload rfl rfl rfl ?_
  refine x_getRi rfl rfl f_8_165 rfl (by show _ < 40; omega) rfl rfl ?_
  refine x_lload rfl rfl rfl ?_
  refine x_callVv (d2 := 0) (c_LL_add (len := kl) hG (lk_13 (by omega)) (v) (by first | exact hvl | (rw [← hvl]; rfl) | simp [ui, ul, hvl]) (by omega)) rfl rfl v_8_97 rfl rfl (by show _ < 40; omega) rfl rfl (Nat.le_of_ble_eq_true rfl) (by omega) (by omega) ?_
  refine x_goto rfl rfl ?_
  refine x_aload rfl rfl rfl ?_
  refine x_getRi rfl rfl f_8_158 rfl (by show _ < 40; omega) rfl rfl ?_
  refine x_getIv (v := nI (kl + 1)) (by first | rfl | simp [ui, ul]) rfl rfl f_8_143 rfl (by show _ < 40; omega) rfl ?_
  exact x_retI rfl rfl rfl (by omega) rfl rfl
set_option maxHeartbeats 4000000 in
set_option maxRecDepth 20000 in
theorem c_put9F (hG : Gok G) (hd : 6 ≤ d) (e v : Int64) {n : Nat} (hn : M.1 (1, 0) 5 = nI n) (hn2 : n ≤ 40) {w : Nat} (hw : M.1 (1, 0) 3 = nI w) (hw2 : w ≤ 40) {i : Nat} (hi : i < n) (hkd : M.1 (8, i) 3 = nI 9) (hkl : M.1 (11, i) 1 = nI 6) (hp : isTx e ∧ e ≠ 0) (hv : isV w n v) (hf : fx (M.2 (12, i)) e 0 6 = none) : Ct G mX8_put d [.ref (ga G (0, 0)), .int (nI i), .long (e), .long (v)] M (.inr "java/lang/IllegalStateException") M 1 := by
  refine ct_of hG okX8_put (by decide +kernel) rfl (Nat.le_of_ble_eq_true rfl) ?_
  refine x_aload_n rfl rfl rfl ?_
  refine x_iload_n rfl rfl rfl ?_
  refine x_lload_n rfl rfl rfl ?_
  refine x_callVi (d2 := 3) (c_chk9 hG (by decide) (e) hn hn2 hi hkd) rfl rfl v_8_154 rfl rfl (by decide) rfl rfl (Nat.le_of_ble_eq_true rfl) (by omega) (by omega) ?_
  refine x_ifB_eq rfl rfl (fun hc1 => absurd hp hc1) (fun hc1 => ?_)
  refine x_aload_n rfl rfl rfl ?_
  refine x_getR0 rfl rfl f_8_20 rfl (by decide) rfl rfl ?_
  refine x_lload rfl rfl rfl ?_
  refine x_callVi (d2 := 1) (c_isValue hG (Nat.le_refl 1) (v) hn hn2 hw hw2) rfl rfl v_8_136 rfl rfl (by decide) rfl rfl (Nat.le_of_ble_eq_true rfl) (by omega) (by omega) ?_
  refine x_ifB_ne rfl rfl (fun hc2 => ?_) (fun hc2 => absurd hv hc2)
  refine x_aload_n rfl rfl rfl ?_
  refine x_getR0 rfl rfl f_8_20 rfl (by decide) rfl rfl ?_
  refine x_getR0 rfl rfl f_8_79 rfl (by decide) rfl rfl ?_
  refine x_iload_n rfl rfl rfl ?_
  refine x_aaldi (a := i) rfl rfl rfl (by decide) (by decide) (by omega) (by decide) rfl ?_
  refine x_astore rfl rfl rfl rfl ?_
  refine x_aload rfl rfl rfl ?_
  refine x_getRi rfl rfl f_8_158 rfl (by show _ < 40; omega) rfl rfl ?_
  refine x_lload_n rfl rfl rfl ?_
  refine x_callVi (d2 := 0) (c_LL_placeOf (len := 6) hG (lk_11 (by omega)) (e) hkl (by omega)) rfl rfl v_8_161 rfl rfl (by show _ < 40; omega) rfl rfl (Nat.le_of_ble_eq_true rfl) (by omega) (by omega) ?_
  refine x_topI (v := -1) (by rw [hf]; rfl) ?_
  refine x_istore rfl rfl rfl rfl ?_
  refine x_iload rfl rfl rfl ?_
  refine x_iconst (v := -1) rfl rfl (by decide +kernel) ?_
  refine x_icmp_ne rfl rfl (fun hc3 => absurd rfl hc3) (fun hc3 => ?_)
  refine x_aload rfl rfl rfl ?_
  refine x_getRi rfl rfl f_8_158 rfl (by show _ < 40; omega) rfl rfl ?_
  refine x_callVi (d2 := 0) (c_LL_isFull (len := 6) hG (lk_11 (by omega)) hkl (by omega)) rfl rfl v_8_139 rfl rfl (by show _ < 40; omega) rfl rfl (Nat.le_of_ble_eq_true rfl) (by omega) (by omega) ?_
  refine x_ifB_eq rfl rfl (fun hc4 => absurd rfl hc4) (fun hc4 => ?_)
  exact x_throw rfl rfl rfl rfl rfl rfl rfl rfl th_8_61_63 (Nat.le_of_ble_eq_true rfl) (by omega) (by omega)
set_option maxHeartbeats 4000000 in
set_option maxRecDepth 20000 in
theorem c_put9V (hG : Gok G) (hd : 6 ≤ d) (e v : Int64) {n : Nat} (hn : M.1 (1, 0) 5 = nI n) (hn2 : n ≤ 40) {w : Nat} (hw : M.1 (1, 0) 3 = nI w) (hw2 : w ≤ 40) {i : Nat} (hi : i < n) (hkd : M.1 (8, i) 3 = nI 9) (hp : isTx e ∧ e ≠ 0) (hv : ¬ isV w n v) : Ct G mX8_put d [.ref (ga G (0, 0)), .int (nI i), .long (e), .long (v)] M (.inr "java/lang/IllegalArgumentException") M 1 := by
  refine ct_of hG okX8_put (by decide +kernel) rfl (Nat.le_of_ble_eq_true rfl) ?_
  refine x_aload_n rfl rfl rfl ?_
  refine x_iload_n rfl rfl rfl ?_
  refine x_lload_n rfl rfl rfl ?_
  refine x_callVi (d2 := 3) (c_chk9 hG (by decide) (e) hn hn2 hi hkd) rfl rfl v_8_154 rfl rfl (by decide) rfl rfl (Nat.le_of_ble_eq_true rfl) (by omega) (by omega) ?_
  refine x_ifB_eq rfl rfl (fun hc1 => absurd hp hc1) (fun hc1 => ?_)
  refine x_aload_n rfl rfl rfl ?_
  refine x_getR0 rfl rfl f_8_20 rfl (by decide) rfl rfl ?_
  refine x_lload rfl rfl rfl ?_
  refine x_callVi (d2 := 1) (c_isValue hG (Nat.le_refl 1) (v) hn hn2 hw hw2) rfl rfl v_8_136 rfl rfl (by decide) rfl rfl (Nat.le_of_ble_eq_true rfl) (by omega) (by omega) ?_
  refine x_ifB_ne rfl rfl (fun hc2 => absurd hc2 hv) (fun hc2 => ?_)
  exact x_throw rfl rfl rfl rfl rfl rfl rfl rfl th_8_89_91 (Nat.le_of_ble_eq_true rfl) (by omega) (by omega)
set_option maxHeartbeats 4000000 in
set_option maxRecDepth 20000 in
theorem c_put9K (hG : Gok G) (hd : 6 ≤ d) (e v : Int64) {n : Nat} (hn : M.1 (1, 0) 5 = nI n) (hn2 : n ≤ 40) {w : Nat} (hw : M.1 (1, 0) 3 = nI w) (hw2 : w ≤ 40) {i : Nat} (hi : i < n) (hkd : M.1 (8, i) 3 = nI 9) (hp : ¬ (isTx e ∧ e ≠ 0)) : Ct G mX8_put d [.ref (ga G (0, 0)), .int (nI i), .long (e), .long (v)] M (.inr "java/lang/IllegalArgumentException") M 1 := by
  refine ct_of hG okX8_put (by decide +kernel) rfl (Nat.le_of_ble_eq_true rfl) ?_
  refine x_aload_n rfl rfl rfl ?_
  refine x_iload_n rfl rfl rfl ?_
  refine x_lload_n rfl rfl rfl ?_
  refine x_callVi (d2 := 3) (c_chk9 hG (by decide) (e) hn hn2 hi hkd) rfl rfl v_8_154 rfl rfl (by decide) rfl rfl (Nat.le_of_ble_eq_true rfl) (by omega) (by omega) ?_
  refine x_ifB_eq rfl rfl (fun hc1 => ?_) (fun hc1 => absurd hc1 hp)
  exact x_throw rfl rfl rfl rfl rfl rfl rfl rfl th_8_89_91 (Nat.le_of_ble_eq_true rfl) (by omega) (by omega)
set_option maxHeartbeats 4000000 in
set_option maxRecDepth 20000 in
theorem c_put10R (hG : Gok G) (hd : 6 ≤ d) (e v : Int64) {n : Nat} (hn : M.1 (1, 0) 5 = nI n) (hn2 : n ≤ 40) {w : Nat} (hw : M.1 (1, 0) 3 = nI w) (hw2 : w ≤ 40) {i : Nat} (hi : i < n) (hkd : M.1 (8, i) 3 = nI 10) {t m : Nat} (ht : t < 13) (dy : Prop) (htr : M.1 (8, i) 4 = nI t) (hdy : M.1 (5, t) 2 = bI dy) (hm : M.1 (6, t) 1 = nI m) (hm2 : m ≤ 3) {kl : Nat} (hkl : M.1 (11, i) 1 = nI kl) (hvl : M.1 (13, i) 1 = nI kl) (hkl2 : kl ≤ 6) (hp : (isTx e ∧ e ≠ 0) ∧ dy ∧ fx (M.2 (7, t)) e 0 m = none) (hv : isV w n v) {j : Nat} (hf : fx (M.2 (12, i)) e 0 kl = some j) (hj : j < kl) : Ct G mX8_put d [.ref (ga G (0, 0)), .int (nI i), .long (e), .long (v)] M (.inl (some (.int (nI kl)))) (ul M (14, i) j v) 0 := by
  refine ct_of hG okX8_put (by decide +kernel) rfl (Nat.le_of_ble_eq_true rfl) ?_
  refine x_aload_n rfl rfl rfl ?_
  refine x_iload_n rfl rfl rfl ?_
  refine x_lload_n rfl rfl rfl ?_
  refine x_callVi (d2 := 3) (c_chk10 hG (by decide) (e) hn hn2 hi hkd ht dy htr hdy hm hm2) rfl rfl v_8_154 rfl rfl (by decide) rfl rfl (Nat.le_of_ble_eq_true rfl) (by omega) (by omega) ?_
  refine x_ifB_eq rfl rfl (fun hc1 => absurd hp hc1) (fun hc1 => ?_)
  refine x_aload_n rfl rfl rfl ?_
  refine x_getR0 rfl rfl f_8_20 rfl (by decide) rfl rfl ?_
  refine x_lload rfl rfl rfl ?_
  refine x_callVi (d2 := 1) (c_isValue hG (Nat.le_refl 1) (v) hn hn2 hw hw2) rfl rfl v_8_136 rfl rfl (by decide) rfl rfl (Nat.le_of_ble_eq_true rfl) (by omega) (by omega) ?_
  refine x_ifB_ne rfl rfl (fun hc2 => ?_) (fun hc2 => absurd hv hc2)
  refine x_aload_n rfl rfl rfl ?_
  refine x_getR0 rfl rfl f_8_20 rfl (by decide) rfl rfl ?_
  refine x_getR0 rfl rfl f_8_79 rfl (by decide) rfl rfl ?_
  refine x_iload_n rfl rfl rfl ?_
  refine x_aaldi (a := i) rfl rfl rfl (by decide) (by decide) (by omega) (by decide) rfl ?_
  refine x_astore rfl rfl rfl rfl ?_
  refine x_aload rfl rfl rfl ?_
  refine x_getRi rfl rfl f_8_158 rfl (by show _ < 40; omega) rfl rfl ?_
  refine x_lload_n rfl rfl rfl ?_
  refine x_callVi (d2 := 0) (c_LL_placeOf (len := kl) hG (lk_11 (by omega)) (e) hkl (by omega)) rfl rfl v_8_161 rfl rfl (by show _ < 40; omega) rfl rfl (Nat.le_of_ble_eq_true rfl) (by omega) (by omega) ?_
  refine x_topI (v := nI j) (by rw [hf]; rfl) ?_
  refine x_istore rfl rfl rfl rfl ?_
  refine x_iload rfl rfl rfl ?_
  refine x_iconst (v := -1) rfl rfl (by decide +kernel) ?_
  refine x_icmp_ne rfl rfl (fun hc3 => ?_) (fun hc3 => absurd hc3 (nIm1 (by omega)))
  refine x_iload rfl rfl rfl ?_
  refine x_iconst (v := -1) rfl rfl (by decide +kernel) ?_
  refine x_icmp_ne rfl rfl (fun hc4 => ?_) (fun hc4 => absurd hc4 (nIm1 (by omega)))
  refine x_aload rfl rfl rfl ?_
  refine x_getRi rfl rfl f_8_165 rfl (by show _ < 40; omega) rfl rfl ?_
  refine x_iload rfl rfl rfl ?_
  refine x_lload rfl rfl rfl ?_
  refine x_callVv (d2 := 0) (c_LL_replace (len := kl) hG (lk_13 (by omega)) (j) (v) hvl (by omega) (by omega)) rfl rfl v_8_150 rfl rfl (by show _ < 40; omega) rfl rfl (Nat.le_of_ble_eq_true rfl) (by omega) (by omega) ?_
  refine x_aload rfl rfl rfl ?_
  refine x_getRi rfl rfl f_8_158 rfl (by show _ < 40; omega) rfl rfl ?_
  refine x_getIv (v := nI kl) (by first | exact hkl | (rw [← hkl]; rfl) | simp [ui, ul, hkl]) rfl rfl f_8_143 rfl (by show _ < 40; omega) rfl ?_
  exact x_retI rfl rfl rfl (by omega) rfl rfl
set_option maxHeartbeats 4000000 in
set_option maxRecDepth 20000 in
theorem c_put10A (hG : Gok G) (hd : 6 ≤ d) (e v : Int64) {n : Nat} (hn : M.1 (1, 0) 5 = nI n) (hn2 : n ≤ 40) {w : Nat} (hw : M.1 (1, 0) 3 = nI w) (hw2 : w ≤ 40) {i : Nat} (hi : i < n) (hkd : M.1 (8, i) 3 = nI 10) {t m : Nat} (ht : t < 13) (dy : Prop) (htr : M.1 (8, i) 4 = nI t) (hdy : M.1 (5, t) 2 = bI dy) (hm : M.1 (6, t) 1 = nI m) (hm2 : m ≤ 3) {kl : Nat} (hkl : M.1 (11, i) 1 = nI kl) (hvl : M.1 (13, i) 1 = nI kl) (hkl2 : kl < 6) (hp : (isTx e ∧ e ≠ 0) ∧ dy ∧ fx (M.2 (7, t)) e 0 m = none) (hv : isV w n v) (hf : fx (M.2 (12, i)) e 0 kl = none) : Ct G mX8_put d [.ref (ga G (0, 0)), .int (nI i), .long (e), .long (v)] M (.inl (some (.int (nI (kl + 1))))) (ui (ul (ui (ul M (12, i) kl e) (11, i) 1 (nI (kl + 1))) (14, i) kl v) (13, i) 1 (nI (kl + 1))) 0 := by
  refine ct_of hG okX8_put (by decide +kernel) rfl (Nat.le_of_ble_eq_true rfl) ?_
  refine x_aload_n rfl rfl rfl ?_
  refine x_iload_n rfl rfl rfl ?_
  refine x_lload_n rfl rfl rfl ?_
  refine x_callVi (d2 := 3) (c_chk10 hG (by decide) (e) hn hn2 hi hkd ht dy htr hdy hm hm2) rfl rfl v_8_154 rfl rfl (by decide) rfl rfl (Nat.le_of_ble_eq_true rfl) (by omega) (by omega) ?_
  refine x_ifB_eq rfl rfl (fun hc1 => absurd hp hc1) (fun hc1 => ?_)
  refine x_aload_n rfl rfl rfl ?_
  refine x_getR0 rfl rfl f_8_20 rfl (by decide) rfl rfl ?_
  refine x_lload rfl rfl rfl ?_
  refine x_callVi (d2 := 1) (c_isValue hG (Nat.le_refl 1) (v) hn hn2 hw hw2) rfl rfl v_8_136 rfl rfl (by decide) rfl rfl (Nat.le_of_ble_eq_true rfl) (by omega) (by omega) ?_
  refine x_ifB_ne rfl rfl (fun hc2 => ?_) (fun hc2 => absurd hv hc2)
  refine x_aload_n rfl rfl rfl ?_
  refine x_getR0 rfl rfl f_8_20 rfl (by decide) rfl rfl ?_
  refine x_getR0 rfl rfl f_8_79 rfl (by decide) rfl rfl ?_
  refine x_iload_n rfl rfl rfl ?_
  refine x_aaldi (a := i) rfl rfl rfl (by decide) (by decide) (by omega) (by decide) rfl ?_
  refine x_astore rfl rfl rfl rfl ?_
  refine x_aload rfl rfl rfl ?_
  refine x_getRi rfl rfl f_8_158 rfl (by show _ < 40; omega) rfl rfl ?_
  refine x_lload_n rfl rfl rfl ?_
  refine x_callVi (d2 := 0) (c_LL_placeOf (len := kl) hG (lk_11 (by omega)) (e) hkl (by omega)) rfl rfl v_8_161 rfl rfl (by show _ < 40; omega) rfl rfl (Nat.le_of_ble_eq_true rfl) (by omega) (by omega) ?_
  refine x_topI (v := -1) (by rw [hf]; rfl) ?_
  refine x_istore rfl rfl rfl rfl ?_
  refine x_iload rfl rfl rfl ?_
  refine x_iconst (v := -1) rfl rfl (by decide +kernel) ?_
  refine x_icmp_ne rfl rfl (fun hc3 => absurd rfl hc3) (fun hc3 => ?_)
  refine x_aload rfl rfl rfl ?_
  refine x_getRi rfl rfl f_8_158 rfl (by show _ < 40; omega) rfl rfl ?_
  refine x_callVi (d2 := 0) (c_LL_isFull (len := kl) hG (lk_11 (by omega)) hkl (by omega)) rfl rfl v_8_139 rfl rfl (by show _ < 40; omega) rfl rfl (Nat.le_of_ble_eq_true rfl) (by omega) (by omega) ?_
  refine x_ifB_eq rfl rfl (fun hc4 => ?_) (fun hc4 => absurd hc4 (by omega))
  refine x_iload rfl rfl rfl ?_
  refine x_iconst (v := -1) rfl rfl (by decide +kernel) ?_
  refine x_icmp_ne rfl rfl (fun hc5 => absurd rfl hc5) (fun hc5 => ?_)
  refine x_aload rfl rfl rfl ?_
  refine x_getRi rfl rfl f_8_158 rfl (by show _ < 40; omega) rfl rfl ?_
  refine x_lload_n rfl rfl rfl ?_
  refine x_callVv (d2 := 0) (c_LL_add (len := kl) hG (lk_11 (by omega)) (e) hkl (by omega)) rfl rfl v_8_97 rfl rfl (by show _ < 40; omega) rfl rfl (Nat.le_of_ble_eq_true rfl) (by omega) (by omega) ?_
  refine x_aload rfl rfl rfl ?_
  refine x_getRi rfl rfl f_8_165 rfl (by show _ < 40; omega) rfl rfl ?_
  refine x_lload rfl rfl rfl ?_
  refine x_callVv (d2 := 0) (c_LL_add (len := kl) hG (lk_13 (by omega)) (v) (by first | exact hvl | (rw [← hvl]; rfl) | simp [ui, ul, hvl]) (by omega)) rfl rfl v_8_97 rfl rfl (by show _ < 40; omega) rfl rfl (Nat.le_of_ble_eq_true rfl) (by omega) (by omega) ?_
  refine x_goto rfl rfl ?_
  refine x_aload rfl rfl rfl ?_
  refine x_getRi rfl rfl f_8_158 rfl (by show _ < 40; omega) rfl rfl ?_
  refine x_getIv (v := nI (kl + 1)) (by first | rfl | simp [ui, ul]) rfl rfl f_8_143 rfl (by show _ < 40; omega) rfl ?_
  exact x_retI rfl rfl rfl (by omega) rfl rfl
set_option maxHeartbeats 4000000 in
set_option maxRecDepth 20000 in
theorem c_put10F (hG : Gok G) (hd : 6 ≤ d) (e v : Int64) {n : Nat} (hn : M.1 (1, 0) 5 = nI n) (hn2 : n ≤ 40) {w : Nat} (hw : M.1 (1, 0) 3 = nI w) (hw2 : w ≤ 40) {i : Nat} (hi : i < n) (hkd : M.1 (8, i) 3 = nI 10) {t m : Nat} (ht : t < 13) (dy : Prop) (htr : M.1 (8, i) 4 = nI t) (hdy : M.1 (5, t) 2 = bI dy) (hm : M.1 (6, t) 1 = nI m) (hm2 : m ≤ 3) (hkl : M.1 (11, i) 1 = nI 6) (hp : (isTx e ∧ e ≠ 0) ∧ dy ∧ fx (M.2 (7, t)) e 0 m = none) (hv : isV w n v) (hf : fx (M.2 (12, i)) e 0 6 = none) : Ct G mX8_put d [.ref (ga G (0, 0)), .int (nI i), .long (e), .long (v)] M (.inr "java/lang/IllegalStateException") M 1 := by
  refine ct_of hG okX8_put (by decide +kernel) rfl (Nat.le_of_ble_eq_true rfl) ?_
  refine x_aload_n rfl rfl rfl ?_
  refine x_iload_n rfl rfl rfl ?_
  refine x_lload_n rfl rfl rfl ?_
  refine x_callVi (d2 := 3) (c_chk10 hG (by decide) (e) hn hn2 hi hkd ht dy htr hdy hm hm2) rfl rfl v_8_154 rfl rfl (by decide) rfl rfl (Nat.le_of_ble_eq_true rfl) (by omega) (by omega) ?_
  refine x_ifB_eq rfl rfl (fun hc1 => absurd hp hc1) (fun hc1 => ?_)
  refine x_aload_n rfl rfl rfl ?_
  refine x_getR0 rfl rfl f_8_20 rfl (by decide) rfl rfl ?_
  refine x_lload rfl rfl rfl ?_
  refine x_callVi (d2 := 1) (c_isValue hG (Nat.le_refl 1) (v) hn hn2 hw hw2) rfl rfl v_8_136 rfl rfl (by decide) rfl rfl (Nat.le_of_ble_eq_true rfl) (by omega) (by omega) ?_
  refine x_ifB_ne rfl rfl (fun hc2 => ?_) (fun hc2 => absurd hv hc2)
  refine x_aload_n rfl rfl rfl ?_
  refine x_getR0 rfl rfl f_8_20 rfl (by decide) rfl rfl ?_
  refine x_getR0 rfl rfl f_8_79 rfl (by decide) rfl rfl ?_
  refine x_iload_n rfl rfl rfl ?_
  refine x_aaldi (a := i) rfl rfl rfl (by decide) (by decide) (by omega) (by decide) rfl ?_
  refine x_astore rfl rfl rfl rfl ?_
  refine x_aload rfl rfl rfl ?_
  refine x_getRi rfl rfl f_8_158 rfl (by show _ < 40; omega) rfl rfl ?_
  refine x_lload_n rfl rfl rfl ?_
  refine x_callVi (d2 := 0) (c_LL_placeOf (len := 6) hG (lk_11 (by omega)) (e) hkl (by omega)) rfl rfl v_8_161 rfl rfl (by show _ < 40; omega) rfl rfl (Nat.le_of_ble_eq_true rfl) (by omega) (by omega) ?_
  refine x_topI (v := -1) (by rw [hf]; rfl) ?_
  refine x_istore rfl rfl rfl rfl ?_
  refine x_iload rfl rfl rfl ?_
  refine x_iconst (v := -1) rfl rfl (by decide +kernel) ?_
  refine x_icmp_ne rfl rfl (fun hc3 => absurd rfl hc3) (fun hc3 => ?_)
  refine x_aload rfl rfl rfl ?_
  refine x_getRi rfl rfl f_8_158 rfl (by show _ < 40; omega) rfl rfl ?_
  refine x_callVi (d2 := 0) (c_LL_isFull (len := 6) hG (lk_11 (by omega)) hkl (by omega)) rfl rfl v_8_139 rfl rfl (by show _ < 40; omega) rfl rfl (Nat.le_of_ble_eq_true rfl) (by omega) (by omega) ?_
  refine x_ifB_eq rfl rfl (fun hc4 => absurd rfl hc4) (fun hc4 => ?_)
  exact x_throw rfl rfl rfl rfl rfl rfl rfl rfl th_8_61_63 (Nat.le_of_ble_eq_true rfl) (by omega) (by omega)
set_option maxHeartbeats 4000000 in
set_option maxRecDepth 20000 in
theorem c_put10V (hG : Gok G) (hd : 6 ≤ d) (e v : Int64) {n : Nat} (hn : M.1 (1, 0) 5 = nI n) (hn2 : n ≤ 40) {w : Nat} (hw : M.1 (1, 0) 3 = nI w) (hw2 : w ≤ 40) {i : Nat} (hi : i < n) (hkd : M.1 (8, i) 3 = nI 10) {t m : Nat} (ht : t < 13) (dy : Prop) (htr : M.1 (8, i) 4 = nI t) (hdy : M.1 (5, t) 2 = bI dy) (hm : M.1 (6, t) 1 = nI m) (hm2 : m ≤ 3) (hp : (isTx e ∧ e ≠ 0) ∧ dy ∧ fx (M.2 (7, t)) e 0 m = none) (hv : ¬ isV w n v) : Ct G mX8_put d [.ref (ga G (0, 0)), .int (nI i), .long (e), .long (v)] M (.inr "java/lang/IllegalArgumentException") M 1 := by
  refine ct_of hG okX8_put (by decide +kernel) rfl (Nat.le_of_ble_eq_true rfl) ?_
  refine x_aload_n rfl rfl rfl ?_
  refine x_iload_n rfl rfl rfl ?_
  refine x_lload_n rfl rfl rfl ?_
  refine x_callVi (d2 := 3) (c_chk10 hG (by decide) (e) hn hn2 hi hkd ht dy htr hdy hm hm2) rfl rfl v_8_154 rfl rfl (by decide) rfl rfl (Nat.le_of_ble_eq_true rfl) (by omega) (by omega) ?_
  refine x_ifB_eq rfl rfl (fun hc1 => absurd hp hc1) (fun hc1 => ?_)
  refine x_aload_n rfl rfl rfl ?_
  refine x_getR0 rfl rfl f_8_20 rfl (by decide) rfl rfl ?_
  refine x_lload rfl rfl rfl ?_
  refine x_callVi (d2 := 1) (c_isValue hG (Nat.le_refl 1) (v) hn hn2 hw hw2) rfl rfl v_8_136 rfl rfl (by decide) rfl rfl (Nat.le_of_ble_eq_true rfl) (by omega) (by omega) ?_
  refine x_ifB_ne rfl rfl (fun hc2 => absurd hc2 hv) (fun hc2 => ?_)
  exact x_throw rfl rfl rfl rfl rfl rfl rfl rfl th_8_89_91 (Nat.le_of_ble_eq_true rfl) (by omega) (by omega)
set_option maxHeartbeats 4000000 in
set_option maxRecDepth 20000 in
theorem c_put10K (hG : Gok G) (hd : 6 ≤ d) (e v : Int64) {n : Nat} (hn : M.1 (1, 0) 5 = nI n) (hn2 : n ≤ 40) {w : Nat} (hw : M.1 (1, 0) 3 = nI w) (hw2 : w ≤ 40) {i : Nat} (hi : i < n) (hkd : M.1 (8, i) 3 = nI 10) {t m : Nat} (ht : t < 13) (dy : Prop) (htr : M.1 (8, i) 4 = nI t) (hdy : M.1 (5, t) 2 = bI dy) (hm : M.1 (6, t) 1 = nI m) (hm2 : m ≤ 3) (hp : ¬ ((isTx e ∧ e ≠ 0) ∧ dy ∧ fx (M.2 (7, t)) e 0 m = none)) : Ct G mX8_put d [.ref (ga G (0, 0)), .int (nI i), .long (e), .long (v)] M (.inr "java/lang/IllegalArgumentException") M 1 := by
  refine ct_of hG okX8_put (by decide +kernel) rfl (Nat.le_of_ble_eq_true rfl) ?_
  refine x_aload_n rfl rfl rfl ?_
  refine x_iload_n rfl rfl rfl ?_
  refine x_lload_n rfl rfl rfl ?_
  refine x_callVi (d2 := 3) (c_chk10 hG (by decide) (e) hn hn2 hi hkd ht dy htr hdy hm hm2) rfl rfl v_8_154 rfl rfl (by decide) rfl rfl (Nat.le_of_ble_eq_true rfl) (by omega) (by omega) ?_
  refine x_ifB_eq rfl rfl (fun hc1 => ?_) (fun hc1 => absurd hc1 hp)
  exact x_throw rfl rfl rfl rfl rfl rfl rfl rfl th_8_89_91 (Nat.le_of_ble_eq_true rfl) (by omega) (by omega)
set_option maxHeartbeats 4000000 in
set_option maxRecDepth 20000 in
theorem c_putK (hG : Gok G) (hd : 6 ≤ d) (e v : Int64) {n : Nat} (hn : M.1 (1, 0) 5 = nI n) (hn2 : n ≤ 40) {i : Nat} (hi : i < n) {kd : Nat} (hkd : M.1 (8, i) 3 = nI kd) (hkd2 : kd < 16) (h9 : kd ≠ 9) (h10 : kd ≠ 10) : Ct G mX8_put d [.ref (ga G (0, 0)), .int (nI i), .long (e), .long (v)] M (.inr "java/lang/IllegalArgumentException") M 1 := by
  refine ct_of hG okX8_put (by decide +kernel) rfl (Nat.le_of_ble_eq_true rfl) ?_
  refine x_aload_n rfl rfl rfl ?_
  refine x_iload_n rfl rfl rfl ?_
  refine x_lload_n rfl rfl rfl ?_
  refine x_callVi (d2 := 1) (c_chkK hG (by decide) (e) hn hn2 hi hkd hkd2 h9 h10) rfl rfl v_8_154 rfl rfl (by decide) rfl rfl (Nat.le_of_ble_eq_true rfl) (by omega) (by omega) ?_
  refine x_if_eq rfl rfl (fun _ => ?_) (fun hc1 => absurd hc1 (by decide +kernel))
  exact x_throw rfl rfl rfl rfl rfl rfl rfl rfl th_8_89_91 (Nat.le_of_ble_eq_true rfl) (by omega) (by omega)
set_option maxHeartbeats 4000000 in
set_option maxRecDepth 20000 in
theorem c_putT (hG : Gok G) (hd : 6 ≤ d) (e v : Int64) {n : Nat} (hn : M.1 (1, 0) 5 = nI n) (hn2 : n ≤ 40) {th : Int32} (ho : ∀ i, i < n → th ≠ nI i) : Ct G mX8_put d [.ref (ga G (0, 0)), .int (th), .long (e), .long (v)] M (.inr "java/lang/IllegalArgumentException") M 1 := by
  refine ct_of hG okX8_put (by decide +kernel) rfl (Nat.le_of_ble_eq_true rfl) ?_
  refine x_aload_n rfl rfl rfl ?_
  refine x_iload_n rfl rfl rfl ?_
  refine x_lload_n rfl rfl rfl ?_
  refine x_callVi (d2 := 1) (c_chkT hG (by decide) (e) hn hn2 ho) rfl rfl v_8_154 rfl rfl (by decide) rfl rfl (Nat.le_of_ble_eq_true rfl) (by omega) (by omega) ?_
  refine x_if_eq rfl rfl (fun _ => ?_) (fun hc1 => absurd hc1 (by decide +kernel))
  exact x_throw rfl rfl rfl rfl rfl rfl rfl rfl th_8_89_91 (Nat.le_of_ble_eq_true rfl) (by omega) (by omega)
set_option maxHeartbeats 4000000 in
set_option maxRecDepth 20000 in
theorem c_alter (hG : Gok G) (hd : 1 ≤ d) {rn : Nat} (hr : M.1 (15, 0) 1 = nI rn) (hr2 : rn ≤ 600) {j x : Nat} (hj : j ≤ rn) (hj6 : j < 600) (hx : x ≤ 255) : Ct G mX8_alter d [.ref (ga G (0, 0)), .int (nI j), .int (nI x)] M (.inl (some (.int (nI 1)))) (ui (ui M (16, 0) j (nI x)) (15, 0) 1 (nI (max rn (j + 1)))) 0 := by
  refine ct_of hG okX8_alter (by decide +kernel) rfl (Nat.le_of_ble_eq_true rfl) ?_
  refine x_iload_n rfl rfl rfl ?_
  refine x_ifN_lt (by omega) rfl rfl (fun hc1 => hc1.elim) (fun hc1 => ?_)
  refine x_iload_n rfl rfl rfl ?_
  refine x_aload_n rfl rfl rfl ?_
  refine x_getR0 rfl rfl f_8_24 rfl (by decide) rfl rfl ?_
  refine x_getIv (v := nI rn) hr rfl rfl f_8_186 rfl (by decide) rfl ?_
  refine x_icmpN_gt (by omega) (by omega) rfl rfl (fun hc2 => absurd hc2 (by omega)) (fun hc2 => ?_)
  refine x_iload_n rfl rfl rfl ?_
  refine x_sipush (v := nI 600) rfl rfl (by decide +kernel) ?_
  refine x_icmpN_eq (by omega) (by omega) rfl rfl (fun hc3 => absurd hc3 (by omega)) (fun hc3 => ?_)
  refine x_iload_n rfl rfl rfl ?_
  refine x_ifN_lt (by omega) rfl rfl (fun hc4 => hc4.elim) (fun hc4 => ?_)
  refine x_iload_n rfl rfl rfl ?_
  refine x_sipush (v := nI 255) rfl rfl (by decide +kernel) ?_
  refine x_icmpN_le (by omega) (by omega) rfl rfl (fun hc5 => ?_) (fun hc5 => absurd hc5 (by omega))
  refine x_aload_n rfl rfl rfl ?_
  refine x_getR0 rfl rfl f_8_24 rfl (by decide) rfl rfl ?_
  refine x_getR0 rfl rfl f_8_198 rfl (by decide) rfl rfl ?_
  refine x_iload_n rfl rfl rfl ?_
  refine x_iload_n rfl rfl rfl ?_
  refine x_iast (a := j) rfl rfl rfl (by decide) (by omega) (by decide) ?_
  refine x_aload_n rfl rfl rfl ?_
  refine x_getR0 rfl rfl f_8_24 rfl (by decide) rfl rfl ?_
  refine x_aload_n rfl rfl rfl ?_
  refine x_getR0 rfl rfl f_8_24 rfl (by decide) rfl rfl ?_
  refine x_getIv (v := nI rn) (by first | exact hr | (rw [← hr]; rfl) | simp [ui, ul, hr]) rfl rfl f_8_186 rfl (by decide) rfl ?_
  refine x_iload_n rfl rfl rfl ?_
  refine x_iconstN (b := 1) rfl rfl ?_
  refine x_iaddN (a := j) (b := 1) rfl rfl ?_
  refine x_maxN rfl (rn) (j + 1) (by omega) (by omega) rfl rfl (Nat.le_of_ble_eq_true rfl) (by omega) (by omega) ?_
  refine x_putI rfl rfl f_8_186 rfl rfl (by decide) rfl ?_
  refine x_iconstN (b := 1) rfl rfl ?_
  exact x_retZ rfl rfl rfl (by first | exact Or.inl rfl | exact Or.inr rfl) (by omega) rfl rfl
set_option maxHeartbeats 4000000 in
set_option maxRecDepth 20000 in
theorem c_alterI (hG : Gok G) {i b : Int32} (hi : i < 0) : Ct G mX8_alter d [.ref (ga G (0, 0)), .int (i), .int (b)] M (.inl (some (.int (nI 0)))) M 0 := by
  refine ct_of hG okX8_alter (by decide +kernel) rfl (Nat.le_of_ble_eq_true rfl) ?_
  refine x_iload_n rfl rfl rfl ?_
  refine x_if_lt rfl rfl (fun hc1 => ?_) (fun hc1 => absurd hi hc1)
  refine x_iconstN (b := 0) rfl rfl ?_
  exact x_retZ rfl rfl rfl (by first | exact Or.inl rfl | exact Or.inr rfl) (by omega) rfl rfl
set_option maxHeartbeats 4000000 in
set_option maxRecDepth 20000 in
theorem c_alterO (hG : Gok G) {rn : Nat} (hr : M.1 (15, 0) 1 = nI rn) (hr2 : rn ≤ 600) {j : Nat} {b : Int32} (hj : rn < j) (hj2 : j < 2 ^ 31) : Ct G mX8_alter d [.ref (ga G (0, 0)), .int (nI j), .int (b)] M (.inl (some (.int (nI 0)))) M 0 := by
  refine ct_of hG okX8_alter (by decide +kernel) rfl (Nat.le_of_ble_eq_true rfl) ?_
  refine x_iload_n rfl rfl rfl ?_
  refine x_ifN_lt (by omega) rfl rfl (fun hc1 => hc1.elim) (fun hc1 => ?_)
  refine x_iload_n rfl rfl rfl ?_
  refine x_aload_n rfl rfl rfl ?_
  refine x_getR0 rfl rfl f_8_24 rfl (by decide) rfl rfl ?_
  refine x_getIv (v := nI rn) hr rfl rfl f_8_186 rfl (by decide) rfl ?_
  refine x_icmpN_gt (by omega) (by omega) rfl rfl (fun hc2 => ?_) (fun hc2 => absurd hc2 (by omega))
  refine x_iconstN (b := 0) rfl rfl ?_
  exact x_retZ rfl rfl rfl (by first | exact Or.inl rfl | exact Or.inr rfl) (by omega) rfl rfl
set_option maxHeartbeats 4000000 in
set_option maxRecDepth 20000 in
theorem c_alterF (hG : Gok G) {rn : Nat} (hr : M.1 (15, 0) 1 = nI rn) (hr2 : rn ≤ 600) {b : Int32} (hj : 600 ≤ rn) : Ct G mX8_alter d [.ref (ga G (0, 0)), .int (nI 600), .int (b)] M (.inl (some (.int (nI 0)))) M 0 := by
  refine ct_of hG okX8_alter (by decide +kernel) rfl (Nat.le_of_ble_eq_true rfl) ?_
  refine x_iload_n rfl rfl rfl ?_
  refine x_if_lt rfl rfl (fun hc1 => absurd hc1 (by decide +kernel)) (fun _ => ?_)
  refine x_iload_n rfl rfl rfl ?_
  refine x_aload_n rfl rfl rfl ?_
  refine x_getR0 rfl rfl f_8_24 rfl (by decide) rfl rfl ?_
  refine x_getIv (v := nI rn) hr rfl rfl f_8_186 rfl (by decide) rfl ?_
  refine x_icmpN_gt (by omega) (by omega) rfl rfl (fun hc2 => absurd hc2 (by omega)) (fun hc2 => ?_)
  refine x_iload_n rfl rfl rfl ?_
  refine x_sipush (v := nI 600) rfl rfl (by decide +kernel) ?_
  refine x_icmpN_eq (by omega) (by omega) rfl rfl (fun hc3 => ?_) (fun hc3 => absurd hc3 (by omega))
  refine x_iconstN (b := 0) rfl rfl ?_
  exact x_retZ rfl rfl rfl (by first | exact Or.inl rfl | exact Or.inr rfl) (by omega) rfl rfl
set_option maxHeartbeats 4000000 in
set_option maxRecDepth 20000 in
theorem c_alterB (hG : Gok G) {rn : Nat} (hr : M.1 (15, 0) 1 = nI rn) (hr2 : rn ≤ 600) {j : Nat} {b : Int32} (hj : j ≤ rn) (hj6 : j < 600) (hb : b < 0) : Ct G mX8_alter d [.ref (ga G (0, 0)), .int (nI j), .int (b)] M (.inl (some (.int (nI 0)))) M 0 := by
  refine ct_of hG okX8_alter (by decide +kernel) rfl (Nat.le_of_ble_eq_true rfl) ?_
  refine x_iload_n rfl rfl rfl ?_
  refine x_ifN_lt (by omega) rfl rfl (fun hc1 => hc1.elim) (fun hc1 => ?_)
  refine x_iload_n rfl rfl rfl ?_
  refine x_aload_n rfl rfl rfl ?_
  refine x_getR0 rfl rfl f_8_24 rfl (by decide) rfl rfl ?_
  refine x_getIv (v := nI rn) hr rfl rfl f_8_186 rfl (by decide) rfl ?_
  refine x_icmpN_gt (by omega) (by omega) rfl rfl (fun hc2 => absurd hc2 (by omega)) (fun hc2 => ?_)
  refine x_iload_n rfl rfl rfl ?_
  refine x_sipush (v := nI 600) rfl rfl (by decide +kernel) ?_
  refine x_icmpN_eq (by omega) (by omega) rfl rfl (fun hc3 => absurd hc3 (by omega)) (fun hc3 => ?_)
  refine x_iload_n rfl rfl rfl ?_
  refine x_if_lt rfl rfl (fun hc4 => ?_) (fun hc4 => absurd hb hc4)
  refine x_iconstN (b := 0) rfl rfl ?_
  exact x_retZ rfl rfl rfl (by first | exact Or.inl rfl | exact Or.inr rfl) (by omega) rfl rfl
set_option maxHeartbeats 4000000 in
set_option maxRecDepth 20000 in
theorem c_alterC (hG : Gok G) {rn : Nat} (hr : M.1 (15, 0) 1 = nI rn) (hr2 : rn ≤ 600) {j x : Nat} (hj : j ≤ rn) (hj6 : j < 600) (hx : 255 < x) (hx2 : x < 2 ^ 31) : Ct G mX8_alter d [.ref (ga G (0, 0)), .int (nI j), .int (nI x)] M (.inl (some (.int (nI 0)))) M 0 := by
  refine ct_of hG okX8_alter (by decide +kernel) rfl (Nat.le_of_ble_eq_true rfl) ?_
  refine x_iload_n rfl rfl rfl ?_
  refine x_ifN_lt (by omega) rfl rfl (fun hc1 => hc1.elim) (fun hc1 => ?_)
  refine x_iload_n rfl rfl rfl ?_
  refine x_aload_n rfl rfl rfl ?_
  refine x_getR0 rfl rfl f_8_24 rfl (by decide) rfl rfl ?_
  refine x_getIv (v := nI rn) hr rfl rfl f_8_186 rfl (by decide) rfl ?_
  refine x_icmpN_gt (by omega) (by omega) rfl rfl (fun hc2 => absurd hc2 (by omega)) (fun hc2 => ?_)
  refine x_iload_n rfl rfl rfl ?_
  refine x_sipush (v := nI 600) rfl rfl (by decide +kernel) ?_
  refine x_icmpN_eq (by omega) (by omega) rfl rfl (fun hc3 => absurd hc3 (by omega)) (fun hc3 => ?_)
  refine x_iload_n rfl rfl rfl ?_
  refine x_ifN_lt (by omega) rfl rfl (fun hc4 => hc4.elim) (fun hc4 => ?_)
  refine x_iload_n rfl rfl rfl ?_
  refine x_sipush (v := nI 255) rfl rfl (by decide +kernel) ?_
  refine x_icmpN_le (by omega) (by omega) rfl rfl (fun hc5 => absurd hc5 (by omega)) (fun hc5 => ?_)
  refine x_iconstN (b := 0) rfl rfl ?_
  exact x_retZ rfl rfl rfl (by first | exact Or.inl rfl | exact Or.inr rfl) (by omega) rfl rfl
end C7
