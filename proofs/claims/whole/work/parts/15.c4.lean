section C6
variable {G : Gd} {d : Nat} {M : Mm}
set_option maxHeartbeats 4000000 in
set_option maxRecDepth 20000 in
theorem c_things (hG : Gok G) {n : Nat} (hn : M.1 (1, 0) 5 = nI n) (hn2 : n ≤ 40) : Ct G mX8_things d [.ref (ga G (0, 0))] M (.inl (some (.int (nI n)))) M 0 := by
  refine ct_of hG okX8_things (by decide +kernel) rfl (Nat.le_of_ble_eq_true rfl) ?_
  refine x_aload_n rfl rfl rfl ?_
  refine x_getR0 rfl rfl f_8_20 rfl (by decide) rfl rfl ?_
  refine x_getIv (v := nI n) hn rfl rfl f_8_207 rfl (by decide) rfl ?_
  exact x_retI rfl rfl rfl (by omega) rfl rfl
set_option maxHeartbeats 4000000 in
set_option maxRecDepth 20000 in
theorem c_size (hG : Gok G) {rn : Nat} (hr : M.1 (15, 0) 1 = nI rn) (hr2 : rn ≤ 600) : Ct G mX8_size d [.ref (ga G (0, 0))] M (.inl (some (.int (nI rn)))) M 0 := by
  refine ct_of hG okX8_size (by decide +kernel) rfl (Nat.le_of_ble_eq_true rfl) ?_
  refine x_aload_n rfl rfl rfl ?_
  refine x_getR0 rfl rfl f_8_24 rfl (by decide) rfl rfl ?_
  refine x_getIv (v := nI rn) hr rfl rfl f_8_186 rfl (by decide) rfl ?_
  exact x_retI rfl rfl rfl (by omega) rfl rfl
set_option maxHeartbeats 4000000 in
set_option maxRecDepth 20000 in
theorem c_fault (hG : Gok G) : Ct G mX8_fault d [.ref (ga G (0, 0))] M (.inl (some (.int (M.1 (27, 0) 10)))) M 0 := by
  refine ct_of hG okX8_fault (by decide +kernel) rfl (Nat.le_of_ble_eq_true rfl) ?_
  refine x_aload_n rfl rfl rfl ?_
  refine x_getR0 rfl rfl f_8_46 rfl (by decide) rfl rfl ?_
  refine x_getI rfl rfl f_8_195 rfl (by decide) rfl ?_
  exact x_retI rfl rfl rfl (by omega) rfl rfl
set_option maxHeartbeats 4000000 in
set_option maxRecDepth 20000 in
theorem c_byteAt (hG : Gok G) {rn : Nat} (hr : M.1 (15, 0) 1 = nI rn) (hr2 : rn ≤ 600) {j : Nat} (hj : j < rn) : Ct G mX8_byteAt d [.ref (ga G (0, 0)), .int (nI j)] M (.inl (some (.int (M.1 (16, 0) j)))) M 0 := by
  refine ct_of hG okX8_byteAt (by decide +kernel) rfl (Nat.le_of_ble_eq_true rfl) ?_
  refine x_iload_n rfl rfl rfl ?_
  refine x_ifN_lt (by omega) rfl rfl (fun hc1 => hc1.elim) (fun hc1 => ?_)
  refine x_iload_n rfl rfl rfl ?_
  refine x_aload_n rfl rfl rfl ?_
  refine x_getR0 rfl rfl f_8_24 rfl (by decide) rfl rfl ?_
  refine x_getIv (v := nI rn) hr rfl rfl f_8_186 rfl (by decide) rfl ?_
  refine x_icmpN_ge (by omega) (by omega) rfl rfl (fun hc2 => absurd hc2 (by omega)) (fun hc2 => ?_)
  refine x_aload_n rfl rfl rfl ?_
  refine x_getR0 rfl rfl f_8_24 rfl (by decide) rfl rfl ?_
  refine x_getR0 rfl rfl f_8_198 rfl (by decide) rfl rfl ?_
  refine x_iload_n rfl rfl rfl ?_
  refine x_iald (a := j) rfl rfl rfl (by decide) (by omega) (by decide) ?_
  refine x_goto rfl rfl ?_
  exact x_retI rfl rfl rfl (by omega) rfl rfl
set_option maxHeartbeats 4000000 in
set_option maxRecDepth 20000 in
theorem c_byteAtO (hG : Gok G) {rn : Nat} (hr : M.1 (15, 0) 1 = nI rn) (hr2 : rn ≤ 600) {j : Nat} (hj : rn ≤ j) (hj2 : j < 2 ^ 31) : Ct G mX8_byteAt d [.ref (ga G (0, 0)), .int (nI j)] M (.inl (some (.int ((-1))))) M 0 := by
  refine ct_of hG okX8_byteAt (by decide +kernel) rfl (Nat.le_of_ble_eq_true rfl) ?_
  refine x_iload_n rfl rfl rfl ?_
  refine x_ifN_lt (by omega) rfl rfl (fun hc1 => hc1.elim) (fun hc1 => ?_)
  refine x_iload_n rfl rfl rfl ?_
  refine x_aload_n rfl rfl rfl ?_
  refine x_getR0 rfl rfl f_8_24 rfl (by decide) rfl rfl ?_
  refine x_getIv (v := nI rn) hr rfl rfl f_8_186 rfl (by decide) rfl ?_
  refine x_icmpN_ge (by omega) (by omega) rfl rfl (fun hc2 => ?_) (fun hc2 => absurd hc2 (by omega))
  refine x_iconst (v := -1) rfl rfl (by decide +kernel) ?_
  exact x_retI rfl rfl rfl (by omega) rfl rfl
set_option maxHeartbeats 4000000 in
set_option maxRecDepth 20000 in
theorem c_byteAtN (hG : Gok G) {i : Int32} (hi : i < 0) : Ct G mX8_byteAt d [.ref (ga G (0, 0)), .int (i)] M (.inl (some (.int ((-1))))) M 0 := by
  refine ct_of hG okX8_byteAt (by decide +kernel) rfl (Nat.le_of_ble_eq_true rfl) ?_
  refine x_iload_n rfl rfl rfl ?_
  refine x_if_lt rfl rfl (fun hc1 => ?_) (fun hc1 => absurd hi hc1)
  refine x_iconst (v := -1) rfl rfl (by decide +kernel) ?_
  exact x_retI rfl rfl rfl (by omega) rfl rfl
set_option maxHeartbeats 4000000 in
set_option maxRecDepth 20000 in
theorem c_bits (hG : Gok G) {w : Nat} (hw : M.1 (1, 0) 3 = nI w) (hw2 : w ≤ 40) {k : Nat} (hk : k < w) : Ct G mX8_bits d [.ref (ga G (0, 0)), .int (nI k)] M (.inl (some (.long (M.2 (2, 0) k)))) M 0 := by
  refine ct_of hG okX8_bits (by decide +kernel) rfl (Nat.le_of_ble_eq_true rfl) ?_
  refine x_iload_n rfl rfl rfl ?_
  refine x_ifN_lt (by omega) rfl rfl (fun hc1 => hc1.elim) (fun hc1 => ?_)
  refine x_iload_n rfl rfl rfl ?_
  refine x_aload_n rfl rfl rfl ?_
  refine x_getR0 rfl rfl f_8_20 rfl (by decide) rfl rfl ?_
  refine x_getIv (v := nI w) hw rfl rfl f_8_57 rfl (by decide) rfl ?_
  refine x_icmpN_ge (by omega) (by omega) rfl rfl (fun hc2 => absurd hc2 (by omega)) (fun hc2 => ?_)
  refine x_aload_n rfl rfl rfl ?_
  refine x_getR0 rfl rfl f_8_20 rfl (by decide) rfl rfl ?_
  refine x_getR0 rfl rfl f_8_64 rfl (by decide) rfl rfl ?_
  refine x_iload_n rfl rfl rfl ?_
  refine x_lald (a := k) rfl rfl rfl (by decide) (by omega) (by decide) ?_
  refine x_goto rfl rfl ?_
  exact x_retL rfl rfl rfl (by omega) rfl rfl
set_option maxHeartbeats 4000000 in
set_option maxRecDepth 20000 in
theorem c_bitsO (hG : Gok G) {w : Nat} (hw : M.1 (1, 0) 3 = nI w) (hw2 : w ≤ 40) {k : Nat} (hk : w ≤ k) (hk2 : k < 2 ^ 31) : Ct G mX8_bits d [.ref (ga G (0, 0)), .int (nI k)] M (.inl (some (.long (0)))) M 0 := by
  refine ct_of hG okX8_bits (by decide +kernel) rfl (Nat.le_of_ble_eq_true rfl) ?_
  refine x_iload_n rfl rfl rfl ?_
  refine x_ifN_lt (by omega) rfl rfl (fun hc1 => hc1.elim) (fun hc1 => ?_)
  refine x_iload_n rfl rfl rfl ?_
  refine x_aload_n rfl rfl rfl ?_
  refine x_getR0 rfl rfl f_8_20 rfl (by decide) rfl rfl ?_
  refine x_getIv (v := nI w) hw rfl rfl f_8_57 rfl (by decide) rfl ?_
  refine x_icmpN_ge (by omega) (by omega) rfl rfl (fun hc2 => ?_) (fun hc2 => absurd hc2 (by omega))
  refine x_lconst (v := 0) rfl rfl (by decide +kernel) ?_
  exact x_retL rfl rfl rfl (by omega) rfl rfl
set_option maxHeartbeats 4000000 in
set_option maxRecDepth 20000 in
theorem c_bitsN (hG : Gok G) {i : Int32} (hi : i < 0) : Ct G mX8_bits d [.ref (ga G (0, 0)), .int (i)] M (.inl (some (.long (0)))) M 0 := by
  refine ct_of hG okX8_bits (by decide +kernel) rfl (Nat.le_of_ble_eq_true rfl) ?_
  refine x_iload_n rfl rfl rfl ?_
  refine x_if_lt rfl rfl (fun hc1 => ?_) (fun hc1 => absurd hi hc1)
  refine x_lconst (v := 0) rfl rfl (by decide +kernel) ?_
  exact x_retL rfl rfl rfl (by omega) rfl rfl
set_option maxHeartbeats 4000000 in
set_option maxRecDepth 20000 in
theorem c_kind (hG : Gok G) (hd : 1 ≤ d) {n : Nat} (hn : M.1 (1, 0) 5 = nI n) (hn2 : n ≤ 40) {i : Nat} (hi : i < n) {kd : Nat} (hkd : M.1 (8, i) 3 = nI kd) : Ct G mX8_kind d [.ref (ga G (0, 0)), .int (nI i)] M (.inl (some (.int (nI kd)))) M 0 := by
  refine ct_of hG okX8_kind (by decide +kernel) rfl (Nat.le_of_ble_eq_true rfl) ?_
  refine x_aload_n rfl rfl rfl ?_
  refine x_getR0 rfl rfl f_8_20 rfl (by decide) rfl rfl ?_
  refine x_iload_n rfl rfl rfl ?_
  refine x_i2lN (a := i) (by omega) rfl rfl ?_
  refine x_callVi (d2 := 0) (c_isThing hG (lN (i)) hn hn2) rfl rfl v_8_210 rfl rfl (by decide) rfl rfl (Nat.le_of_ble_eq_true rfl) (by omega) (by omega) ?_
  refine x_ifB_eq rfl rfl (fun hc1 => absurd (inTh hi hn2) hc1) (fun hc1 => ?_)
  refine x_aload_n rfl rfl rfl ?_
  refine x_getR0 rfl rfl f_8_20 rfl (by decide) rfl rfl ?_
  refine x_getR0 rfl rfl f_8_79 rfl (by decide) rfl rfl ?_
  refine x_iload_n rfl rfl rfl ?_
  refine x_aaldi (a := i) rfl rfl rfl (by decide) (by decide) (by omega) (by decide) rfl ?_
  refine x_getIv (v := nI kd) hkd rfl rfl f_8_213 rfl (by show _ < 40; omega) rfl ?_
  refine x_goto rfl rfl ?_
  exact x_retI rfl rfl rfl (by omega) rfl rfl
set_option maxHeartbeats 4000000 in
set_option maxRecDepth 20000 in
theorem c_kindO (hG : Gok G) (hd : 1 ≤ d) {n : Nat} (hn : M.1 (1, 0) 5 = nI n) (hn2 : n ≤ 40) {th : Int32} (ho : ∀ i, i < n → th ≠ nI i) : Ct G mX8_kind d [.ref (ga G (0, 0)), .int (th)] M (.inl (some (.int ((-1))))) M 0 := by
  refine ct_of hG okX8_kind (by decide +kernel) rfl (Nat.le_of_ble_eq_true rfl) ?_
  refine x_aload_n rfl rfl rfl ?_
  refine x_getR0 rfl rfl f_8_20 rfl (by decide) rfl rfl ?_
  refine x_iload_n rfl rfl rfl ?_
  refine x_i2l rfl rfl ?_
  refine x_callVi (d2 := 0) (c_isThing hG ((th).toInt64) hn hn2) rfl rfl v_8_210 rfl rfl (by decide) rfl rfl (Nat.le_of_ble_eq_true rfl) (by omega) (by omega) ?_
  refine x_ifB_eq rfl rfl (fun hc1 => ?_) (fun hc1 => absurd hc1 (outTh ho hn2))
  refine x_iconst (v := -1) rfl rfl (by decide +kernel) ?_
  exact x_retI rfl rfl rfl (by omega) rfl rfl
set_option maxHeartbeats 4000000 in
set_option maxRecDepth 20000 in
theorem c_count (hG : Gok G) (hd : 1 ≤ d) {n : Nat} (hn : M.1 (1, 0) 5 = nI n) (hn2 : n ≤ 40) {i : Nat} (hi : i < n) {il : Nat} (hil : M.1 (9, i) 1 = nI il) : Ct G mX8_count d [.ref (ga G (0, 0)), .int (nI i)] M (.inl (some (.int (nI il)))) M 0 := by
  refine ct_of hG okX8_count (by decide +kernel) rfl (Nat.le_of_ble_eq_true rfl) ?_
  refine x_aload_n rfl rfl rfl ?_
  refine x_getR0 rfl rfl f_8_20 rfl (by decide) rfl rfl ?_
  refine x_iload_n rfl rfl rfl ?_
  refine x_i2lN (a := i) (by omega) rfl rfl ?_
  refine x_callVi (d2 := 0) (c_isThing hG (lN (i)) hn hn2) rfl rfl v_8_210 rfl rfl (by decide) rfl rfl (Nat.le_of_ble_eq_true rfl) (by omega) (by omega) ?_
  refine x_ifB_eq rfl rfl (fun hc1 => absurd (inTh hi hn2) hc1) (fun hc1 => ?_)
  refine x_aload_n rfl rfl rfl ?_
  refine x_getR0 rfl rfl f_8_20 rfl (by decide) rfl rfl ?_
  refine x_getR0 rfl rfl f_8_79 rfl (by decide) rfl rfl ?_
  refine x_iload_n rfl rfl rfl ?_
  refine x_aaldi (a := i) rfl rfl rfl (by decide) (by decide) (by omega) (by decide) rfl ?_
  refine x_getRi rfl rfl f_8_92 rfl (by show _ < 40; omega) rfl rfl ?_
  refine x_getIv (v := nI il) hil rfl rfl f_8_143 rfl (by show _ < 40; omega) rfl ?_
  refine x_goto rfl rfl ?_
  exact x_retI rfl rfl rfl (by omega) rfl rfl
set_option maxHeartbeats 4000000 in
set_option maxRecDepth 20000 in
theorem c_countO (hG : Gok G) (hd : 1 ≤ d) {n : Nat} (hn : M.1 (1, 0) 5 = nI n) (hn2 : n ≤ 40) {th : Int32} (ho : ∀ i, i < n → th ≠ nI i) : Ct G mX8_count d [.ref (ga G (0, 0)), .int (th)] M (.inl (some (.int ((-1))))) M 0 := by
  refine ct_of hG okX8_count (by decide +kernel) rfl (Nat.le_of_ble_eq_true rfl) ?_
  refine x_aload_n rfl rfl rfl ?_
  refine x_getR0 rfl rfl f_8_20 rfl (by decide) rfl rfl ?_
  refine x_iload_n rfl rfl rfl ?_
  refine x_i2l rfl rfl ?_
  refine x_callVi (d2 := 0) (c_isThing hG ((th).toInt64) hn hn2) rfl rfl v_8_210 rfl rfl (by decide) rfl rfl (Nat.le_of_ble_eq_true rfl) (by omega) (by omega) ?_
  refine x_ifB_eq rfl rfl (fun hc1 => ?_) (fun hc1 => absurd hc1 (outTh ho hn2))
  refine x_iconst (v := -1) rfl rfl (by decide +kernel) ?_
  exact x_retI rfl rfl rfl (by omega) rfl rfl
set_option maxHeartbeats 4000000 in
set_option maxRecDepth 20000 in
theorem c_pairs (hG : Gok G) (hd : 1 ≤ d) {n : Nat} (hn : M.1 (1, 0) 5 = nI n) (hn2 : n ≤ 40) {i : Nat} (hi : i < n) {kl : Nat} (hkl : M.1 (11, i) 1 = nI kl) : Ct G mX8_pairs d [.ref (ga G (0, 0)), .int (nI i)] M (.inl (some (.int (nI kl)))) M 0 := by
  refine ct_of hG okX8_pairs (by decide +kernel) rfl (Nat.le_of_ble_eq_true rfl) ?_
  refine x_aload_n rfl rfl rfl ?_
  refine x_getR0 rfl rfl f_8_20 rfl (by decide) rfl rfl ?_
  refine x_iload_n rfl rfl rfl ?_
  refine x_i2lN (a := i) (by omega) rfl rfl ?_
  refine x_callVi (d2 := 0) (c_isThing hG (lN (i)) hn hn2) rfl rfl v_8_210 rfl rfl (by decide) rfl rfl (Nat.le_of_ble_eq_true rfl) (by omega) (by omega) ?_
  refine x_ifB_eq rfl rfl (fun hc1 => absurd (inTh hi hn2) hc1) (fun hc1 => ?_)
  refine x_aload_n rfl rfl rfl ?_
  refine x_getR0 rfl rfl f_8_20 rfl (by decide) rfl rfl ?_
  refine x_getR0 rfl rfl f_8_79 rfl (by decide) rfl rfl ?_
  refine x_iload_n rfl rfl rfl ?_
  refine x_aaldi (a := i) rfl rfl rfl (by decide) (by decide) (by omega) (by decide) rfl ?_
  refine x_getRi rfl rfl f_8_158 rfl (by show _ < 40; omega) rfl rfl ?_
  refine x_getIv (v := nI kl) hkl rfl rfl f_8_143 rfl (by show _ < 40; omega) rfl ?_
  refine x_goto rfl rfl ?_
  exact x_retI rfl rfl rfl (by omega) rfl rfl
set_option maxHeartbeats 4000000 in
set_option maxRecDepth 20000 in
theorem c_pairsO (hG : Gok G) (hd : 1 ≤ d) {n : Nat} (hn : M.1 (1, 0) 5 = nI n) (hn2 : n ≤ 40) {th : Int32} (ho : ∀ i, i < n → th ≠ nI i) : Ct G mX8_pairs d [.ref (ga G (0, 0)), .int (th)] M (.inl (some (.int (nI 0)))) M 0 := by
  refine ct_of hG okX8_pairs (by decide +kernel) rfl (Nat.le_of_ble_eq_true rfl) ?_
  refine x_aload_n rfl rfl rfl ?_
  refine x_getR0 rfl rfl f_8_20 rfl (by decide) rfl rfl ?_
  refine x_iload_n rfl rfl rfl ?_
  refine x_i2l rfl rfl ?_
  refine x_callVi (d2 := 0) (c_isThing hG ((th).toInt64) hn hn2) rfl rfl v_8_210 rfl rfl (by decide) rfl rfl (Nat.le_of_ble_eq_true rfl) (by omega) (by omega) ?_
  refine x_ifB_eq rfl rfl (fun hc1 => ?_) (fun hc1 => absurd hc1 (outTh ho hn2))
  refine x_iconstN (b := 0) rfl rfl ?_
  exact x_retI rfl rfl rfl (by omega) rfl rfl
set_option maxHeartbeats 4000000 in
set_option maxRecDepth 20000 in
theorem c_traitsOf (hG : Gok G) (hd : 1 ≤ d) {n : Nat} (hn : M.1 (1, 0) 5 = nI n) (hn2 : n ≤ 40) {i : Nat} (hi : i < n)  : Ct G mX8_traitsOf d [.ref (ga G (0, 0)), .int (nI i)] M (.inl (some (.int (M.1 (8, i) 4)))) M 0 := by
  refine ct_of hG okX8_traitsOf (by decide +kernel) rfl (Nat.le_of_ble_eq_true rfl) ?_
  refine x_aload_n rfl rfl rfl ?_
  refine x_getR0 rfl rfl f_8_20 rfl (by decide) rfl rfl ?_
  refine x_iload_n rfl rfl rfl ?_
  refine x_i2lN (a := i) (by omega) rfl rfl ?_
  refine x_callVi (d2 := 0) (c_isThing hG (lN (i)) hn hn2) rfl rfl v_8_210 rfl rfl (by decide) rfl rfl (Nat.le_of_ble_eq_true rfl) (by omega) (by omega) ?_
  refine x_ifB_eq rfl rfl (fun hc1 => absurd (inTh hi hn2) hc1) (fun hc1 => ?_)
  refine x_aload_n rfl rfl rfl ?_
  refine x_getR0 rfl rfl f_8_20 rfl (by decide) rfl rfl ?_
  refine x_getR0 rfl rfl f_8_79 rfl (by decide) rfl rfl ?_
  refine x_iload_n rfl rfl rfl ?_
  refine x_aaldi (a := i) rfl rfl rfl (by decide) (by decide) (by omega) (by decide) rfl ?_
  refine x_getI rfl rfl f_8_220 rfl (by show _ < 40; omega) rfl ?_
  refine x_goto rfl rfl ?_
  exact x_retI rfl rfl rfl (by omega) rfl rfl
set_option maxHeartbeats 4000000 in
set_option maxRecDepth 20000 in
theorem c_traitsOfO (hG : Gok G) (hd : 1 ≤ d) {n : Nat} (hn : M.1 (1, 0) 5 = nI n) (hn2 : n ≤ 40) {th : Int32} (ho : ∀ i, i < n → th ≠ nI i) : Ct G mX8_traitsOf d [.ref (ga G (0, 0)), .int (th)] M (.inl (some (.int ((-1))))) M 0 := by
  refine ct_of hG okX8_traitsOf (by decide +kernel) rfl (Nat.le_of_ble_eq_true rfl) ?_
  refine x_aload_n rfl rfl rfl ?_
  refine x_getR0 rfl rfl f_8_20 rfl (by decide) rfl rfl ?_
  refine x_iload_n rfl rfl rfl ?_
  refine x_i2l rfl rfl ?_
  refine x_callVi (d2 := 0) (c_isThing hG ((th).toInt64) hn hn2) rfl rfl v_8_210 rfl rfl (by decide) rfl rfl (Nat.le_of_ble_eq_true rfl) (by omega) (by omega) ?_
  refine x_ifB_eq rfl rfl (fun hc1 => ?_) (fun hc1 => absurd hc1 (outTh ho hn2))
  refine x_iconst (v := -1) rfl rfl (by decide +kernel) ?_
  exact x_retI rfl rfl rfl (by omega) rfl rfl
set_option maxHeartbeats 4000000 in
set_option maxRecDepth 20000 in
theorem c_itemT (hG : Gok G) (hd : 1 ≤ d) {n : Nat} (hn : M.1 (1, 0) 5 = nI n) (hn2 : n ≤ 40) {th : Int32} (ho : ∀ i, i < n → th ≠ nI i) (j : Int32) : Ct G mX8_item d [.ref (ga G (0, 0)), .int (th), .int (j)] M (.inl (some (.long ((-1))))) M 0 := by
  refine ct_of hG okX8_item (by decide +kernel) rfl (Nat.le_of_ble_eq_true rfl) ?_
  refine x_aload_n rfl rfl rfl ?_
  refine x_getR0 rfl rfl f_8_20 rfl (by decide) rfl rfl ?_
  refine x_iload_n rfl rfl rfl ?_
  refine x_i2l rfl rfl ?_
  refine x_callVi (d2 := 0) (c_isThing hG ((th).toInt64) hn hn2) rfl rfl v_8_210 rfl rfl (by decide) rfl rfl (Nat.le_of_ble_eq_true rfl) (by omega) (by omega) ?_
  refine x_ifB_ne rfl rfl (fun hc1 => absurd hc1 (outTh ho hn2)) (fun hc1 => ?_)
  refine x_ldc2 (v := -1) rfl rfl k_8_215 ?_
  exact x_retL rfl rfl rfl (by omega) rfl rfl
set_option maxHeartbeats 4000000 in
set_option maxRecDepth 20000 in
theorem c_itemD (hG : Gok G) (hd : 1 ≤ d) {n : Nat} (hn : M.1 (1, 0) 5 = nI n) (hn2 : n ≤ 40) {i : Nat} (hi : i < n) (hkd : M.1 (8, i) 3 = nI 8) : Ct G mX8_item d [.ref (ga G (0, 0)), .int (nI i), .int (nI 0)] M (.inl (some (.long (M.2 (8, i) 5)))) M 0 := by
  refine ct_of hG okX8_item (by decide +kernel) rfl (Nat.le_of_ble_eq_true rfl) ?_
  refine x_aload_n rfl rfl rfl ?_
  refine x_getR0 rfl rfl f_8_20 rfl (by decide) rfl rfl ?_
  refine x_iload_n rfl rfl rfl ?_
  refine x_i2lN (a := i) (by omega) rfl rfl ?_
  refine x_callVi (d2 := 0) (c_isThing hG (lN (i)) hn hn2) rfl rfl v_8_210 rfl rfl (by decide) rfl rfl (Nat.le_of_ble_eq_true rfl) (by omega) (by omega) ?_
  refine x_ifB_ne rfl rfl (fun hc1 => ?_) (fun hc1 => absurd (inTh hi hn2) hc1)
  refine x_aload_n rfl rfl rfl ?_
  refine x_getR0 rfl rfl f_8_20 rfl (by decide) rfl rfl ?_
  refine x_getR0 rfl rfl f_8_79 rfl (by decide) rfl rfl ?_
  refine x_iload_n rfl rfl rfl ?_
  refine x_aaldi (a := i) rfl rfl rfl (by decide) (by decide) (by omega) (by decide) rfl ?_
  refine x_astore_n rfl rfl rfl rfl ?_
  refine x_aload_n rfl rfl rfl ?_
  refine x_getIv (v := nI 8) hkd rfl rfl f_8_213 rfl (by show _ < 40; omega) rfl ?_
  refine x_bipush (v := nI 8) rfl rfl (by decide +kernel) ?_
  refine x_icmpN_ne (by omega) (by omega) rfl rfl (fun hc2 => absurd rfl hc2) (fun hc2 => ?_)
  refine x_iload_n rfl rfl rfl ?_
  refine x_if_ne rfl rfl (fun hc3 => absurd hc3 (by decide +kernel)) (fun _ => ?_)
  refine x_aload_n rfl rfl rfl ?_
  refine x_getL rfl rfl f_8_83 rfl (by show _ < 40; omega) rfl ?_
  refine x_goto rfl rfl ?_
  exact x_retL rfl rfl rfl (by omega) rfl rfl
set_option maxHeartbeats 4000000 in
set_option maxRecDepth 20000 in
theorem c_itemI (hG : Gok G) (hd : 1 ≤ d) {n : Nat} (hn : M.1 (1, 0) 5 = nI n) (hn2 : n ≤ 40) {i : Nat} (hi : i < n) {il : Nat} (hil : M.1 (9, i) 1 = nI il) (hil2 : il ≤ 8) {kd : Nat} (hkd : M.1 (8, i) 3 = nI kd) (hkd2 : kd < 16) (hne : kd ≠ 8) {j : Nat} (hj : j < il) : Ct G mX8_item d [.ref (ga G (0, 0)), .int (nI i), .int (nI j)] M (.inl (some (.long (M.2 (10, i) j)))) M 0 := by
  refine ct_of hG okX8_item (by decide +kernel) rfl (Nat.le_of_ble_eq_true rfl) ?_
  refine x_aload_n rfl rfl rfl ?_
  refine x_getR0 rfl rfl f_8_20 rfl (by decide) rfl rfl ?_
  refine x_iload_n rfl rfl rfl ?_
  refine x_i2lN (a := i) (by omega) rfl rfl ?_
  refine x_callVi (d2 := 0) (c_isThing hG (lN (i)) hn hn2) rfl rfl v_8_210 rfl rfl (by decide) rfl rfl (Nat.le_of_ble_eq_true rfl) (by omega) (by omega) ?_
  refine x_ifB_ne rfl rfl (fun hc1 => ?_) (fun hc1 => absurd (inTh hi hn2) hc1)
  refine x_aload_n rfl rfl rfl ?_
  refine x_getR0 rfl rfl f_8_20 rfl (by decide) rfl rfl ?_
  refine x_getR0 rfl rfl f_8_79 rfl (by decide) rfl rfl ?_
  refine x_iload_n rfl rfl rfl ?_
  refine x_aaldi (a := i) rfl rfl rfl (by decide) (by decide) (by omega) (by decide) rfl ?_
  refine x_astore_n rfl rfl rfl rfl ?_
  refine x_aload_n rfl rfl rfl ?_
  refine x_getIv (v := nI kd) hkd rfl rfl f_8_213 rfl (by show _ < 40; omega) rfl ?_
  refine x_bipush (v := nI 8) rfl rfl (by decide +kernel) ?_
  refine x_icmpN_ne (by omega) (by omega) rfl rfl (fun hc2 => ?_) (fun hc2 => absurd hc2 hne)
  refine x_aload_n rfl rfl rfl ?_
  refine x_getRi rfl rfl f_8_92 rfl (by show _ < 40; omega) rfl rfl ?_
  refine x_iload_n rfl rfl rfl ?_
  refine x_callVl (d2 := 0) (c_LL_at (len := il) hG (lk_9 (by omega)) (j) hil (by omega) (by omega)) rfl rfl v_8_217 rfl rfl (by show _ < 40; omega) rfl rfl (Nat.le_of_ble_eq_true rfl) (by omega) (by omega) ?_
  exact x_retL rfl rfl rfl (by omega) rfl rfl
set_option maxHeartbeats 4000000 in
set_option maxRecDepth 20000 in
theorem c_itemO (hG : Gok G) (hd : 1 ≤ d) {n : Nat} (hn : M.1 (1, 0) 5 = nI n) (hn2 : n ≤ 40) {i : Nat} (hi : i < n) {il : Nat} (hil : M.1 (9, i) 1 = nI il) (hil2 : il ≤ 8) {kd : Nat} (hkd : M.1 (8, i) 3 = nI kd) (hkd2 : kd < 16) (hne : kd ≠ 8) {j : Nat} (hj : il ≤ j) (hj2 : j < 2 ^ 31) : Ct G mX8_item d [.ref (ga G (0, 0)), .int (nI i), .int (nI j)] M (.inl (some (.long ((-1))))) M 0 := by
  refine ct_of hG okX8_item (by decide +kernel) rfl (Nat.le_of_ble_eq_true rfl) ?_
  refine x_aload_n rfl rfl rfl ?_
  refine x_getR0 rfl rfl f_8_20 rfl (by decide) rfl rfl ?_
  refine x_iload_n rfl rfl rfl ?_
  refine x_i2lN (a := i) (by omega) rfl rfl ?_
  refine x_callVi (d2 := 0) (c_isThing hG (lN (i)) hn hn2) rfl rfl v_8_210 rfl rfl (by decide) rfl rfl (Nat.le_of_ble_eq_true rfl) (by omega) (by omega) ?_
  refine x_ifB_ne rfl rfl (fun hc1 => ?_) (fun hc1 => absurd (inTh hi hn2) hc1)
  refine x_aload_n rfl rfl rfl ?_
  refine x_getR0 rfl rfl f_8_20 rfl (by decide) rfl rfl ?_
  refine x_getR0 rfl rfl f_8_79 rfl (by decide) rfl rfl ?_
  refine x_iload_n rfl rfl rfl ?_
  refine x_aaldi (a := i) rfl rfl rfl (by decide) (by decide) (by omega) (by decide) rfl ?_
  refine x_astore_n rfl rfl rfl rfl ?_
  refine x_aload_n rfl rfl rfl ?_
  refine x_getIv (v := nI kd) hkd rfl rfl f_8_213 rfl (by show _ < 40; omega) rfl ?_
  refine x_bipush (v := nI 8) rfl rfl (by decide +kernel) ?_
  refine x_icmpN_ne (by omega) (by omega) rfl rfl (fun hc2 => ?_) (fun hc2 => absurd hc2 hne)
  refine x_aload_n rfl rfl rfl ?_
  refine x_getRi rfl rfl f_8_92 rfl (by show _ < 40; omega) rfl rfl ?_
  refine x_iload_n rfl rfl rfl ?_
  refine x_callVl (d2 := 0) (c_LL_atO (len := il) hG (lk_9 (by omega)) (j) hil (by omega) (by omega) (by omega)) rfl rfl v_8_217 rfl rfl (by show _ < 40; omega) rfl rfl (Nat.le_of_ble_eq_true rfl) (by omega) (by omega) ?_
  exact x_retL rfl rfl rfl (by omega) rfl rfl
set_option maxHeartbeats 4000000 in
set_option maxRecDepth 20000 in
theorem c_itemZI (hG : Gok G) (hd : 1 ≤ d) {n : Nat} (hn : M.1 (1, 0) 5 = nI n) (hn2 : n ≤ 40) {i : Nat} (hi : i < n) {il : Nat} (hil : M.1 (9, i) 1 = nI il) (hil2 : il ≤ 8) (hkd : M.1 (8, i) 3 = nI 8) {j : Nat} (hj : j < il) (hj0 : 0 < j) : Ct G mX8_item d [.ref (ga G (0, 0)), .int (nI i), .int (nI j)] M (.inl (some (.long (M.2 (10, i) j)))) M 0 := by
  refine ct_of hG okX8_item (by decide +kernel) rfl (Nat.le_of_ble_eq_true rfl) ?_
  refine x_aload_n rfl rfl rfl ?_
  refine x_getR0 rfl rfl f_8_20 rfl (by decide) rfl rfl ?_
  refine x_iload_n rfl rfl rfl ?_
  refine x_i2lN (a := i) (by omega) rfl rfl ?_
  refine x_callVi (d2 := 0) (c_isThing hG (lN (i)) hn hn2) rfl rfl v_8_210 rfl rfl (by decide) rfl rfl (Nat.le_of_ble_eq_true rfl) (by omega) (by omega) ?_
  refine x_ifB_ne rfl rfl (fun hc1 => ?_) (fun hc1 => absurd (inTh hi hn2) hc1)
  refine x_aload_n rfl rfl rfl ?_
  refine x_getR0 rfl rfl f_8_20 rfl (by decide) rfl rfl ?_
  refine x_getR0 rfl rfl f_8_79 rfl (by decide) rfl rfl ?_
  refine x_iload_n rfl rfl rfl ?_
  refine x_aaldi (a := i) rfl rfl rfl (by decide) (by decide) (by omega) (by decide) rfl ?_
  refine x_astore_n rfl rfl rfl rfl ?_
  refine x_aload_n rfl rfl rfl ?_
  refine x_getIv (v := nI 8) hkd rfl rfl f_8_213 rfl (by show _ < 40; omega) rfl ?_
  refine x_bipush (v := nI 8) rfl rfl (by decide +kernel) ?_
  refine x_icmpN_ne (by omega) (by omega) rfl rfl (fun hc2 => absurd rfl hc2) (fun hc2 => ?_)
  refine x_iload_n rfl rfl rfl ?_
  refine x_ifN_ne (by omega) rfl rfl (fun hc3 => ?_) (fun hc3 => absurd hc3 (by omega))
  refine x_aload_n rfl rfl rfl ?_
  refine x_getRi rfl rfl f_8_92 rfl (by show _ < 40; omega) rfl rfl ?_
  refine x_iload_n rfl rfl rfl ?_
  refine x_callVl (d2 := 0) (c_LL_at (len := il) hG (lk_9 (by omega)) (j) hil (by omega) (by omega)) rfl rfl v_8_217 rfl rfl (by show _ < 40; omega) rfl rfl (Nat.le_of_ble_eq_true rfl) (by omega) (by omega) ?_
  exact x_retL rfl rfl rfl (by omega) rfl rfl
set_option maxHeartbeats 4000000 in
set_option maxRecDepth 20000 in
theorem c_itemZO (hG : Gok G) (hd : 1 ≤ d) {n : Nat} (hn : M.1 (1, 0) 5 = nI n) (hn2 : n ≤ 40) {i : Nat} (hi : i < n) {il : Nat} (hil : M.1 (9, i) 1 = nI il) (hil2 : il ≤ 8) (hkd : M.1 (8, i) 3 = nI 8) {j : Nat} (hj : il ≤ j) (hj2 : j < 2 ^ 31) (hj0 : 0 < j) : Ct G mX8_item d [.ref (ga G (0, 0)), .int (nI i), .int (nI j)] M (.inl (some (.long ((-1))))) M 0 := by
  refine ct_of hG okX8_item (by decide +kernel) rfl (Nat.le_of_ble_eq_true rfl) ?_
  refine x_aload_n rfl rfl rfl ?_
  refine x_getR0 rfl rfl f_8_20 rfl (by decide) rfl rfl ?_
  refine x_iload_n rfl rfl rfl ?_
  refine x_i2lN (a := i) (by omega) rfl rfl ?_
  refine x_callVi (d2 := 0) (c_isThing hG (lN (i)) hn hn2) rfl rfl v_8_210 rfl rfl (by decide) rfl rfl (Nat.le_of_ble_eq_true rfl) (by omega) (by omega) ?_
  refine x_ifB_ne rfl rfl (fun hc1 => ?_) (fun hc1 => absurd (inTh hi hn2) hc1)
  refine x_aload_n rfl rfl rfl ?_
  refine x_getR0 rfl rfl f_8_20 rfl (by decide) rfl rfl ?_
  refine x_getR0 rfl rfl f_8_79 rfl (by decide) rfl rfl ?_
  refine x_iload_n rfl rfl rfl ?_
  refine x_aaldi (a := i) rfl rfl rfl (by decide) (by decide) (by omega) (by decide) rfl ?_
  refine x_astore_n rfl rfl rfl rfl ?_
  refine x_aload_n rfl rfl rfl ?_
  refine x_getIv (v := nI 8) hkd rfl rfl f_8_213 rfl (by show _ < 40; omega) rfl ?_
  refine x_bipush (v := nI 8) rfl rfl (by decide +kernel) ?_
  refine x_icmpN_ne (by omega) (by omega) rfl rfl (fun hc2 => absurd rfl hc2) (fun hc2 => ?_)
  refine x_iload_n rfl rfl rfl ?_
  refine x_ifN_ne (by omega) rfl rfl (fun hc3 => ?_) (fun hc3 => absurd hc3 (by omega))
  refine x_aload_n rfl rfl rfl ?_
  refine x_getRi rfl rfl f_8_92 rfl (by show _ < 40; omega) rfl rfl ?_
  refine x_iload_n rfl rfl rfl ?_
  refine x_callVl (d2 := 0) (c_LL_atO (len := il) hG (lk_9 (by omega)) (j) hil (by omega) (by omega) (by omega)) rfl rfl v_8_217 rfl rfl (by show _ < 40; omega) rfl rfl (Nat.le_of_ble_eq_true rfl) (by omega) (by omega) ?_
  exact x_retL rfl rfl rfl (by omega) rfl rfl
set_option maxHeartbeats 4000000 in
set_option maxRecDepth 20000 in
theorem c_itemN (hG : Gok G) (hd : 1 ≤ d) {n : Nat} (hn : M.1 (1, 0) 5 = nI n) (hn2 : n ≤ 40) {i : Nat} (hi : i < n) {il : Nat} (hil : M.1 (9, i) 1 = nI il) (hil2 : il ≤ 8) {kd : Nat} (hkd : M.1 (8, i) 3 = nI kd) (hkd2 : kd < 16) (hne : kd ≠ 8) {j : Int32} (hj : j < 0) : Ct G mX8_item d [.ref (ga G (0, 0)), .int (nI i), .int (j)] M (.inl (some (.long ((-1))))) M 0 := by
  refine ct_of hG okX8_item (by decide +kernel) rfl (Nat.le_of_ble_eq_true rfl) ?_
  refine x_aload_n rfl rfl rfl ?_
  refine x_getR0 rfl rfl f_8_20 rfl (by decide) rfl rfl ?_
  refine x_iload_n rfl rfl rfl ?_
  refine x_i2lN (a := i) (by omega) rfl rfl ?_
  refine x_callVi (d2 := 0) (c_isThing hG (lN (i)) hn hn2) rfl rfl v_8_210 rfl rfl (by decide) rfl rfl (Nat.le_of_ble_eq_true rfl) (by omega) (by omega) ?_
  refine x_ifB_ne rfl rfl (fun hc1 => ?_) (fun hc1 => absurd (inTh hi hn2) hc1)
  refine x_aload_n rfl rfl rfl ?_
  refine x_getR0 rfl rfl f_8_20 rfl (by decide) rfl rfl ?_
  refine x_getR0 rfl rfl f_8_79 rfl (by decide) rfl rfl ?_
  refine x_iload_n rfl rfl rfl ?_
  refine x_aaldi (a := i) rfl rfl rfl (by decide) (by decide) (by omega) (by decide) rfl ?_
  refine x_astore_n rfl rfl rfl rfl ?_
  refine x_aload_n rfl rfl rfl ?_
  refine x_getIv (v := nI kd) hkd rfl rfl f_8_213 rfl (by show _ < 40; omega) rfl ?_
  refine x_bipush (v := nI 8) rfl rfl (by decide +kernel) ?_
  refine x_icmpN_ne (by omega) (by omega) rfl rfl (fun hc2 => ?_) (fun hc2 => absurd hc2 hne)
  refine x_aload_n rfl rfl rfl ?_
  refine x_getRi rfl rfl f_8_92 rfl (by show _ < 40; omega) rfl rfl ?_
  refine x_iload_n rfl rfl rfl ?_
  refine x_callVl (d2 := 0) (c_LL_atN hG (lk_9 (by omega)) (j) hj) rfl rfl v_8_217 rfl rfl (by show _ < 40; omega) rfl rfl (Nat.le_of_ble_eq_true rfl) (by omega) (by omega) ?_
  exact x_retL rfl rfl rfl (by omega) rfl rfl
set_option maxHeartbeats 4000000 in
set_option maxRecDepth 20000 in
theorem c_itemZN (hG : Gok G) (hd : 1 ≤ d) {n : Nat} (hn : M.1 (1, 0) 5 = nI n) (hn2 : n ≤ 40) {i : Nat} (hi : i < n) {il : Nat} (hil : M.1 (9, i) 1 = nI il) (hil2 : il ≤ 8) (hkd : M.1 (8, i) 3 = nI 8) {j : Int32} (hj : j < 0) : Ct G mX8_item d [.ref (ga G (0, 0)), .int (nI i), .int (j)] M (.inl (some (.long ((-1))))) M 0 := by
  refine ct_of hG okX8_item (by decide +kernel) rfl (Nat.le_of_ble_eq_true rfl) ?_
  refine x_aload_n rfl rfl rfl ?_
  refine x_getR0 rfl rfl f_8_20 rfl (by decide) rfl rfl ?_
  refine x_iload_n rfl rfl rfl ?_
  refine x_i2lN (a := i) (by omega) rfl rfl ?_
  refine x_callVi (d2 := 0) (c_isThing hG (lN (i)) hn hn2) rfl rfl v_8_210 rfl rfl (by decide) rfl rfl (Nat.le_of_ble_eq_true rfl) (by omega) (by omega) ?_
  refine x_ifB_ne rfl rfl (fun hc1 => ?_) (fun hc1 => absurd (inTh hi hn2) hc1)
  refine x_aload_n rfl rfl rfl ?_
  refine x_getR0 rfl rfl f_8_20 rfl (by decide) rfl rfl ?_
  refine x_getR0 rfl rfl f_8_79 rfl (by decide) rfl rfl ?_
  refine x_iload_n rfl rfl rfl ?_
  refine x_aaldi (a := i) rfl rfl rfl (by decide) (by decide) (by omega) (by decide) rfl ?_
  refine x_astore_n rfl rfl rfl rfl ?_
  refine x_aload_n rfl rfl rfl ?_
  refine x_getIv (v := nI 8) hkd rfl rfl f_8_213 rfl (by show _ < 40; omega) rfl ?_
  refine x_bipush (v := nI 8) rfl rfl (by decide +kernel) ?_
  refine x_icmpN_ne (by omega) (by omega) rfl rfl (fun hc2 => absurd rfl hc2) (fun hc2 => ?_)
  refine x_iload_n rfl rfl rfl ?_
  refine x_if_ne rfl rfl (fun hc3 => ?_) (fun hc3 => absurd (hc3 ▸ hj) (by decide +kernel))
  refine x_aload_n rfl rfl rfl ?_
  refine x_getRi rfl rfl f_8_92 rfl (by show _ < 40; omega) rfl rfl ?_
  refine x_iload_n rfl rfl rfl ?_
  refine x_callVl (d2 := 0) (c_LL_atN hG (lk_9 (by omega)) (j) hj) rfl rfl v_8_217 rfl rfl (by show _ < 40; omega) rfl rfl (Nat.le_of_ble_eq_true rfl) (by omega) (by omega) ?_
  exact x_retL rfl rfl rfl (by omega) rfl rfl
set_option maxHeartbeats 4000000 in
set_option maxRecDepth 20000 in
theorem c_pair1I (hG : Gok G) (hd : 1 ≤ d) {n : Nat} (hn : M.1 (1, 0) 5 = nI n) (hn2 : n ≤ 40) {i : Nat} (hi : i < n) {kl : Nat} (hkl : M.1 (11, i) 1 = nI kl) (hkl2 : kl ≤ 6) {j : Nat} (hj : j < kl) : Ct G mX8_pair d [.ref (ga G (0, 0)), .int (nI i), .int (nI j), .int (nI 1)] M (.inl (some (.long (M.2 (12, i) j)))) M 0 := by
  refine ct_of hG okX8_pair (by decide +kernel) rfl (Nat.le_of_ble_eq_true rfl) ?_
  refine x_aload_n rfl rfl rfl ?_
  refine x_getR0 rfl rfl f_8_20 rfl (by decide) rfl rfl ?_
  refine x_iload_n rfl rfl rfl ?_
  refine x_i2lN (a := i) (by omega) rfl rfl ?_
  refine x_callVi (d2 := 0) (c_isThing hG (lN (i)) hn hn2) rfl rfl v_8_210 rfl rfl (by decide) rfl rfl (Nat.le_of_ble_eq_true rfl) (by omega) (by omega) ?_
  refine x_ifB_ne rfl rfl (fun hc1 => ?_) (fun hc1 => absurd (inTh hi hn2) hc1)
  refine x_aload_n rfl rfl rfl ?_
  refine x_getR0 rfl rfl f_8_20 rfl (by decide) rfl rfl ?_
  refine x_getR0 rfl rfl f_8_79 rfl (by decide) rfl rfl ?_
  refine x_iload_n rfl rfl rfl ?_
  refine x_aaldi (a := i) rfl rfl rfl (by decide) (by decide) (by omega) (by decide) rfl ?_
  refine x_astore rfl rfl rfl rfl ?_
  refine x_iload_n rfl rfl rfl ?_
  refine x_if_eq rfl rfl (fun hc2 => absurd hc2 (by decide +kernel)) (fun _ => ?_)
  refine x_aload rfl rfl rfl ?_
  refine x_getRi rfl rfl f_8_158 rfl (by show _ < 40; omega) rfl rfl ?_
  refine x_iload_n rfl rfl rfl ?_
  refine x_callVl (d2 := 0) (c_LL_at (len := kl) hG (lk_11 (by omega)) (j) hkl (by omega) (by omega)) rfl rfl v_8_217 rfl rfl (by show _ < 40; omega) rfl rfl (Nat.le_of_ble_eq_true rfl) (by omega) (by omega) ?_
  refine x_goto rfl rfl ?_
  exact x_retL rfl rfl rfl (by omega) rfl rfl
set_option maxHeartbeats 4000000 in
set_option maxRecDepth 20000 in
theorem c_pair1O (hG : Gok G) (hd : 1 ≤ d) {n : Nat} (hn : M.1 (1, 0) 5 = nI n) (hn2 : n ≤ 40) {i : Nat} (hi : i < n) {kl : Nat} (hkl : M.1 (11, i) 1 = nI kl) (hkl2 : kl ≤ 6) {j : Nat} (hj : kl ≤ j) (hj2 : j < 2 ^ 31) : Ct G mX8_pair d [.ref (ga G (0, 0)), .int (nI i), .int (nI j), .int (nI 1)] M (.inl (some (.long ((-1))))) M 0 := by
  refine ct_of hG okX8_pair (by decide +kernel) rfl (Nat.le_of_ble_eq_true rfl) ?_
  refine x_aload_n rfl rfl rfl ?_
  refine x_getR0 rfl rfl f_8_20 rfl (by decide) rfl rfl ?_
  refine x_iload_n rfl rfl rfl ?_
  refine x_i2lN (a := i) (by omega) rfl rfl ?_
  refine x_callVi (d2 := 0) (c_isThing hG (lN (i)) hn hn2) rfl rfl v_8_210 rfl rfl (by decide) rfl rfl (Nat.le_of_ble_eq_true rfl) (by omega) (by omega) ?_
  refine x_ifB_ne rfl rfl (fun hc1 => ?_) (fun hc1 => absurd (inTh hi hn2) hc1)
  refine x_aload_n rfl rfl rfl ?_
  refine x_getR0 rfl rfl f_8_20 rfl (by decide) rfl rfl ?_
  refine x_getR0 rfl rfl f_8_79 rfl (by decide) rfl rfl ?_
  refine x_iload_n rfl rfl rfl ?_
  refine x_aaldi (a := i) rfl rfl rfl (by decide) (by decide) (by omega) (by decide) rfl ?_
  refine x_astore rfl rfl rfl rfl ?_
  refine x_iload_n rfl rfl rfl ?_
  refine x_if_eq rfl rfl (fun hc2 => absurd hc2 (by decide +kernel)) (fun _ => ?_)
  refine x_aload rfl rfl rfl ?_
  refine x_getRi rfl rfl f_8_158 rfl (by show _ < 40; omega) rfl rfl ?_
  refine x_iload_n rfl rfl rfl ?_
  refine x_callVl (d2 := 0) (c_LL_atO (len := kl) hG (lk_11 (by omega)) (j) hkl (by omega) (by omega) (by omega)) rfl rfl v_8_217 rfl rfl (by show _ < 40; omega) rfl rfl (Nat.le_of_ble_eq_true rfl) (by omega) (by omega) ?_
  refine x_goto rfl rfl ?_
  exact x_retL rfl rfl rfl (by omega) rfl rfl
set_option maxHeartbeats 4000000 in
set_option maxRecDepth 20000 in
theorem c_pair1N (hG : Gok G) (hd : 1 ≤ d) {n : Nat} (hn : M.1 (1, 0) 5 = nI n) (hn2 : n ≤ 40) {i : Nat} (hi : i < n) {kl : Nat} (hkl : M.1 (11, i) 1 = nI kl) (hkl2 : kl ≤ 6) {j : Int32} (hj : j < 0) : Ct G mX8_pair d [.ref (ga G (0, 0)), .int (nI i), .int (j), .int (nI 1)] M (.inl (some (.long ((-1))))) M 0 := by
  refine ct_of hG okX8_pair (by decide +kernel) rfl (Nat.le_of_ble_eq_true rfl) ?_
  refine x_aload_n rfl rfl rfl ?_
  refine x_getR0 rfl rfl f_8_20 rfl (by decide) rfl rfl ?_
  refine x_iload_n rfl rfl rfl ?_
  refine x_i2lN (a := i) (by omega) rfl rfl ?_
  refine x_callVi (d2 := 0) (c_isThing hG (lN (i)) hn hn2) rfl rfl v_8_210 rfl rfl (by decide) rfl rfl (Nat.le_of_ble_eq_true rfl) (by omega) (by omega) ?_
  refine x_ifB_ne rfl rfl (fun hc1 => ?_) (fun hc1 => absurd (inTh hi hn2) hc1)
  refine x_aload_n rfl rfl rfl ?_
  refine x_getR0 rfl rfl f_8_20 rfl (by decide) rfl rfl ?_
  refine x_getR0 rfl rfl f_8_79 rfl (by decide) rfl rfl ?_
  refine x_iload_n rfl rfl rfl ?_
  refine x_aaldi (a := i) rfl rfl rfl (by decide) (by decide) (by omega) (by decide) rfl ?_
  refine x_astore rfl rfl rfl rfl ?_
  refine x_iload_n rfl rfl rfl ?_
  refine x_if_eq rfl rfl (fun hc2 => absurd hc2 (by decide +kernel)) (fun _ => ?_)
  refine x_aload rfl rfl rfl ?_
  refine x_getRi rfl rfl f_8_158 rfl (by show _ < 40; omega) rfl rfl ?_
  refine x_iload_n rfl rfl rfl ?_
  refine x_callVl (d2 := 0) (c_LL_atN hG (lk_11 (by omega)) (j) hj) rfl rfl v_8_217 rfl rfl (by show _ < 40; omega) rfl rfl (Nat.le_of_ble_eq_true rfl) (by omega) (by omega) ?_
  refine x_goto rfl rfl ?_
  exact x_retL rfl rfl rfl (by omega) rfl rfl
set_option maxHeartbeats 4000000 in
set_option maxRecDepth 20000 in
theorem c_pair0I (hG : Gok G) (hd : 1 ≤ d) {n : Nat} (hn : M.1 (1, 0) 5 = nI n) (hn2 : n ≤ 40) {i : Nat} (hi : i < n) {vl : Nat} (hvl : M.1 (13, i) 1 = nI vl) (hvl2 : vl ≤ 6) {j : Nat} (hj : j < vl) : Ct G mX8_pair d [.ref (ga G (0, 0)), .int (nI i), .int (nI j), .int (nI 0)] M (.inl (some (.long (M.2 (14, i) j)))) M 0 := by
  refine ct_of hG okX8_pair (by decide +kernel) rfl (Nat.le_of_ble_eq_true rfl) ?_
  refine x_aload_n rfl rfl rfl ?_
  refine x_getR0 rfl rfl f_8_20 rfl (by decide) rfl rfl ?_
  refine x_iload_n rfl rfl rfl ?_
  refine x_i2lN (a := i) (by omega) rfl rfl ?_
  refine x_callVi (d2 := 0) (c_isThing hG (lN (i)) hn hn2) rfl rfl v_8_210 rfl rfl (by decide) rfl rfl (Nat.le_of_ble_eq_true rfl) (by omega) (by omega) ?_
  refine x_ifB_ne rfl rfl (fun hc1 => ?_) (fun hc1 => absurd (inTh hi hn2) hc1)
  refine x_aload_n rfl rfl rfl ?_
  refine x_getR0 rfl rfl f_8_20 rfl (by decide) rfl rfl ?_
  refine x_getR0 rfl rfl f_8_79 rfl (by decide) rfl rfl ?_
  refine x_iload_n rfl rfl rfl ?_
  refine x_aaldi (a := i) rfl rfl rfl (by decide) (by decide) (by omega) (by decide) rfl ?_
  refine x_astore rfl rfl rfl rfl ?_
  refine x_iload_n rfl rfl rfl ?_
  refine x_if_eq rfl rfl (fun _ => ?_) (fun hc2 => absurd hc2 (by decide +kernel))
  refine x_aload rfl rfl rfl ?_
  refine x_getRi rfl rfl f_8_165 rfl (by show _ < 40; omega) rfl rfl ?_
  refine x_iload_n rfl rfl rfl ?_
  refine x_callVl (d2 := 0) (c_LL_at (len := vl) hG (lk_13 (by omega)) (j) hvl (by omega) (by omega)) rfl rfl v_8_217 rfl rfl (by show _ < 40; omega) rfl rfl (Nat.le_of_ble_eq_true rfl) (by omega) (by omega) ?_
  exact x_retL rfl rfl rfl (by omega) rfl rfl
set_option maxHeartbeats 4000000 in
set_option maxRecDepth 20000 in
theorem c_pair0O (hG : Gok G) (hd : 1 ≤ d) {n : Nat} (hn : M.1 (1, 0) 5 = nI n) (hn2 : n ≤ 40) {i : Nat} (hi : i < n) {vl : Nat} (hvl : M.1 (13, i) 1 = nI vl) (hvl2 : vl ≤ 6) {j : Nat} (hj : vl ≤ j) (hj2 : j < 2 ^ 31) : Ct G mX8_pair d [.ref (ga G (0, 0)), .int (nI i), .int (nI j), .int (nI 0)] M (.inl (some (.long ((-1))))) M 0 := by
  refine ct_of hG okX8_pair (by decide +kernel) rfl (Nat.le_of_ble_eq_true rfl) ?_
  refine x_aload_n rfl rfl rfl ?_
  refine x_getR0 rfl rfl f_8_20 rfl (by decide) rfl rfl ?_
  refine x_iload_n rfl rfl rfl ?_
  refine x_i2lN (a := i) (by omega) rfl rfl ?_
  refine x_callVi (d2 := 0) (c_isThing hG (lN (i)) hn hn2) rfl rfl v_8_210 rfl rfl (by decide) rfl rfl (Nat.le_of_ble_eq_true rfl) (by omega) (by omega) ?_
  refine x_ifB_ne rfl rfl (fun hc1 => ?_) (fun hc1 => absurd (inTh hi hn2) hc1)
  refine x_aload_n rfl rfl rfl ?_
  refine x_getR0 rfl rfl f_8_20 rfl (by decide) rfl rfl ?_
  refine x_getR0 rfl rfl f_8_79 rfl (by decide) rfl rfl ?_
  refine x_iload_n rfl rfl rfl ?_
  refine x_aaldi (a := i) rfl rfl rfl (by decide) (by decide) (by omega) (by decide) rfl ?_
  refine x_astore rfl rfl rfl rfl ?_
  refine x_iload_n rfl rfl rfl ?_
  refine x_if_eq rfl rfl (fun _ => ?_) (fun hc2 => absurd hc2 (by decide +kernel))
  refine x_aload rfl rfl rfl ?_
  refine x_getRi rfl rfl f_8_165 rfl (by show _ < 40; omega) rfl rfl ?_
  refine x_iload_n rfl rfl rfl ?_
  refine x_callVl (d2 := 0) (c_LL_atO (len := vl) hG (lk_13 (by omega)) (j) hvl (by omega) (by omega) (by omega)) rfl rfl v_8_217 rfl rfl (by show _ < 40; omega) rfl rfl (Nat.le_of_ble_eq_true rfl) (by omega) (by omega) ?_
  exact x_retL rfl rfl rfl (by omega) rfl rfl
set_option maxHeartbeats 4000000 in
set_option maxRecDepth 20000 in
theorem c_pair0N (hG : Gok G) (hd : 1 ≤ d) {n : Nat} (hn : M.1 (1, 0) 5 = nI n) (hn2 : n ≤ 40) {i : Nat} (hi : i < n) {vl : Nat} (hvl : M.1 (13, i) 1 = nI vl) (hvl2 : vl ≤ 6) {j : Int32} (hj : j < 0) : Ct G mX8_pair d [.ref (ga G (0, 0)), .int (nI i), .int (j), .int (nI 0)] M (.inl (some (.long ((-1))))) M 0 := by
  refine ct_of hG okX8_pair (by decide +kernel) rfl (Nat.le_of_ble_eq_true rfl) ?_
  refine x_aload_n rfl rfl rfl ?_
  refine x_getR0 rfl rfl f_8_20 rfl (by decide) rfl rfl ?_
  refine x_iload_n rfl rfl rfl ?_
  refine x_i2lN (a := i) (by omega) rfl rfl ?_
  refine x_callVi (d2 := 0) (c_isThing hG (lN (i)) hn hn2) rfl rfl v_8_210 rfl rfl (by decide) rfl rfl (Nat.le_of_ble_eq_true rfl) (by omega) (by omega) ?_
  refine x_ifB_ne rfl rfl (fun hc1 => ?_) (fun hc1 => absurd (inTh hi hn2) hc1)
  refine x_aload_n rfl rfl rfl ?_
  refine x_getR0 rfl rfl f_8_20 rfl (by decide) rfl rfl ?_
  refine x_getR0 rfl rfl f_8_79 rfl (by decide) rfl rfl ?_
  refine x_iload_n rfl rfl rfl ?_
  refine x_aaldi (a := i) rfl rfl rfl (by decide) (by decide) (by omega) (by decide) rfl ?_
  refine x_astore rfl rfl rfl rfl ?_
  refine x_iload_n rfl rfl rfl ?_
  refine x_if_eq rfl rfl (fun _ => ?_) (fun hc2 => absurd hc2 (by decide +kernel))
  refine x_aload rfl rfl rfl ?_
  refine x_getRi rfl rfl f_8_165 rfl (by show _ < 40; omega) rfl rfl ?_
  refine x_iload_n rfl rfl rfl ?_
  refine x_callVl (d2 := 0) (c_LL_atN hG (lk_13 (by omega)) (j) hj) rfl rfl v_8_217 rfl rfl (by show _ < 40; omega) rfl rfl (Nat.le_of_ble_eq_true rfl) (by omega) (by omega) ?_
  exact x_retL rfl rfl rfl (by omega) rfl rfl
set_option maxHeartbeats 4000000 in
set_option maxRecDepth 20000 in
theorem c_pairT (hG : Gok G) (hd : 1 ≤ d) {n : Nat} (hn : M.1 (1, 0) 5 = nI n) (hn2 : n ≤ 40) {th : Int32} (ho : ∀ i, i < n → th ≠ nI i) (j k : Int32) : Ct G mX8_pair d [.ref (ga G (0, 0)), .int (th), .int (j), .int (k)] M (.inl (some (.long ((-1))))) M 0 := by
  refine ct_of hG okX8_pair (by decide +kernel) rfl (Nat.le_of_ble_eq_true rfl) ?_
  refine x_aload_n rfl rfl rfl ?_
  refine x_getR0 rfl rfl f_8_20 rfl (by decide) rfl rfl ?_
  refine x_iload_n rfl rfl rfl ?_
  refine x_i2l rfl rfl ?_
  refine x_callVi (d2 := 0) (c_isThing hG ((th).toInt64) hn hn2) rfl rfl v_8_210 rfl rfl (by decide) rfl rfl (Nat.le_of_ble_eq_true rfl) (by omega) (by omega) ?_
  refine x_ifB_ne rfl rfl (fun hc1 => absurd hc1 (outTh ho hn2)) (fun hc1 => ?_)
  refine x_ldc2 (v := -1) rfl rfl k_8_215 ?_
  exact x_retL rfl rfl rfl (by omega) rfl rfl
set_option maxHeartbeats 4000000 in
set_option maxRecDepth 20000 in
theorem c_clear (hG : Gok G) (hd : 1 ≤ d) : Ct G mX8_clear d [.ref (ga G (0, 0))] M (.inl none) (ui (ui (ui M (1, 0) 3 (nI 0)) (1, 0) 4 (nI 0)) (1, 0) 5 (nI 0)) 0 := by
  refine ct_of hG okX8_clear (by decide +kernel) rfl (Nat.le_of_ble_eq_true rfl) ?_
  refine x_aload_n rfl rfl rfl ?_
  refine x_getR0 rfl rfl f_8_20 rfl (by decide) rfl rfl ?_
  refine x_iconstN (b := 0) rfl rfl ?_
  refine x_iconstN (b := 0) rfl rfl ?_
  refine x_iconstN (b := 0) rfl rfl ?_
  refine x_callVv (d2 := 0) (c_St_keepOnly hG (nI 0) (nI 0) (nI 0)) rfl rfl v_8_227 rfl rfl (by decide) rfl rfl (Nat.le_of_ble_eq_true rfl) (by omega) (by omega) ?_
  exact x_retV rfl rfl rfl (by omega) rfl rfl
set_option maxHeartbeats 4000000 in
set_option maxRecDepth 20000 in
theorem c_cut (hG : Gok G) {rn : Nat} (hr : M.1 (15, 0) 1 = nI rn) (hr2 : rn ≤ 600) {j : Nat} (hj : j ≤ rn) : Ct G mX8_cut d [.ref (ga G (0, 0)), .int (nI j)] M (.inl (some (.int (nI 1)))) (ui M (15, 0) 1 (nI j)) 0 := by
  refine ct_of hG okX8_cut (by decide +kernel) rfl (Nat.le_of_ble_eq_true rfl) ?_
  refine x_iload_n rfl rfl rfl ?_
  refine x_ifN_lt (by omega) rfl rfl (fun hc1 => hc1.elim) (fun hc1 => ?_)
  refine x_iload_n rfl rfl rfl ?_
  refine x_aload_n rfl rfl rfl ?_
  refine x_getR0 rfl rfl f_8_24 rfl (by decide) rfl rfl ?_
  refine x_getIv (v := nI rn) hr rfl rfl f_8_186 rfl (by decide) rfl ?_
  refine x_icmpN_le (by omega) (by omega) rfl rfl (fun hc2 => ?_) (fun hc2 => absurd hc2 (by omega))
  refine x_aload_n rfl rfl rfl ?_
  refine x_getR0 rfl rfl f_8_24 rfl (by decide) rfl rfl ?_
  refine x_iload_n rfl rfl rfl ?_
  refine x_putI rfl rfl f_8_186 rfl rfl (by decide) rfl ?_
  refine x_iconstN (b := 1) rfl rfl ?_
  exact x_retZ rfl rfl rfl (by first | exact Or.inl rfl | exact Or.inr rfl) (by omega) rfl rfl
set_option maxHeartbeats 4000000 in
set_option maxRecDepth 20000 in
theorem c_cutO (hG : Gok G) {rn : Nat} (hr : M.1 (15, 0) 1 = nI rn) (hr2 : rn ≤ 600) {j : Nat} (hj : rn < j) (hj2 : j < 2 ^ 31) : Ct G mX8_cut d [.ref (ga G (0, 0)), .int (nI j)] M (.inl (some (.int (nI 0)))) M 0 := by
  refine ct_of hG okX8_cut (by decide +kernel) rfl (Nat.le_of_ble_eq_true rfl) ?_
  refine x_iload_n rfl rfl rfl ?_
  refine x_ifN_lt (by omega) rfl rfl (fun hc1 => hc1.elim) (fun hc1 => ?_)
  refine x_iload_n rfl rfl rfl ?_
  refine x_aload_n rfl rfl rfl ?_
  refine x_getR0 rfl rfl f_8_24 rfl (by decide) rfl rfl ?_
  refine x_getIv (v := nI rn) hr rfl rfl f_8_186 rfl (by decide) rfl ?_
  refine x_icmpN_le (by omega) (by omega) rfl rfl (fun hc2 => absurd hc2 (by omega)) (fun hc2 => ?_)
  refine x_iconstN (b := 0) rfl rfl ?_
  exact x_retZ rfl rfl rfl (by first | exact Or.inl rfl | exact Or.inr rfl) (by omega) rfl rfl
set_option maxHeartbeats 4000000 in
set_option maxRecDepth 20000 in
theorem c_cutN (hG : Gok G) {i : Int32} (hi : i < 0) : Ct G mX8_cut d [.ref (ga G (0, 0)), .int (i)] M (.inl (some (.int (nI 0)))) M 0 := by
  refine ct_of hG okX8_cut (by decide +kernel) rfl (Nat.le_of_ble_eq_true rfl) ?_
  refine x_iload_n rfl rfl rfl ?_
  refine x_if_lt rfl rfl (fun hc1 => ?_) (fun hc1 => absurd hi hc1)
  refine x_iconstN (b := 0) rfl rfl ?_
  exact x_retZ rfl rfl rfl (by first | exact Or.inl rfl | exact Or.inr rfl) (by omega) rfl rfl
set_option maxHeartbeats 4000000 in
set_option maxRecDepth 20000 in
theorem c_wide (hG : Gok G) (hd : 1 ≤ d) (b : Int64) {w : Nat} (hw : M.1 (1, 0) 3 = nI w) (hw2 : w < 40) : Ct G mX8_wide d [.ref (ga G (0, 0)), .long (b)] M (.inl (some (.long (16 * (lN (w)) + (nI 5).toInt64)))) (ui (ul M (2, 0) w b) (1, 0) 3 (nI (w + 1))) 0 := by
  refine ct_of hG okX8_wide (by decide +kernel) rfl (Nat.le_of_ble_eq_true rfl) ?_
  refine x_aload_n rfl rfl rfl ?_
  refine x_getR0 rfl rfl f_8_20 rfl (by decide) rfl rfl ?_
  refine x_getIv (v := nI w) hw rfl rfl f_8_57 rfl (by decide) rfl ?_
  refine x_bipush (v := nI 40) rfl rfl (by decide +kernel) ?_
  refine x_icmpN_ne (by omega) (by omega) rfl rfl (fun hc1 => ?_) (fun hc1 => absurd hc1 (by omega))
  refine x_aload_n rfl rfl rfl ?_
  refine x_getR0 rfl rfl f_8_20 rfl (by decide) rfl rfl ?_
  refine x_getR0 rfl rfl f_8_64 rfl (by decide) rfl rfl ?_
  refine x_aload_n rfl rfl rfl ?_
  refine x_getR0 rfl rfl f_8_20 rfl (by decide) rfl rfl ?_
  refine x_getIv (v := nI w) hw rfl rfl f_8_57 rfl (by decide) rfl ?_
  refine x_lload_n rfl rfl rfl ?_
  refine x_last (a := w) rfl rfl rfl (by decide) (by omega) (by decide) ?_
  refine x_aload_n rfl rfl rfl ?_
  refine x_getR0 rfl rfl f_8_20 rfl (by decide) rfl rfl ?_
  refine x_dup rfl rfl rfl ?_
  refine x_getIv (v := nI w) (by first | exact hw | (rw [← hw]; rfl) | simp [ui, ul, hw]) rfl rfl f_8_57 rfl (by decide) rfl ?_
  refine x_iconstN (b := 1) rfl rfl ?_
  refine x_iaddN (a := w) (b := 1) rfl rfl ?_
  refine x_putI rfl rfl f_8_57 rfl rfl (by decide) rfl ?_
  refine x_iconstN (b := 5) rfl rfl ?_
  refine x_aload_n rfl rfl rfl ?_
  refine x_getR0 rfl rfl f_8_20 rfl (by decide) rfl rfl ?_
  refine x_getIv (v := nI (w + 1)) (by first | rfl | simp [ui, ul]) rfl rfl f_8_57 rfl (by decide) rfl ?_
  refine x_iconstN (b := 1) rfl rfl ?_
  refine x_isubN (a := w + 1) (b := 1) (by omega) rfl rfl ?_
  refine x_i2lN (a := w) (by omega) rfl rfl ?_
  refine x_callSl (d2 := 0) (c_valueOf hG (nI 5) (lN (w))) rfl rfl s_8_68 rfl rfl (Nat.le_of_ble_eq_true rfl) (by omega) (by omega) ?_
  exact x_retL rfl rfl rfl (by omega) rfl rfl
set_option maxHeartbeats 4000000 in
set_option maxRecDepth 20000 in
theorem c_wideX (hG : Gok G) (hd : 6 ≤ d) (b : Int64) (hw : M.1 (1, 0) 3 = nI 40) : Ct G mX8_wide d [.ref (ga G (0, 0)), .long (b)] M (.inr "java/lang/IllegalStateException") M 1 := by
  refine ct_of hG okX8_wide (by decide +kernel) rfl (Nat.le_of_ble_eq_true rfl) ?_
  refine x_aload_n rfl rfl rfl ?_
  refine x_getR0 rfl rfl f_8_20 rfl (by decide) rfl rfl ?_
  refine x_getIv (v := nI 40) hw rfl rfl f_8_57 rfl (by decide) rfl ?_
  refine x_bipush (v := nI 40) rfl rfl (by decide +kernel) ?_
  refine x_icmpN_ne (by omega) (by omega) rfl rfl (fun hc1 => absurd rfl hc1) (fun hc1 => ?_)
  exact x_throw rfl rfl rfl rfl rfl rfl rfl rfl th_8_61_63 (Nat.le_of_ble_eq_true rfl) (by omega) (by omega)
end C6
