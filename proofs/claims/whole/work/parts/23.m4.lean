section D4
variable {G : Gd} {d : Nat} {M : Mm}
set_option maxHeartbeats 4000000 in
set_option maxRecDepth 20000 in
theorem c_mset9 (hG : Gok G) (hd : 3 ≤ d) (v : Int64) {n : Nat} (hn : M.1 (40, 0) 8 = nI n) (hn2 : n ≤ 40) {w : Nat} (hw : M.1 (40, 0) 1 = nI w) (hw2 : w ≤ 40) {i : Nat} (hi : i < n) {il : Nat} (hil : M.1 (48, 0) i = nI il) (hil2 : il ≤ 8) (hkd : M.1 (46, 0) i = nI 9) {j : Nat} (hj : j < il) (hv : isV w n v) : Ct G mX9_set d [.ref (ga G (40, 0)), .int (nI i), .int (nI j), .long (v)] M (.inl none) (ul (ui M (40, 0) 0 (nI 0)) (50, 0) ((8 * i) + j) v) 0 := by
  refine ct_of hG okX9_set (by decide +kernel) rfl (Nat.le_of_ble_eq_true rfl) ?_
  refine x_aload_n rfl rfl rfl ?_
  refine x_iload_n rfl rfl rfl ?_
  refine x_callVi (d2 := 1) (c_mhasItems9 (n := n) hG (Nat.le_refl 1) hn (by omega) (by omega) hkd) rfl rfl v_9_159 rfl rfl (by decide) rfl rfl (Nat.le_of_ble_eq_true rfl) (by omega) (by omega) ?_
  refine x_if_eq rfl rfl (fun hc1 => absurd hc1 (by decide +kernel)) (fun _ => ?_)
  refine x_iload_n rfl rfl rfl ?_
  refine x_ifN_lt (by omega) rfl rfl (fun hc2 => hc2.elim) (fun hc2 => ?_)
  refine x_iload_n rfl rfl rfl ?_
  refine x_aload_n rfl rfl rfl ?_
  refine x_getR0 rfl rfl f_9_33 rfl (by decide) rfl rfl ?_
  refine x_aload_n rfl rfl rfl ?_
  refine x_iload_n rfl rfl rfl ?_
  refine x_callVi (d2 := 1) (c_mhasItems9 (n := n) hG (Nat.le_refl 1) hn (by omega) (by omega) hkd) rfl rfl v_9_159 rfl rfl (by decide) rfl rfl (Nat.le_of_ble_eq_true rfl) (by omega) (by omega) ?_
  refine x_if_eq rfl rfl (fun hc3 => absurd hc3 (by decide +kernel)) (fun _ => ?_)
  refine x_iload_n rfl rfl rfl ?_
  refine x_goto rfl rfl ?_
  refine x_ialdv (a := i) (v := nI il) hil rfl rfl rfl (by decide) (by omega) (by decide) ?_
  refine x_icmpN_ge (by omega) (by omega) rfl rfl (fun hc4 => absurd hc4 (by omega)) (fun hc4 => ?_)
  refine x_aload_n rfl rfl rfl ?_
  refine x_lload_n rfl rfl rfl ?_
  refine x_callVi (d2 := 2) (c_misValue (n := n) (w := w) hG (Nat.le_refl 2) (v) hn hn2 hw hw2) rfl rfl v_9_156 rfl rfl (by decide) rfl rfl (Nat.le_of_ble_eq_true rfl) (by omega) (by omega) ?_
  refine x_ifB_eq rfl rfl (fun hc5 => absurd hv hc5) (fun hc5 => ?_)
  refine x_iconstN (b := 1) rfl rfl ?_
  refine x_goto rfl rfl ?_
  refine x_istore rfl rfl rfl rfl ?_
  refine x_aload_n rfl rfl rfl ?_
  refine x_iload rfl rfl rfl ?_
  refine x_if_eq rfl rfl (fun hc6 => absurd hc6 (by decide +kernel)) (fun _ => ?_)
  refine x_iconstN (b := 0) rfl rfl ?_
  refine x_goto rfl rfl ?_
  refine x_putI rfl rfl f_9_97 rfl rfl (by decide) rfl ?_
  refine x_iload rfl rfl rfl ?_
  refine x_if_eq rfl rfl (fun hc7 => absurd hc7 (by decide +kernel)) (fun _ => ?_)
  refine x_aload_n rfl rfl rfl ?_
  refine x_getR0 rfl rfl f_9_39 rfl (by decide) rfl rfl ?_
  refine x_bipush (v := nI 8) rfl rfl (by decide +kernel) ?_
  refine x_iload_n rfl rfl rfl ?_
  refine x_imulN (a := 8) (b := i) rfl rfl ?_
  refine x_iload_n rfl rfl rfl ?_
  refine x_iaddN (a := 8 * i) (b := j) rfl rfl ?_
  refine x_lload_n rfl rfl rfl ?_
  refine x_last (a := (8 * i) + j) rfl rfl rfl (by decide) (by omega) (by decide) ?_
  exact x_retV rfl rfl rfl (by omega) rfl rfl
set_option maxHeartbeats 4000000 in
set_option maxRecDepth 20000 in
theorem c_mset9V (hG : Gok G) (hd : 3 ≤ d) (v : Int64) {n : Nat} (hn : M.1 (40, 0) 8 = nI n) (hn2 : n ≤ 40) {w : Nat} (hw : M.1 (40, 0) 1 = nI w) (hw2 : w ≤ 40) {i : Nat} (hi : i < n) {il : Nat} (hil : M.1 (48, 0) i = nI il) (hil2 : il ≤ 8) (hkd : M.1 (46, 0) i = nI 9) {j : Nat} (hj : j < il) (hv : ¬ isV w n v) : Ct G mX9_set d [.ref (ga G (40, 0)), .int (nI i), .int (nI j), .long (v)] M (.inl none) (ui M (40, 0) 0 (nI 1)) 0 := by
  refine ct_of hG okX9_set (by decide +kernel) rfl (Nat.le_of_ble_eq_true rfl) ?_
  refine x_aload_n rfl rfl rfl ?_
  refine x_iload_n rfl rfl rfl ?_
  refine x_callVi (d2 := 1) (c_mhasItems9 (n := n) hG (Nat.le_refl 1) hn (by omega) (by omega) hkd) rfl rfl v_9_159 rfl rfl (by decide) rfl rfl (Nat.le_of_ble_eq_true rfl) (by omega) (by omega) ?_
  refine x_if_eq rfl rfl (fun hc1 => absurd hc1 (by decide +kernel)) (fun _ => ?_)
  refine x_iload_n rfl rfl rfl ?_
  refine x_ifN_lt (by omega) rfl rfl (fun hc2 => hc2.elim) (fun hc2 => ?_)
  refine x_iload_n rfl rfl rfl ?_
  refine x_aload_n rfl rfl rfl ?_
  refine x_getR0 rfl rfl f_9_33 rfl (by decide) rfl rfl ?_
  refine x_aload_n rfl rfl rfl ?_
  refine x_iload_n rfl rfl rfl ?_
  refine x_callVi (d2 := 1) (c_mhasItems9 (n := n) hG (Nat.le_refl 1) hn (by omega) (by omega) hkd) rfl rfl v_9_159 rfl rfl (by decide) rfl rfl (Nat.le_of_ble_eq_true rfl) (by omega) (by omega) ?_
  refine x_if_eq rfl rfl (fun hc3 => absurd hc3 (by decide +kernel)) (fun _ => ?_)
  refine x_iload_n rfl rfl rfl ?_
  refine x_goto rfl rfl ?_
  refine x_ialdv (a := i) (v := nI il) hil rfl rfl rfl (by decide) (by omega) (by decide) ?_
  refine x_icmpN_ge (by omega) (by omega) rfl rfl (fun hc4 => absurd hc4 (by omega)) (fun hc4 => ?_)
  refine x_aload_n rfl rfl rfl ?_
  refine x_lload_n rfl rfl rfl ?_
  refine x_callVi (d2 := 2) (c_misValue (n := n) (w := w) hG (Nat.le_refl 2) (v) hn hn2 hw hw2) rfl rfl v_9_156 rfl rfl (by decide) rfl rfl (Nat.le_of_ble_eq_true rfl) (by omega) (by omega) ?_
  refine x_ifB_eq rfl rfl (fun hc5 => ?_) (fun hc5 => absurd hc5 hv)
  refine x_iconstN (b := 0) rfl rfl ?_
  refine x_istore rfl rfl rfl rfl ?_
  refine x_aload_n rfl rfl rfl ?_
  refine x_iload rfl rfl rfl ?_
  refine x_if_eq rfl rfl (fun _ => ?_) (fun hc6 => absurd hc6 (by decide +kernel))
  refine x_iconstN (b := 1) rfl rfl ?_
  refine x_putI rfl rfl f_9_97 rfl rfl (by decide) rfl ?_
  refine x_iload rfl rfl rfl ?_
  refine x_if_eq rfl rfl (fun _ => ?_) (fun hc7 => absurd hc7 (by decide +kernel))
  exact x_retV rfl rfl rfl (by omega) rfl rfl
set_option maxHeartbeats 4000000 in
set_option maxRecDepth 20000 in
theorem c_mset9O (hG : Gok G) (hd : 3 ≤ d) (v : Int64) {n : Nat} (hn : M.1 (40, 0) 8 = nI n) (hn2 : n ≤ 40) {i : Nat} (hi : i < n) {il : Nat} (hil : M.1 (48, 0) i = nI il) (hil2 : il ≤ 8) (hkd : M.1 (46, 0) i = nI 9) {j : Nat} (hj : il ≤ j) (hj2 : j < 2 ^ 31) : Ct G mX9_set d [.ref (ga G (40, 0)), .int (nI i), .int (nI j), .long (v)] M (.inl none) (ui M (40, 0) 0 (nI 1)) 0 := by
  refine ct_of hG okX9_set (by decide +kernel) rfl (Nat.le_of_ble_eq_true rfl) ?_
  refine x_aload_n rfl rfl rfl ?_
  refine x_iload_n rfl rfl rfl ?_
  refine x_callVi (d2 := 1) (c_mhasItems9 (n := n) hG (Nat.le_refl 1) hn (by omega) (by omega) hkd) rfl rfl v_9_159 rfl rfl (by decide) rfl rfl (Nat.le_of_ble_eq_true rfl) (by omega) (by omega) ?_
  refine x_if_eq rfl rfl (fun hc1 => absurd hc1 (by decide +kernel)) (fun _ => ?_)
  refine x_iload_n rfl rfl rfl ?_
  refine x_ifN_lt (by omega) rfl rfl (fun hc2 => hc2.elim) (fun hc2 => ?_)
  refine x_iload_n rfl rfl rfl ?_
  refine x_aload_n rfl rfl rfl ?_
  refine x_getR0 rfl rfl f_9_33 rfl (by decide) rfl rfl ?_
  refine x_aload_n rfl rfl rfl ?_
  refine x_iload_n rfl rfl rfl ?_
  refine x_callVi (d2 := 1) (c_mhasItems9 (n := n) hG (Nat.le_refl 1) hn (by omega) (by omega) hkd) rfl rfl v_9_159 rfl rfl (by decide) rfl rfl (Nat.le_of_ble_eq_true rfl) (by omega) (by omega) ?_
  refine x_if_eq rfl rfl (fun hc3 => absurd hc3 (by decide +kernel)) (fun _ => ?_)
  refine x_iload_n rfl rfl rfl ?_
  refine x_goto rfl rfl ?_
  refine x_ialdv (a := i) (v := nI il) hil rfl rfl rfl (by decide) (by omega) (by decide) ?_
  refine x_icmpN_ge (by omega) (by omega) rfl rfl (fun hc4 => ?_) (fun hc4 => absurd hc4 (by omega))
  refine x_iconstN (b := 0) rfl rfl ?_
  refine x_istore rfl rfl rfl rfl ?_
  refine x_aload_n rfl rfl rfl ?_
  refine x_iload rfl rfl rfl ?_
  refine x_if_eq rfl rfl (fun _ => ?_) (fun hc5 => absurd hc5 (by decide +kernel))
  refine x_iconstN (b := 1) rfl rfl ?_
  refine x_putI rfl rfl f_9_97 rfl rfl (by decide) rfl ?_
  refine x_iload rfl rfl rfl ?_
  refine x_if_eq rfl rfl (fun _ => ?_) (fun hc6 => absurd hc6 (by decide +kernel))
  exact x_retV rfl rfl rfl (by omega) rfl rfl
set_option maxHeartbeats 4000000 in
set_option maxRecDepth 20000 in
theorem c_mset9N (hG : Gok G) (hd : 3 ≤ d) (v : Int64) {n : Nat} (hn : M.1 (40, 0) 8 = nI n) (hn2 : n ≤ 40) {i : Nat} (hi : i < n) (hkd : M.1 (46, 0) i = nI 9) {j : Int32} (hj : j < 0) : Ct G mX9_set d [.ref (ga G (40, 0)), .int (nI i), .int (j), .long (v)] M (.inl none) (ui M (40, 0) 0 (nI 1)) 0 := by
  refine ct_of hG okX9_set (by decide +kernel) rfl (Nat.le_of_ble_eq_true rfl) ?_
  refine x_aload_n rfl rfl rfl ?_
  refine x_iload_n rfl rfl rfl ?_
  refine x_callVi (d2 := 1) (c_mhasItems9 (n := n) hG (Nat.le_refl 1) hn (by omega) (by omega) hkd) rfl rfl v_9_159 rfl rfl (by decide) rfl rfl (Nat.le_of_ble_eq_true rfl) (by omega) (by omega) ?_
  refine x_if_eq rfl rfl (fun hc1 => absurd hc1 (by decide +kernel)) (fun _ => ?_)
  refine x_iload_n rfl rfl rfl ?_
  refine x_if_lt rfl rfl (fun hc2 => ?_) (fun hc2 => absurd hj hc2)
  refine x_iconstN (b := 0) rfl rfl ?_
  refine x_istore rfl rfl rfl rfl ?_
  refine x_aload_n rfl rfl rfl ?_
  refine x_iload rfl rfl rfl ?_
  refine x_if_eq rfl rfl (fun _ => ?_) (fun hc3 => absurd hc3 (by decide +kernel))
  refine x_iconstN (b := 1) rfl rfl ?_
  refine x_putI rfl rfl f_9_97 rfl rfl (by decide) rfl ?_
  refine x_iload rfl rfl rfl ?_
  refine x_if_eq rfl rfl (fun _ => ?_) (fun hc4 => absurd hc4 (by decide +kernel))
  exact x_retV rfl rfl rfl (by omega) rfl rfl
set_option maxHeartbeats 4000000 in
set_option maxRecDepth 20000 in
theorem c_mset10 (hG : Gok G) (hd : 3 ≤ d) (v : Int64) {n : Nat} (hn : M.1 (40, 0) 8 = nI n) (hn2 : n ≤ 40) {w : Nat} (hw : M.1 (40, 0) 1 = nI w) (hw2 : w ≤ 40) {i : Nat} (hi : i < n) {il : Nat} (hil : M.1 (48, 0) i = nI il) (hil2 : il ≤ 8) (hkd : M.1 (46, 0) i = nI 10) {j : Nat} (hj : j < il) (hv : isV w n v) : Ct G mX9_set d [.ref (ga G (40, 0)), .int (nI i), .int (nI j), .long (v)] M (.inl none) (ul (ui M (40, 0) 0 (nI 0)) (50, 0) ((8 * i) + j) v) 0 := by
  refine ct_of hG okX9_set (by decide +kernel) rfl (Nat.le_of_ble_eq_true rfl) ?_
  refine x_aload_n rfl rfl rfl ?_
  refine x_iload_n rfl rfl rfl ?_
  refine x_callVi (d2 := 1) (c_mhasItems10 (n := n) hG (Nat.le_refl 1) hn (by omega) (by omega) hkd) rfl rfl v_9_159 rfl rfl (by decide) rfl rfl (Nat.le_of_ble_eq_true rfl) (by omega) (by omega) ?_
  refine x_if_eq rfl rfl (fun hc1 => absurd hc1 (by decide +kernel)) (fun _ => ?_)
  refine x_iload_n rfl rfl rfl ?_
  refine x_ifN_lt (by omega) rfl rfl (fun hc2 => hc2.elim) (fun hc2 => ?_)
  refine x_iload_n rfl rfl rfl ?_
  refine x_aload_n rfl rfl rfl ?_
  refine x_getR0 rfl rfl f_9_33 rfl (by decide) rfl rfl ?_
  refine x_aload_n rfl rfl rfl ?_
  refine x_iload_n rfl rfl rfl ?_
  refine x_callVi (d2 := 1) (c_mhasItems10 (n := n) hG (Nat.le_refl 1) hn (by omega) (by omega) hkd) rfl rfl v_9_159 rfl rfl (by decide) rfl rfl (Nat.le_of_ble_eq_true rfl) (by omega) (by omega) ?_
  refine x_if_eq rfl rfl (fun hc3 => absurd hc3 (by decide +kernel)) (fun _ => ?_)
  refine x_iload_n rfl rfl rfl ?_
  refine x_goto rfl rfl ?_
  refine x_ialdv (a := i) (v := nI il) hil rfl rfl rfl (by decide) (by omega) (by decide) ?_
  refine x_icmpN_ge (by omega) (by omega) rfl rfl (fun hc4 => absurd hc4 (by omega)) (fun hc4 => ?_)
  refine x_aload_n rfl rfl rfl ?_
  refine x_lload_n rfl rfl rfl ?_
  refine x_callVi (d2 := 2) (c_misValue (n := n) (w := w) hG (Nat.le_refl 2) (v) hn hn2 hw hw2) rfl rfl v_9_156 rfl rfl (by decide) rfl rfl (Nat.le_of_ble_eq_true rfl) (by omega) (by omega) ?_
  refine x_ifB_eq rfl rfl (fun hc5 => absurd hv hc5) (fun hc5 => ?_)
  refine x_iconstN (b := 1) rfl rfl ?_
  refine x_goto rfl rfl ?_
  refine x_istore rfl rfl rfl rfl ?_
  refine x_aload_n rfl rfl rfl ?_
  refine x_iload rfl rfl rfl ?_
  refine x_if_eq rfl rfl (fun hc6 => absurd hc6 (by decide +kernel)) (fun _ => ?_)
  refine x_iconstN (b := 0) rfl rfl ?_
  refine x_goto rfl rfl ?_
  refine x_putI rfl rfl f_9_97 rfl rfl (by decide) rfl ?_
  refine x_iload rfl rfl rfl ?_
  refine x_if_eq rfl rfl (fun hc7 => absurd hc7 (by decide +kernel)) (fun _ => ?_)
  refine x_aload_n rfl rfl rfl ?_
  refine x_getR0 rfl rfl f_9_39 rfl (by decide) rfl rfl ?_
  refine x_bipush (v := nI 8) rfl rfl (by decide +kernel) ?_
  refine x_iload_n rfl rfl rfl ?_
  refine x_imulN (a := 8) (b := i) rfl rfl ?_
  refine x_iload_n rfl rfl rfl ?_
  refine x_iaddN (a := 8 * i) (b := j) rfl rfl ?_
  refine x_lload_n rfl rfl rfl ?_
  refine x_last (a := (8 * i) + j) rfl rfl rfl (by decide) (by omega) (by decide) ?_
  exact x_retV rfl rfl rfl (by omega) rfl rfl
set_option maxHeartbeats 4000000 in
set_option maxRecDepth 20000 in
theorem c_mset10V (hG : Gok G) (hd : 3 ≤ d) (v : Int64) {n : Nat} (hn : M.1 (40, 0) 8 = nI n) (hn2 : n ≤ 40) {w : Nat} (hw : M.1 (40, 0) 1 = nI w) (hw2 : w ≤ 40) {i : Nat} (hi : i < n) {il : Nat} (hil : M.1 (48, 0) i = nI il) (hil2 : il ≤ 8) (hkd : M.1 (46, 0) i = nI 10) {j : Nat} (hj : j < il) (hv : ¬ isV w n v) : Ct G mX9_set d [.ref (ga G (40, 0)), .int (nI i), .int (nI j), .long (v)] M (.inl none) (ui M (40, 0) 0 (nI 1)) 0 := by
  refine ct_of hG okX9_set (by decide +kernel) rfl (Nat.le_of_ble_eq_true rfl) ?_
  refine x_aload_n rfl rfl rfl ?_
  refine x_iload_n rfl rfl rfl ?_
  refine x_callVi (d2 := 1) (c_mhasItems10 (n := n) hG (Nat.le_refl 1) hn (by omega) (by omega) hkd) rfl rfl v_9_159 rfl rfl (by decide) rfl rfl (Nat.le_of_ble_eq_true rfl) (by omega) (by omega) ?_
  refine x_if_eq rfl rfl (fun hc1 => absurd hc1 (by decide +kernel)) (fun _ => ?_)
  refine x_iload_n rfl rfl rfl ?_
  refine x_ifN_lt (by omega) rfl rfl (fun hc2 => hc2.elim) (fun hc2 => ?_)
  refine x_iload_n rfl rfl rfl ?_
  refine x_aload_n rfl rfl rfl ?_
  refine x_getR0 rfl rfl f_9_33 rfl (by decide) rfl rfl ?_
  refine x_aload_n rfl rfl rfl ?_
  refine x_iload_n rfl rfl rfl ?_
  refine x_callVi (d2 := 1) (c_mhasItems10 (n := n) hG (Nat.le_refl 1) hn (by omega) (by omega) hkd) rfl rfl v_9_159 rfl rfl (by decide) rfl rfl (Nat.le_of_ble_eq_true rfl) (by omega) (by omega) ?_
  refine x_if_eq rfl rfl (fun hc3 => absurd hc3 (by decide +kernel)) (fun _ => ?_)
  refine x_iload_n rfl rfl rfl ?_
  refine x_goto rfl rfl ?_
  refine x_ialdv (a := i) (v := nI il) hil rfl rfl rfl (by decide) (by omega) (by decide) ?_
  refine x_icmpN_ge (by omega) (by omega) rfl rfl (fun hc4 => absurd hc4 (by omega)) (fun hc4 => ?_)
  refine x_aload_n rfl rfl rfl ?_
  refine x_lload_n rfl rfl rfl ?_
  refine x_callVi (d2 := 2) (c_misValue (n := n) (w := w) hG (Nat.le_refl 2) (v) hn hn2 hw hw2) rfl rfl v_9_156 rfl rfl (by decide) rfl rfl (Nat.le_of_ble_eq_true rfl) (by omega) (by omega) ?_
  refine x_ifB_eq rfl rfl (fun hc5 => ?_) (fun hc5 => absurd hc5 hv)
  refine x_iconstN (b := 0) rfl rfl ?_
  refine x_istore rfl rfl rfl rfl ?_
  refine x_aload_n rfl rfl rfl ?_
  refine x_iload rfl rfl rfl ?_
  refine x_if_eq rfl rfl (fun _ => ?_) (fun hc6 => absurd hc6 (by decide +kernel))
  refine x_iconstN (b := 1) rfl rfl ?_
  refine x_putI rfl rfl f_9_97 rfl rfl (by decide) rfl ?_
  refine x_iload rfl rfl rfl ?_
  refine x_if_eq rfl rfl (fun _ => ?_) (fun hc7 => absurd hc7 (by decide +kernel))
  exact x_retV rfl rfl rfl (by omega) rfl rfl
set_option maxHeartbeats 4000000 in
set_option maxRecDepth 20000 in
theorem c_mset10O (hG : Gok G) (hd : 3 ≤ d) (v : Int64) {n : Nat} (hn : M.1 (40, 0) 8 = nI n) (hn2 : n ≤ 40) {i : Nat} (hi : i < n) {il : Nat} (hil : M.1 (48, 0) i = nI il) (hil2 : il ≤ 8) (hkd : M.1 (46, 0) i = nI 10) {j : Nat} (hj : il ≤ j) (hj2 : j < 2 ^ 31) : Ct G mX9_set d [.ref (ga G (40, 0)), .int (nI i), .int (nI j), .long (v)] M (.inl none) (ui M (40, 0) 0 (nI 1)) 0 := by
  refine ct_of hG okX9_set (by decide +kernel) rfl (Nat.le_of_ble_eq_true rfl) ?_
  refine x_aload_n rfl rfl rfl ?_
  refine x_iload_n rfl rfl rfl ?_
  refine x_callVi (d2 := 1) (c_mhasItems10 (n := n) hG (Nat.le_refl 1) hn (by omega) (by omega) hkd) rfl rfl v_9_159 rfl rfl (by decide) rfl rfl (Nat.le_of_ble_eq_true rfl) (by omega) (by omega) ?_
  refine x_if_eq rfl rfl (fun hc1 => absurd hc1 (by decide +kernel)) (fun _ => ?_)
  refine x_iload_n rfl rfl rfl ?_
  refine x_ifN_lt (by omega) rfl rfl (fun hc2 => hc2.elim) (fun hc2 => ?_)
  refine x_iload_n rfl rfl rfl ?_
  refine x_aload_n rfl rfl rfl ?_
  refine x_getR0 rfl rfl f_9_33 rfl (by decide) rfl rfl ?_
  refine x_aload_n rfl rfl rfl ?_
  refine x_iload_n rfl rfl rfl ?_
  refine x_callVi (d2 := 1) (c_mhasItems10 (n := n) hG (Nat.le_refl 1) hn (by omega) (by omega) hkd) rfl rfl v_9_159 rfl rfl (by decide) rfl rfl (Nat.le_of_ble_eq_true rfl) (by omega) (by omega) ?_
  refine x_if_eq rfl rfl (fun hc3 => absurd hc3 (by decide +kernel)) (fun _ => ?_)
  refine x_iload_n rfl rfl rfl ?_
  refine x_goto rfl rfl ?_
  refine x_ialdv (a := i) (v := nI il) hil rfl rfl rfl (by decide) (by omega) (by decide) ?_
  refine x_icmpN_ge (by omega) (by omega) rfl rfl (fun hc4 => ?_) (fun hc4 => absurd hc4 (by omega))
  refine x_iconstN (b := 0) rfl rfl ?_
  refine x_istore rfl rfl rfl rfl ?_
  refine x_aload_n rfl rfl rfl ?_
  refine x_iload rfl rfl rfl ?_
  refine x_if_eq rfl rfl (fun _ => ?_) (fun hc5 => absurd hc5 (by decide +kernel))
  refine x_iconstN (b := 1) rfl rfl ?_
  refine x_putI rfl rfl f_9_97 rfl rfl (by decide) rfl ?_
  refine x_iload rfl rfl rfl ?_
  refine x_if_eq rfl rfl (fun _ => ?_) (fun hc6 => absurd hc6 (by decide +kernel))
  exact x_retV rfl rfl rfl (by omega) rfl rfl
set_option maxHeartbeats 4000000 in
set_option maxRecDepth 20000 in
theorem c_mset10N (hG : Gok G) (hd : 3 ≤ d) (v : Int64) {n : Nat} (hn : M.1 (40, 0) 8 = nI n) (hn2 : n ≤ 40) {i : Nat} (hi : i < n) (hkd : M.1 (46, 0) i = nI 10) {j : Int32} (hj : j < 0) : Ct G mX9_set d [.ref (ga G (40, 0)), .int (nI i), .int (j), .long (v)] M (.inl none) (ui M (40, 0) 0 (nI 1)) 0 := by
  refine ct_of hG okX9_set (by decide +kernel) rfl (Nat.le_of_ble_eq_true rfl) ?_
  refine x_aload_n rfl rfl rfl ?_
  refine x_iload_n rfl rfl rfl ?_
  refine x_callVi (d2 := 1) (c_mhasItems10 (n := n) hG (Nat.le_refl 1) hn (by omega) (by omega) hkd) rfl rfl v_9_159 rfl rfl (by decide) rfl rfl (Nat.le_of_ble_eq_true rfl) (by omega) (by omega) ?_
  refine x_if_eq rfl rfl (fun hc1 => absurd hc1 (by decide +kernel)) (fun _ => ?_)
  refine x_iload_n rfl rfl rfl ?_
  refine x_if_lt rfl rfl (fun hc2 => ?_) (fun hc2 => absurd hj hc2)
  refine x_iconstN (b := 0) rfl rfl ?_
  refine x_istore rfl rfl rfl rfl ?_
  refine x_aload_n rfl rfl rfl ?_
  refine x_iload rfl rfl rfl ?_
  refine x_if_eq rfl rfl (fun _ => ?_) (fun hc3 => absurd hc3 (by decide +kernel))
  refine x_iconstN (b := 1) rfl rfl ?_
  refine x_putI rfl rfl f_9_97 rfl rfl (by decide) rfl ?_
  refine x_iload rfl rfl rfl ?_
  refine x_if_eq rfl rfl (fun _ => ?_) (fun hc4 => absurd hc4 (by decide +kernel))
  exact x_retV rfl rfl rfl (by omega) rfl rfl
set_option maxHeartbeats 4000000 in
set_option maxRecDepth 20000 in
theorem c_msetK (hG : Gok G) (hd : 3 ≤ d) (v : Int64) {n : Nat} (hn : M.1 (40, 0) 8 = nI n) (hn2 : n ≤ 40) {i : Nat} (hi : i < n) {kd : Nat} (hkd : M.1 (46, 0) i = nI kd) (hkd2 : kd < 16) (h9 : kd ≠ 9) (h10 : kd ≠ 10) (j : Int32) : Ct G mX9_set d [.ref (ga G (40, 0)), .int (nI i), .int (j), .long (v)] M (.inl none) (ui M (40, 0) 0 (nI 1)) 0 := by
  refine ct_of hG okX9_set (by decide +kernel) rfl (Nat.le_of_ble_eq_true rfl) ?_
  refine x_aload_n rfl rfl rfl ?_
  refine x_iload_n rfl rfl rfl ?_
  refine x_callVi (d2 := 1) (c_mhasItemsK (n := n) hG (Nat.le_refl 1) hn (by omega) (by omega) hkd hkd2 h9 h10) rfl rfl v_9_159 rfl rfl (by decide) rfl rfl (Nat.le_of_ble_eq_true rfl) (by omega) (by omega) ?_
  refine x_if_eq rfl rfl (fun _ => ?_) (fun hc1 => absurd hc1 (by decide +kernel))
  refine x_iconstN (b := 0) rfl rfl ?_
  refine x_istore rfl rfl rfl rfl ?_
  refine x_aload_n rfl rfl rfl ?_
  refine x_iload rfl rfl rfl ?_
  refine x_if_eq rfl rfl (fun _ => ?_) (fun hc2 => absurd hc2 (by decide +kernel))
  refine x_iconstN (b := 1) rfl rfl ?_
  refine x_putI rfl rfl f_9_97 rfl rfl (by decide) rfl ?_
  refine x_iload rfl rfl rfl ?_
  refine x_if_eq rfl rfl (fun _ => ?_) (fun hc3 => absurd hc3 (by decide +kernel))
  exact x_retV rfl rfl rfl (by omega) rfl rfl
set_option maxHeartbeats 4000000 in
set_option maxRecDepth 20000 in
theorem c_msetT (hG : Gok G) (hd : 3 ≤ d) (v : Int64) {n : Nat} (hn : M.1 (40, 0) 8 = nI n) (hn2 : n ≤ 40) {th : Int32} (ho : ∀ i, i < n → th ≠ nI i) (j : Int32) : Ct G mX9_set d [.ref (ga G (40, 0)), .int (th), .int (j), .long (v)] M (.inl none) (ui M (40, 0) 0 (nI 1)) 0 := by
  refine ct_of hG okX9_set (by decide +kernel) rfl (Nat.le_of_ble_eq_true rfl) ?_
  refine x_aload_n rfl rfl rfl ?_
  refine x_iload_n rfl rfl rfl ?_
  refine x_callVi (d2 := 1) (c_mhasItemsO (n := n) hG (Nat.le_refl 1) hn (by omega) ho) rfl rfl v_9_159 rfl rfl (by decide) rfl rfl (Nat.le_of_ble_eq_true rfl) (by omega) (by omega) ?_
  refine x_if_eq rfl rfl (fun _ => ?_) (fun hc1 => absurd hc1 (by decide +kernel))
  refine x_iconstN (b := 0) rfl rfl ?_
  refine x_istore rfl rfl rfl rfl ?_
  refine x_aload_n rfl rfl rfl ?_
  refine x_iload rfl rfl rfl ?_
  refine x_if_eq rfl rfl (fun _ => ?_) (fun hc2 => absurd hc2 (by decide +kernel))
  refine x_iconstN (b := 1) rfl rfl ?_
  refine x_putI rfl rfl f_9_97 rfl rfl (by decide) rfl ?_
  refine x_iload rfl rfl rfl ?_
  refine x_if_eq rfl rfl (fun _ => ?_) (fun hc3 => absurd hc3 (by decide +kernel))
  exact x_retV rfl rfl rfl (by omega) rfl rfl
set_option maxHeartbeats 4000000 in
set_option maxRecDepth 20000 in
theorem c_mput9R (hG : Gok G) (hd : 3 ≤ d) (e v : Int64) {n : Nat} (hn : M.1 (40, 0) 8 = nI n) (hn2 : n ≤ 40) {w : Nat} (hw : M.1 (40, 0) 1 = nI w) (hw2 : w ≤ 40) {i : Nat} (hi : i < n) (hkd : M.1 (46, 0) i = nI 9) {kl : Nat} (hkl : M.1 (51, 0) i = nI kl) (hkl2 : kl ≤ 6) (hp : e ≠ 0 ∧ isTx e ∧ isV w n v) {j : Nat} (hf : lxf (fun j => M.2 (52, 0) ((6 * i) + j)) e none 0 kl = some j) (hj : j < kl) : Ct G mX9_put d [.ref (ga G (40, 0)), .int (nI i), .long (e), .long (v)] M (.inl (some (.int (nI kl)))) (ul (ui M (40, 0) 0 (nI 0)) (53, 0) ((6 * i) + j) v) 0 := by
  refine ct_of hG okX9_put (by decide +kernel) rfl (Nat.le_of_ble_eq_true rfl) ?_
  refine x_aload_n rfl rfl rfl ?_
  refine x_iload_n rfl rfl rfl ?_
  refine x_callVi (d2 := 1) (c_mhasPairs9 (n := n) hG (Nat.le_refl 1) hn (by omega) (by omega) hkd) rfl rfl v_9_162 rfl rfl (by decide) rfl rfl (Nat.le_of_ble_eq_true rfl) (by omega) (by omega) ?_
  refine x_if_eq rfl rfl (fun hc1 => absurd hc1 (by decide +kernel)) (fun _ => ?_)
  refine x_lload_n rfl rfl rfl ?_
  refine x_lconst (v := 0) rfl rfl (by decide +kernel) ?_
  refine x_lc_eq rfl rfl rfl rfl (fun hc2 => absurd hc2 hp.1) (fun hc2 => ?_)
  refine x_lload_n rfl rfl rfl ?_
  refine x_callSi (d2 := 1) (c_misText hG (Nat.le_refl 1) (e)) rfl rfl s_9_117 rfl rfl (Nat.le_of_ble_eq_true rfl) (by omega) (by omega) ?_
  refine x_ifB_eq rfl rfl (fun hc3 => absurd hp.2.1 hc3) (fun hc3 => ?_)
  refine x_aload_n rfl rfl rfl ?_
  refine x_lload rfl rfl rfl ?_
  refine x_callVi (d2 := 2) (c_misValue (n := n) (w := w) hG (Nat.le_refl 2) (v) hn hn2 hw hw2) rfl rfl v_9_156 rfl rfl (by decide) rfl rfl (Nat.le_of_ble_eq_true rfl) (by omega) (by omega) ?_
  refine x_ifB_eq rfl rfl (fun hc4 => absurd hp.2.2 hc4) (fun hc4 => ?_)
  refine x_iconstN (b := 1) rfl rfl ?_
  refine x_goto rfl rfl ?_
  refine x_istore rfl rfl rfl rfl ?_
  refine x_iload rfl rfl rfl ?_
  refine x_if_eq rfl rfl (fun hc5 => absurd hc5 (by decide +kernel)) (fun _ => ?_)
  refine x_aload_n rfl rfl rfl ?_
  refine x_iload rfl rfl rfl ?_
  refine x_if_eq rfl rfl (fun hc6 => absurd hc6 (by decide +kernel)) (fun _ => ?_)
  refine x_iload_n rfl rfl rfl ?_
  refine x_goto rfl rfl ?_
  refine x_lload_n rfl rfl rfl ?_
  refine x_callVi (d2 := 0) (c_misMemberK (kd := 9) hG (e) (by omega) hkd (by omega) (by omega)) rfl rfl v_9_165 rfl rfl (by decide) rfl rfl (Nat.le_of_ble_eq_true rfl) (by omega) (by omega) ?_
  refine x_if_ne rfl rfl (fun hc7 => absurd hc7 (by decide +kernel)) (fun _ => ?_)
  refine x_iconstN (b := 1) rfl rfl ?_
  refine x_goto rfl rfl ?_
  refine x_istore rfl rfl rfl rfl ?_
  refine x_iload rfl rfl rfl ?_
  refine x_if_eq rfl rfl (fun hc8 => absurd hc8 (by decide +kernel)) (fun _ => ?_)
  refine x_aload_n rfl rfl rfl ?_
  refine x_iload_n rfl rfl rfl ?_
  refine x_lload_n rfl rfl rfl ?_
  refine x_callVi (d2 := 0) (c_mpairAt hG (e) (by omega) (by omega) hkl) rfl rfl v_9_169 rfl rfl (by decide) rfl rfl (Nat.le_of_ble_eq_true rfl) (by omega) (by omega) ?_
  refine x_topI (v := nI j) (by rw [hf] <;> rfl) ?_
  refine x_goto rfl rfl ?_
  refine x_istore rfl rfl rfl rfl ?_
  refine x_aload_n rfl rfl rfl ?_
  refine x_iload rfl rfl rfl ?_
  refine x_if_ne rfl rfl (fun _ => ?_) (fun hc9 => absurd hc9 (by decide +kernel))
  refine x_iload rfl rfl rfl ?_
  refine x_iconst (v := -1) rfl rfl (by decide +kernel) ?_
  refine x_icmp_ne rfl rfl (fun hc10 => ?_) (fun hc10 => absurd hc10 (nIm1 (by omega)))
  refine x_iconstN (b := 0) rfl rfl ?_
  refine x_putI rfl rfl f_9_97 rfl rfl (by decide) rfl ?_
  refine x_aload_n rfl rfl rfl ?_
  refine x_getIv (v := nI 0) (by first | rfl | simp [ui, ul]) rfl rfl f_9_97 rfl (by decide) rfl ?_
  refine x_if_le rfl rfl (fun _ => ?_) (fun hc11 => absurd hc11 (by decide +kernel))
  refine x_iload rfl rfl rfl ?_
  refine x_iconst (v := -1) rfl rfl (by decide +kernel) ?_
  refine x_icmp_ne rfl rfl (fun hc12 => ?_) (fun hc12 => absurd hc12 (nIm1 (by omega)))
  refine x_aload_n rfl rfl rfl ?_
  refine x_getR0 rfl rfl f_9_48 rfl (by decide) rfl rfl ?_
  refine x_bipush (v := nI 6) rfl rfl (by decide +kernel) ?_
  refine x_iload_n rfl rfl rfl ?_
  refine x_imulN (a := 6) (b := i) rfl rfl ?_
  refine x_iload rfl rfl rfl ?_
  refine x_iaddN (a := 6 * i) (b := j) rfl rfl ?_
  refine x_lload rfl rfl rfl ?_
  refine x_last (a := (6 * i) + j) rfl rfl rfl (by decide) (by omega) (by decide) ?_
  refine x_aload_n rfl rfl rfl ?_
  refine x_getR0 rfl rfl f_9_42 rfl (by decide) rfl rfl ?_
  refine x_iload_n rfl rfl rfl ?_
  refine x_ialdv (a := i) (v := nI kl) (by first | exact hkl | (rw [← hkl]; rfl) | simp [ui, ul, hkl]) rfl rfl rfl (by decide) (by omega) (by decide) ?_
  exact x_retI rfl rfl rfl (by omega) rfl rfl
set_option maxHeartbeats 4000000 in
set_option maxRecDepth 20000 in
theorem c_mput9A (hG : Gok G) (hd : 3 ≤ d) (e v : Int64) {n : Nat} (hn : M.1 (40, 0) 8 = nI n) (hn2 : n ≤ 40) {w : Nat} (hw : M.1 (40, 0) 1 = nI w) (hw2 : w ≤ 40) {i : Nat} (hi : i < n) (hkd : M.1 (46, 0) i = nI 9) {kl : Nat} (hkl : M.1 (51, 0) i = nI kl) (hkl2 : kl < 6) (hp : e ≠ 0 ∧ isTx e ∧ isV w n v) (hf : lxf (fun j => M.2 (52, 0) ((6 * i) + j)) e none 0 kl = none) : Ct G mX9_put d [.ref (ga G (40, 0)), .int (nI i), .long (e), .long (v)] M (.inl (some (.int (nI (kl + 1))))) (ul (ui (ul (ui M (40, 0) 0 (nI 0)) (52, 0) ((6 * i) + kl) e) (51, 0) i (nI (kl + 1))) (53, 0) ((6 * i) + kl) v) 0 := by
  refine ct_of hG okX9_put (by decide +kernel) rfl (Nat.le_of_ble_eq_true rfl) ?_
  refine x_aload_n rfl rfl rfl ?_
  refine x_iload_n rfl rfl rfl ?_
  refine x_callVi (d2 := 1) (c_mhasPairs9 (n := n) hG (Nat.le_refl 1) hn (by omega) (by omega) hkd) rfl rfl v_9_162 rfl rfl (by decide) rfl rfl (Nat.le_of_ble_eq_true rfl) (by omega) (by omega) ?_
  refine x_if_eq rfl rfl (fun hc1 => absurd hc1 (by decide +kernel)) (fun _ => ?_)
  refine x_lload_n rfl rfl rfl ?_
  refine x_lconst (v := 0) rfl rfl (by decide +kernel) ?_
  refine x_lc_eq rfl rfl rfl rfl (fun hc2 => absurd hc2 hp.1) (fun hc2 => ?_)
  refine x_lload_n rfl rfl rfl ?_
  refine x_callSi (d2 := 1) (c_misText hG (Nat.le_refl 1) (e)) rfl rfl s_9_117 rfl rfl (Nat.le_of_ble_eq_true rfl) (by omega) (by omega) ?_
  refine x_ifB_eq rfl rfl (fun hc3 => absurd hp.2.1 hc3) (fun hc3 => ?_)
  refine x_aload_n rfl rfl rfl ?_
  refine x_lload rfl rfl rfl ?_
  refine x_callVi (d2 := 2) (c_misValue (n := n) (w := w) hG (Nat.le_refl 2) (v) hn hn2 hw hw2) rfl rfl v_9_156 rfl rfl (by decide) rfl rfl (Nat.le_of_ble_eq_true rfl) (by omega) (by omega) ?_
  refine x_ifB_eq rfl rfl (fun hc4 => absurd hp.2.2 hc4) (fun hc4 => ?_)
  refine x_iconstN (b := 1) rfl rfl ?_
  refine x_goto rfl rfl ?_
  refine x_istore rfl rfl rfl rfl ?_
  refine x_iload rfl rfl rfl ?_
  refine x_if_eq rfl rfl (fun hc5 => absurd hc5 (by decide +kernel)) (fun _ => ?_)
  refine x_aload_n rfl rfl rfl ?_
  refine x_iload rfl rfl rfl ?_
  refine x_if_eq rfl rfl (fun hc6 => absurd hc6 (by decide +kernel)) (fun _ => ?_)
  refine x_iload_n rfl rfl rfl ?_
  refine x_goto rfl rfl ?_
  refine x_lload_n rfl rfl rfl ?_
  refine x_callVi (d2 := 0) (c_misMemberK (kd := 9) hG (e) (by omega) hkd (by omega) (by omega)) rfl rfl v_9_165 rfl rfl (by decide) rfl rfl (Nat.le_of_ble_eq_true rfl) (by omega) (by omega) ?_
  refine x_if_ne rfl rfl (fun hc7 => absurd hc7 (by decide +kernel)) (fun _ => ?_)
  refine x_iconstN (b := 1) rfl rfl ?_
  refine x_goto rfl rfl ?_
  refine x_istore rfl rfl rfl rfl ?_
  refine x_iload rfl rfl rfl ?_
  refine x_if_eq rfl rfl (fun hc8 => absurd hc8 (by decide +kernel)) (fun _ => ?_)
  refine x_aload_n rfl rfl rfl ?_
  refine x_iload_n rfl rfl rfl ?_
  refine x_lload_n rfl rfl rfl ?_
  refine x_callVi (d2 := 0) (c_mpairAt hG (e) (by omega) (by omega) hkl) rfl rfl v_9_169 rfl rfl (by decide) rfl rfl (Nat.le_of_ble_eq_true rfl) (by omega) (by omega) ?_
  refine x_topI (v := -1) (by rw [hf] <;> rfl) ?_
  refine x_goto rfl rfl ?_
  refine x_istore rfl rfl rfl rfl ?_
  refine x_aload_n rfl rfl rfl ?_
  refine x_iload rfl rfl rfl ?_
  refine x_if_ne rfl rfl (fun _ => ?_) (fun hc9 => absurd hc9 (by decide +kernel))
  refine x_iload rfl rfl rfl ?_
  refine x_iconst (v := -1) rfl rfl (by decide +kernel) ?_
  refine x_icmp_ne rfl rfl (fun hc10 => absurd rfl hc10) (fun hc10 => ?_)
  refine x_aload_n rfl rfl rfl ?_
  refine x_getR0 rfl rfl f_9_42 rfl (by decide) rfl rfl ?_
  refine x_iload_n rfl rfl rfl ?_
  refine x_ialdv (a := i) (v := nI kl) hkl rfl rfl rfl (by decide) (by omega) (by decide) ?_
  refine x_bipush (v := nI 6) rfl rfl (by decide +kernel) ?_
  refine x_icmpN_ne (by omega) (by omega) rfl rfl (fun hc11 => ?_) (fun hc11 => absurd hc11 (by omega))
  refine x_iconstN (b := 0) rfl rfl ?_
  refine x_putI rfl rfl f_9_97 rfl rfl (by decide) rfl ?_
  refine x_aload_n rfl rfl rfl ?_
  refine x_getIv (v := nI 0) (by first | rfl | simp [ui, ul]) rfl rfl f_9_97 rfl (by decide) rfl ?_
  refine x_if_le rfl rfl (fun _ => ?_) (fun hc12 => absurd hc12 (by decide +kernel))
  refine x_iload rfl rfl rfl ?_
  refine x_iconst (v := -1) rfl rfl (by decide +kernel) ?_
  refine x_icmp_ne rfl rfl (fun hc13 => absurd rfl hc13) (fun hc13 => ?_)
  refine x_aload_n rfl rfl rfl ?_
  refine x_getR0 rfl rfl f_9_42 rfl (by decide) rfl rfl ?_
  refine x_iload_n rfl rfl rfl ?_
  refine x_ialdv (a := i) (v := nI kl) (by first | exact hkl | (rw [← hkl]; rfl) | simp [ui, ul, hkl]) rfl rfl rfl (by decide) (by omega) (by decide) ?_
  refine x_istore rfl rfl rfl rfl ?_
  refine x_aload_n rfl rfl rfl ?_
  refine x_getR0 rfl rfl f_9_45 rfl (by decide) rfl rfl ?_
  refine x_bipush (v := nI 6) rfl rfl (by decide +kernel) ?_
  refine x_iload_n rfl rfl rfl ?_
  refine x_imulN (a := 6) (b := i) rfl rfl ?_
  refine x_iload rfl rfl rfl ?_
  refine x_iaddN (a := 6 * i) (b := kl) rfl rfl ?_
  refine x_lload_n rfl rfl rfl ?_
  refine x_last (a := (6 * i) + kl) rfl rfl rfl (by decide) (by omega) (by decide) ?_
  refine x_aload_n rfl rfl rfl ?_
  refine x_getR0 rfl rfl f_9_42 rfl (by decide) rfl rfl ?_
  refine x_iload_n rfl rfl rfl ?_
  refine x_dup2 rfl rfl rfl rfl ?_
  refine x_ialdv (a := i) (v := nI kl) (by first | exact hkl | (rw [← hkl]; rfl) | simp [ui, ul, hkl]) rfl rfl rfl (by decide) (by omega) (by decide) ?_
  refine x_iconstN (b := 1) rfl rfl ?_
  refine x_iaddN (a := kl) (b := 1) rfl rfl ?_
  refine x_iast (a := i) rfl rfl rfl (by decide) (by omega) (by decide) ?_
  refine x_aload_n rfl rfl rfl ?_
  refine x_getR0 rfl rfl f_9_48 rfl (by decide) rfl rfl ?_
  refine x_bipush (v := nI 6) rfl rfl (by decide +kernel) ?_
  refine x_iload_n rfl rfl rfl ?_
  refine x_imulN (a := 6) (b := i) rfl rfl ?_
  refine x_iload rfl rfl rfl ?_
  refine x_iaddN (a := 6 * i) (b := kl) rfl rfl ?_
  refine x_lload rfl rfl rfl ?_
  refine x_last (a := (6 * i) + kl) rfl rfl rfl (by decide) (by omega) (by decide) ?_
  refine x_aload_n rfl rfl rfl ?_
  refine x_getR0 rfl rfl f_9_42 rfl (by decide) rfl rfl ?_
  refine x_iload_n rfl rfl rfl ?_
  refine x_ialdv (a := i) (v := nI (kl + 1)) (by first | rfl | simp [ui, ul]) rfl rfl rfl (by decide) (by omega) (by decide) ?_
  exact x_retI rfl rfl rfl (by omega) rfl rfl
set_option maxHeartbeats 4000000 in
set_option maxRecDepth 20000 in
theorem c_mput9F (hG : Gok G) (hd : 3 ≤ d) (e v : Int64) {n : Nat} (hn : M.1 (40, 0) 8 = nI n) (hn2 : n ≤ 40) {w : Nat} (hw : M.1 (40, 0) 1 = nI w) (hw2 : w ≤ 40) {i : Nat} (hi : i < n) (hkd : M.1 (46, 0) i = nI 9) (hkl : M.1 (51, 0) i = nI 6) (hp : e ≠ 0 ∧ isTx e ∧ isV w n v) (hf : lxf (fun j => M.2 (52, 0) ((6 * i) + j)) e none 0 6 = none) : Ct G mX9_put d [.ref (ga G (40, 0)), .int (nI i), .long (e), .long (v)] M (.inl (some (.int (nI 0)))) (ui M (40, 0) 0 (nI 2)) 0 := by
  refine ct_of hG okX9_put (by decide +kernel) rfl (Nat.le_of_ble_eq_true rfl) ?_
  refine x_aload_n rfl rfl rfl ?_
  refine x_iload_n rfl rfl rfl ?_
  refine x_callVi (d2 := 1) (c_mhasPairs9 (n := n) hG (Nat.le_refl 1) hn (by omega) (by omega) hkd) rfl rfl v_9_162 rfl rfl (by decide) rfl rfl (Nat.le_of_ble_eq_true rfl) (by omega) (by omega) ?_
  refine x_if_eq rfl rfl (fun hc1 => absurd hc1 (by decide +kernel)) (fun _ => ?_)
  refine x_lload_n rfl rfl rfl ?_
  refine x_lconst (v := 0) rfl rfl (by decide +kernel) ?_
  refine x_lc_eq rfl rfl rfl rfl (fun hc2 => absurd hc2 hp.1) (fun hc2 => ?_)
  refine x_lload_n rfl rfl rfl ?_
  refine x_callSi (d2 := 1) (c_misText hG (Nat.le_refl 1) (e)) rfl rfl s_9_117 rfl rfl (Nat.le_of_ble_eq_true rfl) (by omega) (by omega) ?_
  refine x_ifB_eq rfl rfl (fun hc3 => absurd hp.2.1 hc3) (fun hc3 => ?_)
  refine x_aload_n rfl rfl rfl ?_
  refine x_lload rfl rfl rfl ?_
  refine x_callVi (d2 := 2) (c_misValue (n := n) (w := w) hG (Nat.le_refl 2) (v) hn hn2 hw hw2) rfl rfl v_9_156 rfl rfl (by decide) rfl rfl (Nat.le_of_ble_eq_true rfl) (by omega) (by omega) ?_
  refine x_ifB_eq rfl rfl (fun hc4 => absurd hp.2.2 hc4) (fun hc4 => ?_)
  refine x_iconstN (b := 1) rfl rfl ?_
  refine x_goto rfl rfl ?_
  refine x_istore rfl rfl rfl rfl ?_
  refine x_iload rfl rfl rfl ?_
  refine x_if_eq rfl rfl (fun hc5 => absurd hc5 (by decide +kernel)) (fun _ => ?_)
  refine x_aload_n rfl rfl rfl ?_
  refine x_iload rfl rfl rfl ?_
  refine x_if_eq rfl rfl (fun hc6 => absurd hc6 (by decide +kernel)) (fun _ => ?_)
  refine x_iload_n rfl rfl rfl ?_
  refine x_goto rfl rfl ?_
  refine x_lload_n rfl rfl rfl ?_
  refine x_callVi (d2 := 0) (c_misMemberK (kd := 9) hG (e) (by omega) hkd (by omega) (by omega)) rfl rfl v_9_165 rfl rfl (by decide) rfl rfl (Nat.le_of_ble_eq_true rfl) (by omega) (by omega) ?_
  refine x_if_ne rfl rfl (fun hc7 => absurd hc7 (by decide +kernel)) (fun _ => ?_)
  refine x_iconstN (b := 1) rfl rfl ?_
  refine x_goto rfl rfl ?_
  refine x_istore rfl rfl rfl rfl ?_
  refine x_iload rfl rfl rfl ?_
  refine x_if_eq rfl rfl (fun hc8 => absurd hc8 (by decide +kernel)) (fun _ => ?_)
  refine x_aload_n rfl rfl rfl ?_
  refine x_iload_n rfl rfl rfl ?_
  refine x_lload_n rfl rfl rfl ?_
  refine x_callVi (d2 := 0) (c_mpairAt hG (e) (by omega) (by omega) hkl) rfl rfl v_9_169 rfl rfl (by decide) rfl rfl (Nat.le_of_ble_eq_true rfl) (by omega) (by omega) ?_
  refine x_topI (v := -1) (by rw [hf] <;> rfl) ?_
  refine x_goto rfl rfl ?_
  refine x_istore rfl rfl rfl rfl ?_
  refine x_aload_n rfl rfl rfl ?_
  refine x_iload rfl rfl rfl ?_
  refine x_if_ne rfl rfl (fun _ => ?_) (fun hc9 => absurd hc9 (by decide +kernel))
  refine x_iload rfl rfl rfl ?_
  refine x_iconst (v := -1) rfl rfl (by decide +kernel) ?_
  refine x_icmp_ne rfl rfl (fun hc10 => absurd rfl hc10) (fun hc10 => ?_)
  refine x_aload_n rfl rfl rfl ?_
  refine x_getR0 rfl rfl f_9_42 rfl (by decide) rfl rfl ?_
  refine x_iload_n rfl rfl rfl ?_
  refine x_ialdv (a := i) (v := nI 6) hkl rfl rfl rfl (by decide) (by omega) (by decide) ?_
  refine x_bipush (v := nI 6) rfl rfl (by decide +kernel) ?_
  refine x_icmpN_ne (by omega) (by omega) rfl rfl (fun hc11 => absurd hc11 (by omega)) (fun hc11 => ?_)
  refine x_iconstN (b := 2) rfl rfl ?_
  refine x_goto rfl rfl ?_
  refine x_putI rfl rfl f_9_97 rfl rfl (by decide) rfl ?_
  refine x_aload_n rfl rfl rfl ?_
  refine x_getIv (v := nI 2) (by first | rfl | simp [ui, ul]) rfl rfl f_9_97 rfl (by decide) rfl ?_
  refine x_if_le rfl rfl (fun hc12 => absurd hc12 (by decide +kernel)) (fun _ => ?_)
  refine x_iconstN (b := 0) rfl rfl ?_
  exact x_retI rfl rfl rfl (by omega) rfl rfl
set_option maxHeartbeats 4000000 in
set_option maxRecDepth 20000 in
theorem c_mput9X (hG : Gok G) (hd : 3 ≤ d) (e v : Int64) {n : Nat} (hn : M.1 (40, 0) 8 = nI n) (hn2 : n ≤ 40) {w : Nat} (hw : M.1 (40, 0) 1 = nI w) (hw2 : w ≤ 40) {i : Nat} (hi : i < n) (hkd : M.1 (46, 0) i = nI 9) (hp : ¬ (e ≠ 0 ∧ isTx e ∧ isV w n v)) : Ct G mX9_put d [.ref (ga G (40, 0)), .int (nI i), .long (e), .long (v)] M (.inl (some (.int (nI 0)))) (ui M (40, 0) 0 (nI 1)) 0 := by
  refine ct_of hG okX9_put (by decide +kernel) rfl (Nat.le_of_ble_eq_true rfl) ?_
  refine x_aload_n rfl rfl rfl ?_
  refine x_iload_n rfl rfl rfl ?_
  refine x_callVi (d2 := 1) (c_mhasPairs9 (n := n) hG (Nat.le_refl 1) hn (by omega) (by omega) hkd) rfl rfl v_9_162 rfl rfl (by decide) rfl rfl (Nat.le_of_ble_eq_true rfl) (by omega) (by omega) ?_
  refine x_if_eq rfl rfl (fun hc1 => absurd hc1 (by decide +kernel)) (fun _ => ?_)
  refine x_lload_n rfl rfl rfl ?_
  refine x_lconst (v := 0) rfl rfl (by decide +kernel) ?_
  refine x_lc_eq rfl rfl rfl rfl (fun hc2 => ?_) (fun hc2 => ?_)
  · refine x_iconstN (b := 0) rfl rfl ?_
    refine x_istore rfl rfl rfl rfl ?_
    refine x_iload rfl rfl rfl ?_
    refine x_if_eq rfl rfl (fun _ => ?_) (fun hc3 => absurd hc3 (by decide +kernel))
    refine x_iconstN (b := 0) rfl rfl ?_
    refine x_istore rfl rfl rfl rfl ?_
    refine x_iload rfl rfl rfl ?_
    refine x_if_eq rfl rfl (fun _ => ?_) (fun hc4 => absurd hc4 (by decide +kernel))
    refine x_iconst (v := -1) rfl rfl (by decide +kernel) ?_
    refine x_istore rfl rfl rfl rfl ?_
    refine x_aload_n rfl rfl rfl ?_
    refine x_iload rfl rfl rfl ?_
    refine x_if_ne rfl rfl (fun hc5 => absurd hc5 (by decide +kernel)) (fun _ => ?_)
    refine x_iconstN (b := 1) rfl rfl ?_
    refine x_goto rfl rfl ?_
    refine x_putI rfl rfl f_9_97 rfl rfl (by decide) rfl ?_
    refine x_aload_n rfl rfl rfl ?_
    refine x_getIv (v := nI 1) (by first | rfl | simp [ui, ul]) rfl rfl f_9_97 rfl (by decide) rfl ?_
    refine x_if_le rfl rfl (fun hc6 => absurd hc6 (by decide +kernel)) (fun _ => ?_)
    refine x_iconstN (b := 0) rfl rfl ?_
    exact x_retI rfl rfl rfl (by omega) rfl rfl
  · refine x_lload_n rfl rfl rfl ?_
    refine x_callSi (d2 := 1) (c_misText hG (Nat.le_refl 1) (e)) rfl rfl s_9_117 rfl rfl (Nat.le_of_ble_eq_true rfl) (by omega) (by omega) ?_
    refine x_ifB_eq rfl rfl (fun hc7 => ?_) (fun hc7 => ?_)
    · refine x_iconstN (b := 0) rfl rfl ?_
      refine x_istore rfl rfl rfl rfl ?_
      refine x_iload rfl rfl rfl ?_
      refine x_if_eq rfl rfl (fun _ => ?_) (fun hc8 => absurd hc8 (by decide +kernel))
      refine x_iconstN (b := 0) rfl rfl ?_
      refine x_istore rfl rfl rfl rfl ?_
      refine x_iload rfl rfl rfl ?_
      refine x_if_eq rfl rfl (fun _ => ?_) (fun hc9 => absurd hc9 (by decide +kernel))
      refine x_iconst (v := -1) rfl rfl (by decide +kernel) ?_
      refine x_istore rfl rfl rfl rfl ?_
      refine x_aload_n rfl rfl rfl ?_
      refine x_iload rfl rfl rfl ?_
      refine x_if_ne rfl rfl (fun hc10 => absurd hc10 (by decide +kernel)) (fun _ => ?_)
      refine x_iconstN (b := 1) rfl rfl ?_
      refine x_goto rfl rfl ?_
      refine x_putI rfl rfl f_9_97 rfl rfl (by decide) rfl ?_
      refine x_aload_n rfl rfl rfl ?_
      refine x_getIv (v := nI 1) (by first | rfl | simp [ui, ul]) rfl rfl f_9_97 rfl (by decide) rfl ?_
      refine x_if_le rfl rfl (fun hc11 => absurd hc11 (by decide +kernel)) (fun _ => ?_)
      refine x_iconstN (b := 0) rfl rfl ?_
      exact x_retI rfl rfl rfl (by omega) rfl rfl
    · refine x_aload_n rfl rfl rfl ?_
      refine x_lload rfl rfl rfl ?_
      refine x_callVi (d2 := 2) (c_misValue (n := n) (w := w) hG (Nat.le_refl 2) (v) hn hn2 hw hw2) rfl rfl v_9_156 rfl rfl (by decide) rfl rfl (Nat.le_of_ble_eq_true rfl) (by omega) (by omega) ?_
      refine x_ifB_eq rfl rfl (fun hc12 => ?_) (fun hc12 => ?_)
      · refine x_iconstN (b := 0) rfl rfl ?_
        refine x_istore rfl rfl rfl rfl ?_
        refine x_iload rfl rfl rfl ?_
        refine x_if_eq rfl rfl (fun _ => ?_) (fun hc13 => absurd hc13 (by decide +kernel))
        refine x_iconstN (b := 0) rfl rfl ?_
        refine x_istore rfl rfl rfl rfl ?_
        refine x_iload rfl rfl rfl ?_
        refine x_if_eq rfl rfl (fun _ => ?_) (fun hc14 => absurd hc14 (by decide +kernel))
        refine x_iconst (v := -1) rfl rfl (by decide +kernel) ?_
        refine x_istore rfl rfl rfl rfl ?_
        refine x_aload_n rfl rfl rfl ?_
        refine x_iload rfl rfl rfl ?_
        refine x_if_ne rfl rfl (fun hc15 => absurd hc15 (by decide +kernel)) (fun _ => ?_)
        refine x_iconstN (b := 1) rfl rfl ?_
        refine x_goto rfl rfl ?_
        refine x_putI rfl rfl f_9_97 rfl rfl (by decide) rfl ?_
        refine x_aload_n rfl rfl rfl ?_
        refine x_getIv (v := nI 1) (by first | rfl | simp [ui, ul]) rfl rfl f_9_97 rfl (by decide) rfl ?_
        refine x_if_le rfl rfl (fun hc16 => absurd hc16 (by decide +kernel)) (fun _ => ?_)
        refine x_iconstN (b := 0) rfl rfl ?_
        exact x_retI rfl rfl rfl (by omega) rfl rfl
      · refine x_iconstN (b := 1) rfl rfl ?_
        refine x_goto rfl rfl ?_
        refine x_istore rfl rfl rfl rfl ?_
        refine x_iload rfl rfl rfl ?_
        refine x_if_eq rfl rfl (fun hc17 => absurd hc17 (by decide +kernel)) (fun _ => ?_)
        refine x_aload_n rfl rfl rfl ?_
        refine x_iload rfl rfl rfl ?_
        refine x_if_eq rfl rfl (fun hc18 => absurd hc18 (by decide +kernel)) (fun _ => ?_)
        refine x_iload_n rfl rfl rfl ?_
        refine x_goto rfl rfl ?_
        refine x_lload_n rfl rfl rfl ?_
        refine x_callVi (d2 := 0) (c_misMemberK (kd := 9) hG (e) (by omega) hkd (by omega) (by omega)) rfl rfl v_9_165 rfl rfl (by decide) rfl rfl (Nat.le_of_ble_eq_true rfl) (by omega) (by omega) ?_
        refine x_if_ne rfl rfl (fun hc19 => absurd hc19 (by decide +kernel)) (fun _ => ?_)
        refine x_iconstN (b := 1) rfl rfl ?_
        refine x_goto rfl rfl ?_
        refine x_istore rfl rfl rfl rfl ?_
        refine x_iload rfl rfl rfl ?_
        refine x_if_eq rfl rfl (fun hc20 => absurd hc20 (by decide +kernel)) (fun _ => ?_)
        refine x_aload_n rfl rfl rfl ?_
        refine x_iload_n rfl rfl rfl ?_
        refine x_lload_n rfl rfl rfl ?_
        exact absurd ⟨hc2, hc7, hc12⟩ hp
set_option maxHeartbeats 4000000 in
set_option maxRecDepth 20000 in
theorem c_mput10R (hG : Gok G) (hd : 3 ≤ d) (e v : Int64) {n : Nat} (hn : M.1 (40, 0) 8 = nI n) (hn2 : n ≤ 40) {w : Nat} (hw : M.1 (40, 0) 1 = nI w) (hw2 : w ≤ 40) {i : Nat} (hi : i < n) (hkd : M.1 (46, 0) i = nI 10) {t m : Nat} (ht : t < 12) (dy : Prop) (htr : M.1 (49, 0) i = nI t) (hdy : M.1 (43, 0) t = bI dy) (hm : M.1 (44, 0) t = nI m) (hm2 : m ≤ 3) {kl : Nat} (hkl : M.1 (51, 0) i = nI kl) (hkl2 : kl ≤ 6) (hp : dy ∧ e ≠ 0 ∧ isTx e ∧ isV w n v ∧ ¬ ∃ j, j < m ∧ M.2 (45, 0) ((3 * t) + j) = e) {j : Nat} (hf : lxf (fun j => M.2 (52, 0) ((6 * i) + j)) e none 0 kl = some j) (hj : j < kl) : Ct G mX9_put d [.ref (ga G (40, 0)), .int (nI i), .long (e), .long (v)] M (.inl (some (.int (nI kl)))) (ul (ui M (40, 0) 0 (nI 0)) (53, 0) ((6 * i) + j) v) 0 := by
  refine ct_of hG okX9_put (by decide +kernel) rfl (Nat.le_of_ble_eq_true rfl) ?_
  refine x_aload_n rfl rfl rfl ?_
  refine x_iload_n rfl rfl rfl ?_
  refine x_callVi (d2 := 1) (c_mhasPairs10 (n := n) hG (Nat.le_refl 1) hn (by omega) (by omega) hkd ht dy htr hdy) rfl rfl v_9_162 rfl rfl (by decide) rfl rfl (Nat.le_of_ble_eq_true rfl) (by omega) (by omega) ?_
  refine x_ifB_eq rfl rfl (fun hc1 => absurd hp.1 hc1) (fun hc1 => ?_)
  refine x_lload_n rfl rfl rfl ?_
  refine x_lconst (v := 0) rfl rfl (by decide +kernel) ?_
  refine x_lc_eq rfl rfl rfl rfl (fun hc2 => absurd hc2 hp.2.1) (fun hc2 => ?_)
  refine x_lload_n rfl rfl rfl ?_
  refine x_callSi (d2 := 1) (c_misText hG (Nat.le_refl 1) (e)) rfl rfl s_9_117 rfl rfl (Nat.le_of_ble_eq_true rfl) (by omega) (by omega) ?_
  refine x_ifB_eq rfl rfl (fun hc3 => absurd hp.2.2.1 hc3) (fun hc3 => ?_)
  refine x_aload_n rfl rfl rfl ?_
  refine x_lload rfl rfl rfl ?_
  refine x_callVi (d2 := 2) (c_misValue (n := n) (w := w) hG (Nat.le_refl 2) (v) hn hn2 hw hw2) rfl rfl v_9_156 rfl rfl (by decide) rfl rfl (Nat.le_of_ble_eq_true rfl) (by omega) (by omega) ?_
  refine x_ifB_eq rfl rfl (fun hc4 => absurd hp.2.2.2.1 hc4) (fun hc4 => ?_)
  refine x_iconstN (b := 1) rfl rfl ?_
  refine x_goto rfl rfl ?_
  refine x_istore rfl rfl rfl rfl ?_
  refine x_iload rfl rfl rfl ?_
  refine x_if_eq rfl rfl (fun hc5 => absurd hc5 (by decide +kernel)) (fun _ => ?_)
  refine x_aload_n rfl rfl rfl ?_
  refine x_iload rfl rfl rfl ?_
  refine x_if_eq rfl rfl (fun hc6 => absurd hc6 (by decide +kernel)) (fun _ => ?_)
  refine x_iload_n rfl rfl rfl ?_
  refine x_goto rfl rfl ?_
  refine x_lload_n rfl rfl rfl ?_
  refine x_callVi (d2 := 0) (c_misMember hG (e) (by omega) ht hm2 hkd htr hm) rfl rfl v_9_165 rfl rfl (by decide) rfl rfl (Nat.le_of_ble_eq_true rfl) (by omega) (by omega) ?_
  refine x_ifB_ne rfl rfl (fun hc7 => absurd hc7 hp.2.2.2.2) (fun hc7 => ?_)
  refine x_iconstN (b := 1) rfl rfl ?_
  refine x_goto rfl rfl ?_
  refine x_istore rfl rfl rfl rfl ?_
  refine x_iload rfl rfl rfl ?_
  refine x_if_eq rfl rfl (fun hc8 => absurd hc8 (by decide +kernel)) (fun _ => ?_)
  refine x_aload_n rfl rfl rfl ?_
  refine x_iload_n rfl rfl rfl ?_
  refine x_lload_n rfl rfl rfl ?_
  refine x_callVi (d2 := 0) (c_mpairAt hG (e) (by omega) (by omega) hkl) rfl rfl v_9_169 rfl rfl (by decide) rfl rfl (Nat.le_of_ble_eq_true rfl) (by omega) (by omega) ?_
  refine x_topI (v := nI j) (by rw [hf] <;> rfl) ?_
  refine x_goto rfl rfl ?_
  refine x_istore rfl rfl rfl rfl ?_
  refine x_aload_n rfl rfl rfl ?_
  refine x_iload rfl rfl rfl ?_
  refine x_if_ne rfl rfl (fun _ => ?_) (fun hc9 => absurd hc9 (by decide +kernel))
  refine x_iload rfl rfl rfl ?_
  refine x_iconst (v := -1) rfl rfl (by decide +kernel) ?_
  refine x_icmp_ne rfl rfl (fun hc10 => ?_) (fun hc10 => absurd hc10 (nIm1 (by omega)))
  refine x_iconstN (b := 0) rfl rfl ?_
  refine x_putI rfl rfl f_9_97 rfl rfl (by decide) rfl ?_
  refine x_aload_n rfl rfl rfl ?_
  refine x_getIv (v := nI 0) (by first | rfl | simp [ui, ul]) rfl rfl f_9_97 rfl (by decide) rfl ?_
  refine x_if_le rfl rfl (fun _ => ?_) (fun hc11 => absurd hc11 (by decide +kernel))
  refine x_iload rfl rfl rfl ?_
  refine x_iconst (v := -1) rfl rfl (by decide +kernel) ?_
  refine x_icmp_ne rfl rfl (fun hc12 => ?_) (fun hc12 => absurd hc12 (nIm1 (by omega)))
  refine x_aload_n rfl rfl rfl ?_
  refine x_getR0 rfl rfl f_9_48 rfl (by decide) rfl rfl ?_
  refine x_bipush (v := nI 6) rfl rfl (by decide +kernel) ?_
  refine x_iload_n rfl rfl rfl ?_
  refine x_imulN (a := 6) (b := i) rfl rfl ?_
  refine x_iload rfl rfl rfl ?_
  refine x_iaddN (a := 6 * i) (b := j) rfl rfl ?_
  refine x_lload rfl rfl rfl ?_
  refine x_last (a := (6 * i) + j) rfl rfl rfl (by decide) (by omega) (by decide) ?_
  refine x_aload_n rfl rfl rfl ?_
  refine x_getR0 rfl rfl f_9_42 rfl (by decide) rfl rfl ?_
  refine x_iload_n rfl rfl rfl ?_
  refine x_ialdv (a := i) (v := nI kl) (by first | exact hkl | (rw [← hkl]; rfl) | simp [ui, ul, hkl]) rfl rfl rfl (by decide) (by omega) (by decide) ?_
  exact x_retI rfl rfl rfl (by omega) rfl rfl
set_option maxHeartbeats 4000000 in
set_option maxRecDepth 20000 in
theorem c_mput10A (hG : Gok G) (hd : 3 ≤ d) (e v : Int64) {n : Nat} (hn : M.1 (40, 0) 8 = nI n) (hn2 : n ≤ 40) {w : Nat} (hw : M.1 (40, 0) 1 = nI w) (hw2 : w ≤ 40) {i : Nat} (hi : i < n) (hkd : M.1 (46, 0) i = nI 10) {t m : Nat} (ht : t < 12) (dy : Prop) (htr : M.1 (49, 0) i = nI t) (hdy : M.1 (43, 0) t = bI dy) (hm : M.1 (44, 0) t = nI m) (hm2 : m ≤ 3) {kl : Nat} (hkl : M.1 (51, 0) i = nI kl) (hkl2 : kl < 6) (hp : dy ∧ e ≠ 0 ∧ isTx e ∧ isV w n v ∧ ¬ ∃ j, j < m ∧ M.2 (45, 0) ((3 * t) + j) = e) (hf : lxf (fun j => M.2 (52, 0) ((6 * i) + j)) e none 0 kl = none) : Ct G mX9_put d [.ref (ga G (40, 0)), .int (nI i), .long (e), .long (v)] M (.inl (some (.int (nI (kl + 1))))) (ul (ui (ul (ui M (40, 0) 0 (nI 0)) (52, 0) ((6 * i) + kl) e) (51, 0) i (nI (kl + 1))) (53, 0) ((6 * i) + kl) v) 0 := by
  refine ct_of hG okX9_put (by decide +kernel) rfl (Nat.le_of_ble_eq_true rfl) ?_
  refine x_aload_n rfl rfl rfl ?_
  refine x_iload_n rfl rfl rfl ?_
  refine x_callVi (d2 := 1) (c_mhasPairs10 (n := n) hG (Nat.le_refl 1) hn (by omega) (by omega) hkd ht dy htr hdy) rfl rfl v_9_162 rfl rfl (by decide) rfl rfl (Nat.le_of_ble_eq_true rfl) (by omega) (by omega) ?_
  refine x_ifB_eq rfl rfl (fun hc1 => absurd hp.1 hc1) (fun hc1 => ?_)
  refine x_lload_n rfl rfl rfl ?_
  refine x_lconst (v := 0) rfl rfl (by decide +kernel) ?_
  refine x_lc_eq rfl rfl rfl rfl (fun hc2 => absurd hc2 hp.2.1) (fun hc2 => ?_)
  refine x_lload_n rfl rfl rfl ?_
  refine x_callSi (d2 := 1) (c_misText hG (Nat.le_refl 1) (e)) rfl rfl s_9_117 rfl rfl (Nat.le_of_ble_eq_true rfl) (by omega) (by omega) ?_
  refine x_ifB_eq rfl rfl (fun hc3 => absurd hp.2.2.1 hc3) (fun hc3 => ?_)
  refine x_aload_n rfl rfl rfl ?_
  refine x_lload rfl rfl rfl ?_
  refine x_callVi (d2 := 2) (c_misValue (n := n) (w := w) hG (Nat.le_refl 2) (v) hn hn2 hw hw2) rfl rfl v_9_156 rfl rfl (by decide) rfl rfl (Nat.le_of_ble_eq_true rfl) (by omega) (by omega) ?_
  refine x_ifB_eq rfl rfl (fun hc4 => absurd hp.2.2.2.1 hc4) (fun hc4 => ?_)
  refine x_iconstN (b := 1) rfl rfl ?_
  refine x_goto rfl rfl ?_
  refine x_istore rfl rfl rfl rfl ?_
  refine x_iload rfl rfl rfl ?_
  refine x_if_eq rfl rfl (fun hc5 => absurd hc5 (by decide +kernel)) (fun _ => ?_)
  refine x_aload_n rfl rfl rfl ?_
  refine x_iload rfl rfl rfl ?_
  refine x_if_eq rfl rfl (fun hc6 => absurd hc6 (by decide +kernel)) (fun _ => ?_)
  refine x_iload_n rfl rfl rfl ?_
  refine x_goto rfl rfl ?_
  refine x_lload_n rfl rfl rfl ?_
  refine x_callVi (d2 := 0) (c_misMember hG (e) (by omega) ht hm2 hkd htr hm) rfl rfl v_9_165 rfl rfl (by decide) rfl rfl (Nat.le_of_ble_eq_true rfl) (by omega) (by omega) ?_
  refine x_ifB_ne rfl rfl (fun hc7 => absurd hc7 hp.2.2.2.2) (fun hc7 => ?_)
  refine x_iconstN (b := 1) rfl rfl ?_
  refine x_goto rfl rfl ?_
  refine x_istore rfl rfl rfl rfl ?_
  refine x_iload rfl rfl rfl ?_
  refine x_if_eq rfl rfl (fun hc8 => absurd hc8 (by decide +kernel)) (fun _ => ?_)
  refine x_aload_n rfl rfl rfl ?_
  refine x_iload_n rfl rfl rfl ?_
  refine x_lload_n rfl rfl rfl ?_
  refine x_callVi (d2 := 0) (c_mpairAt hG (e) (by omega) (by omega) hkl) rfl rfl v_9_169 rfl rfl (by decide) rfl rfl (Nat.le_of_ble_eq_true rfl) (by omega) (by omega) ?_
  refine x_topI (v := -1) (by rw [hf] <;> rfl) ?_
  refine x_goto rfl rfl ?_
  refine x_istore rfl rfl rfl rfl ?_
  refine x_aload_n rfl rfl rfl ?_
  refine x_iload rfl rfl rfl ?_
  refine x_if_ne rfl rfl (fun _ => ?_) (fun hc9 => absurd hc9 (by decide +kernel))
  refine x_iload rfl rfl rfl ?_
  refine x_iconst (v := -1) rfl rfl (by decide +kernel) ?_
  refine x_icmp_ne rfl rfl (fun hc10 => absurd rfl hc10) (fun hc10 => ?_)
  refine x_aload_n rfl rfl rfl ?_
  refine x_getR0 rfl rfl f_9_42 rfl (by decide) rfl rfl ?_
  refine x_iload_n rfl rfl rfl ?_
  refine x_ialdv (a := i) (v := nI kl) hkl rfl rfl rfl (by decide) (by omega) (by decide) ?_
  refine x_bipush (v := nI 6) rfl rfl (by decide +kernel) ?_
  refine x_icmpN_ne (by omega) (by omega) rfl rfl (fun hc11 => ?_) (fun hc11 => absurd hc11 (by omega))
  refine x_iconstN (b := 0) rfl rfl ?_
  refine x_putI rfl rfl f_9_97 rfl rfl (by decide) rfl ?_
  refine x_aload_n rfl rfl rfl ?_
  refine x_getIv (v := nI 0) (by first | rfl | simp [ui, ul]) rfl rfl f_9_97 rfl (by decide) rfl ?_
  refine x_if_le rfl rfl (fun _ => ?_) (fun hc12 => absurd hc12 (by decide +kernel))
  refine x_iload rfl rfl rfl ?_
  refine x_iconst (v := -1) rfl rfl (by decide +kernel) ?_
  refine x_icmp_ne rfl rfl (fun hc13 => absurd rfl hc13) (fun hc13 => ?_)
  refine x_aload_n rfl rfl rfl ?_
  refine x_getR0 rfl rfl f_9_42 rfl (by decide) rfl rfl ?_
  refine x_iload_n rfl rfl rfl ?_
  refine x_ialdv (a := i) (v := nI kl) (by first | exact hkl | (rw [← hkl]; rfl) | simp [ui, ul, hkl]) rfl rfl rfl (by decide) (by omega) (by decide) ?_
  refine x_istore rfl rfl rfl rfl ?_
  refine x_aload_n rfl rfl rfl ?_
  refine x_getR0 rfl rfl f_9_45 rfl (by decide) rfl rfl ?_
  refine x_bipush (v := nI 6) rfl rfl (by decide +kernel) ?_
  refine x_iload_n rfl rfl rfl ?_
  refine x_imulN (a := 6) (b := i) rfl rfl ?_
  refine x_iload rfl rfl rfl ?_
  refine x_iaddN (a := 6 * i) (b := kl) rfl rfl ?_
  refine x_lload_n rfl rfl rfl ?_
  refine x_last (a := (6 * i) + kl) rfl rfl rfl (by decide) (by omega) (by decide) ?_
  refine x_aload_n rfl rfl rfl ?_
  refine x_getR0 rfl rfl f_9_42 rfl (by decide) rfl rfl ?_
  refine x_iload_n rfl rfl rfl ?_
  refine x_dup2 rfl rfl rfl rfl ?_
  refine x_ialdv (a := i) (v := nI kl) (by first | exact hkl | (rw [← hkl]; rfl) | simp [ui, ul, hkl]) rfl rfl rfl (by decide) (by omega) (by decide) ?_
  refine x_iconstN (b := 1) rfl rfl ?_
  refine x_iaddN (a := kl) (b := 1) rfl rfl ?_
  refine x_iast (a := i) rfl rfl rfl (by decide) (by omega) (by decide) ?_
  refine x_aload_n rfl rfl rfl ?_
  refine x_getR0 rfl rfl f_9_48 rfl (by decide) rfl rfl ?_
  refine x_bipush (v := nI 6) rfl rfl (by decide +kernel) ?_
  refine x_iload_n rfl rfl rfl ?_
  refine x_imulN (a := 6) (b := i) rfl rfl ?_
  refine x_iload rfl rfl rfl ?_
  refine x_iaddN (a := 6 * i) (b := kl) rfl rfl ?_
  refine x_lload rfl rfl rfl ?_
  refine x_last (a := (6 * i) + kl) rfl rfl rfl (by decide) (by omega) (by decide) ?_
  refine x_aload_n rfl rfl rfl ?_
  refine x_getR0 rfl rfl f_9_42 rfl (by decide) rfl rfl ?_
  refine x_iload_n rfl rfl rfl ?_
  refine x_ialdv (a := i) (v := nI (kl + 1)) (by first | rfl | simp [ui, ul]) rfl rfl rfl (by decide) (by omega) (by decide) ?_
  exact x_retI rfl rfl rfl (by omega) rfl rfl
set_option maxHeartbeats 4000000 in
set_option maxRecDepth 20000 in
theorem c_mput10F (hG : Gok G) (hd : 3 ≤ d) (e v : Int64) {n : Nat} (hn : M.1 (40, 0) 8 = nI n) (hn2 : n ≤ 40) {w : Nat} (hw : M.1 (40, 0) 1 = nI w) (hw2 : w ≤ 40) {i : Nat} (hi : i < n) (hkd : M.1 (46, 0) i = nI 10) {t m : Nat} (ht : t < 12) (dy : Prop) (htr : M.1 (49, 0) i = nI t) (hdy : M.1 (43, 0) t = bI dy) (hm : M.1 (44, 0) t = nI m) (hm2 : m ≤ 3) (hkl : M.1 (51, 0) i = nI 6) (hp : dy ∧ e ≠ 0 ∧ isTx e ∧ isV w n v ∧ ¬ ∃ j, j < m ∧ M.2 (45, 0) ((3 * t) + j) = e) (hf : lxf (fun j => M.2 (52, 0) ((6 * i) + j)) e none 0 6 = none) : Ct G mX9_put d [.ref (ga G (40, 0)), .int (nI i), .long (e), .long (v)] M (.inl (some (.int (nI 0)))) (ui M (40, 0) 0 (nI 2)) 0 := by
  refine ct_of hG okX9_put (by decide +kernel) rfl (Nat.le_of_ble_eq_true rfl) ?_
  refine x_aload_n rfl rfl rfl ?_
  refine x_iload_n rfl rfl rfl ?_
  refine x_callVi (d2 := 1) (c_mhasPairs10 (n := n) hG (Nat.le_refl 1) hn (by omega) (by omega) hkd ht dy htr hdy) rfl rfl v_9_162 rfl rfl (by decide) rfl rfl (Nat.le_of_ble_eq_true rfl) (by omega) (by omega) ?_
  refine x_ifB_eq rfl rfl (fun hc1 => absurd hp.1 hc1) (fun hc1 => ?_)
  refine x_lload_n rfl rfl rfl ?_
  refine x_lconst (v := 0) rfl rfl (by decide +kernel) ?_
  refine x_lc_eq rfl rfl rfl rfl (fun hc2 => absurd hc2 hp.2.1) (fun hc2 => ?_)
  refine x_lload_n rfl rfl rfl ?_
  refine x_callSi (d2 := 1) (c_misText hG (Nat.le_refl 1) (e)) rfl rfl s_9_117 rfl rfl (Nat.le_of_ble_eq_true rfl) (by omega) (by omega) ?_
  refine x_ifB_eq rfl rfl (fun hc3 => absurd hp.2.2.1 hc3) (fun hc3 => ?_)
  refine x_aload_n rfl rfl rfl ?_
  refine x_lload rfl rfl rfl ?_
  refine x_callVi (d2 := 2) (c_misValue (n := n) (w := w) hG (Nat.le_refl 2) (v) hn hn2 hw hw2) rfl rfl v_9_156 rfl rfl (by decide) rfl rfl (Nat.le_of_ble_eq_true rfl) (by omega) (by omega) ?_
  refine x_ifB_eq rfl rfl (fun hc4 => absurd hp.2.2.2.1 hc4) (fun hc4 => ?_)
  refine x_iconstN (b := 1) rfl rfl ?_
  refine x_goto rfl rfl ?_
  refine x_istore rfl rfl rfl rfl ?_
  refine x_iload rfl rfl rfl ?_
  refine x_if_eq rfl rfl (fun hc5 => absurd hc5 (by decide +kernel)) (fun _ => ?_)
  refine x_aload_n rfl rfl rfl ?_
  refine x_iload rfl rfl rfl ?_
  refine x_if_eq rfl rfl (fun hc6 => absurd hc6 (by decide +kernel)) (fun _ => ?_)
  refine x_iload_n rfl rfl rfl ?_
  refine x_goto rfl rfl ?_
  refine x_lload_n rfl rfl rfl ?_
  refine x_callVi (d2 := 0) (c_misMember hG (e) (by omega) ht hm2 hkd htr hm) rfl rfl v_9_165 rfl rfl (by decide) rfl rfl (Nat.le_of_ble_eq_true rfl) (by omega) (by omega) ?_
  refine x_ifB_ne rfl rfl (fun hc7 => absurd hc7 hp.2.2.2.2) (fun hc7 => ?_)
  refine x_iconstN (b := 1) rfl rfl ?_
  refine x_goto rfl rfl ?_
  refine x_istore rfl rfl rfl rfl ?_
  refine x_iload rfl rfl rfl ?_
  refine x_if_eq rfl rfl (fun hc8 => absurd hc8 (by decide +kernel)) (fun _ => ?_)
  refine x_aload_n rfl rfl rfl ?_
  refine x_iload_n rfl rfl rfl ?_
  refine x_lload_n rfl rfl rfl ?_
  refine x_callVi (d2 := 0) (c_mpairAt hG (e) (by omega) (by omega) hkl) rfl rfl v_9_169 rfl rfl (by decide) rfl rfl (Nat.le_of_ble_eq_true rfl) (by omega) (by omega) ?_
  refine x_topI (v := -1) (by rw [hf] <;> rfl) ?_
  refine x_goto rfl rfl ?_
  refine x_istore rfl rfl rfl rfl ?_
  refine x_aload_n rfl rfl rfl ?_
  refine x_iload rfl rfl rfl ?_
  refine x_if_ne rfl rfl (fun _ => ?_) (fun hc9 => absurd hc9 (by decide +kernel))
  refine x_iload rfl rfl rfl ?_
  refine x_iconst (v := -1) rfl rfl (by decide +kernel) ?_
  refine x_icmp_ne rfl rfl (fun hc10 => absurd rfl hc10) (fun hc10 => ?_)
  refine x_aload_n rfl rfl rfl ?_
  refine x_getR0 rfl rfl f_9_42 rfl (by decide) rfl rfl ?_
  refine x_iload_n rfl rfl rfl ?_
  refine x_ialdv (a := i) (v := nI 6) hkl rfl rfl rfl (by decide) (by omega) (by decide) ?_
  refine x_bipush (v := nI 6) rfl rfl (by decide +kernel) ?_
  refine x_icmpN_ne (by omega) (by omega) rfl rfl (fun hc11 => absurd hc11 (by omega)) (fun hc11 => ?_)
  refine x_iconstN (b := 2) rfl rfl ?_
  refine x_goto rfl rfl ?_
  refine x_putI rfl rfl f_9_97 rfl rfl (by decide) rfl ?_
  refine x_aload_n rfl rfl rfl ?_
  refine x_getIv (v := nI 2) (by first | rfl | simp [ui, ul]) rfl rfl f_9_97 rfl (by decide) rfl ?_
  refine x_if_le rfl rfl (fun hc12 => absurd hc12 (by decide +kernel)) (fun _ => ?_)
  refine x_iconstN (b := 0) rfl rfl ?_
  exact x_retI rfl rfl rfl (by omega) rfl rfl
set_option maxHeartbeats 4000000 in
set_option maxRecDepth 20000 in
theorem c_mput10X (hG : Gok G) (hd : 3 ≤ d) (e v : Int64) {n : Nat} (hn : M.1 (40, 0) 8 = nI n) (hn2 : n ≤ 40) {w : Nat} (hw : M.1 (40, 0) 1 = nI w) (hw2 : w ≤ 40) {i : Nat} (hi : i < n) (hkd : M.1 (46, 0) i = nI 10) {t m : Nat} (ht : t < 12) (dy : Prop) (htr : M.1 (49, 0) i = nI t) (hdy : M.1 (43, 0) t = bI dy) (hm : M.1 (44, 0) t = nI m) (hm2 : m ≤ 3) (hp : ¬ (dy ∧ e ≠ 0 ∧ isTx e ∧ isV w n v ∧ ¬ ∃ j, j < m ∧ M.2 (45, 0) ((3 * t) + j) = e)) : Ct G mX9_put d [.ref (ga G (40, 0)), .int (nI i), .long (e), .long (v)] M (.inl (some (.int (nI 0)))) (ui M (40, 0) 0 (nI 1)) 0 := by
  refine ct_of hG okX9_put (by decide +kernel) rfl (Nat.le_of_ble_eq_true rfl) ?_
  refine x_aload_n rfl rfl rfl ?_
  refine x_iload_n rfl rfl rfl ?_
  refine x_callVi (d2 := 1) (c_mhasPairs10 (n := n) hG (Nat.le_refl 1) hn (by omega) (by omega) hkd ht dy htr hdy) rfl rfl v_9_162 rfl rfl (by decide) rfl rfl (Nat.le_of_ble_eq_true rfl) (by omega) (by omega) ?_
  refine x_ifB_eq rfl rfl (fun hc1 => ?_) (fun hc1 => ?_)
  · refine x_iconstN (b := 0) rfl rfl ?_
    refine x_istore rfl rfl rfl rfl ?_
    refine x_iload rfl rfl rfl ?_
    refine x_if_eq rfl rfl (fun _ => ?_) (fun hc2 => absurd hc2 (by decide +kernel))
    refine x_iconstN (b := 0) rfl rfl ?_
    refine x_istore rfl rfl rfl rfl ?_
    refine x_iload rfl rfl rfl ?_
    refine x_if_eq rfl rfl (fun _ => ?_) (fun hc3 => absurd hc3 (by decide +kernel))
    refine x_iconst (v := -1) rfl rfl (by decide +kernel) ?_
    refine x_istore rfl rfl rfl rfl ?_
    refine x_aload_n rfl rfl rfl ?_
    refine x_iload rfl rfl rfl ?_
    refine x_if_ne rfl rfl (fun hc4 => absurd hc4 (by decide +kernel)) (fun _ => ?_)
    refine x_iconstN (b := 1) rfl rfl ?_
    refine x_goto rfl rfl ?_
    refine x_putI rfl rfl f_9_97 rfl rfl (by decide) rfl ?_
    refine x_aload_n rfl rfl rfl ?_
    refine x_getIv (v := nI 1) (by first | rfl | simp [ui, ul]) rfl rfl f_9_97 rfl (by decide) rfl ?_
    refine x_if_le rfl rfl (fun hc5 => absurd hc5 (by decide +kernel)) (fun _ => ?_)
    refine x_iconstN (b := 0) rfl rfl ?_
    exact x_retI rfl rfl rfl (by omega) rfl rfl
  · refine x_lload_n rfl rfl rfl ?_
    refine x_lconst (v := 0) rfl rfl (by decide +kernel) ?_
    refine x_lc_eq rfl rfl rfl rfl (fun hc6 => ?_) (fun hc6 => ?_)
    · refine x_iconstN (b := 0) rfl rfl ?_
      refine x_istore rfl rfl rfl rfl ?_
      refine x_iload rfl rfl rfl ?_
      refine x_if_eq rfl rfl (fun _ => ?_) (fun hc7 => absurd hc7 (by decide +kernel))
      refine x_iconstN (b := 0) rfl rfl ?_
      refine x_istore rfl rfl rfl rfl ?_
      refine x_iload rfl rfl rfl ?_
      refine x_if_eq rfl rfl (fun _ => ?_) (fun hc8 => absurd hc8 (by decide +kernel))
      refine x_iconst (v := -1) rfl rfl (by decide +kernel) ?_
      refine x_istore rfl rfl rfl rfl ?_
      refine x_aload_n rfl rfl rfl ?_
      refine x_iload rfl rfl rfl ?_
      refine x_if_ne rfl rfl (fun hc9 => absurd hc9 (by decide +kernel)) (fun _ => ?_)
      refine x_iconstN (b := 1) rfl rfl ?_
      refine x_goto rfl rfl ?_
      refine x_putI rfl rfl f_9_97 rfl rfl (by decide) rfl ?_
      refine x_aload_n rfl rfl rfl ?_
      refine x_getIv (v := nI 1) (by first | rfl | simp [ui, ul]) rfl rfl f_9_97 rfl (by decide) rfl ?_
      refine x_if_le rfl rfl (fun hc10 => absurd hc10 (by decide +kernel)) (fun _ => ?_)
      refine x_iconstN (b := 0) rfl rfl ?_
      exact x_retI rfl rfl rfl (by omega) rfl rfl
    · refine x_lload_n rfl rfl rfl ?_
      refine x_callSi (d2 := 1) (c_misText hG (Nat.le_refl 1) (e)) rfl rfl s_9_117 rfl rfl (Nat.le_of_ble_eq_true rfl) (by omega) (by omega) ?_
      refine x_ifB_eq rfl rfl (fun hc11 => ?_) (fun hc11 => ?_)
      · refine x_iconstN (b := 0) rfl rfl ?_
        refine x_istore rfl rfl rfl rfl ?_
        refine x_iload rfl rfl rfl ?_
        refine x_if_eq rfl rfl (fun _ => ?_) (fun hc12 => absurd hc12 (by decide +kernel))
        refine x_iconstN (b := 0) rfl rfl ?_
        refine x_istore rfl rfl rfl rfl ?_
        refine x_iload rfl rfl rfl ?_
        refine x_if_eq rfl rfl (fun _ => ?_) (fun hc13 => absurd hc13 (by decide +kernel))
        refine x_iconst (v := -1) rfl rfl (by decide +kernel) ?_
        refine x_istore rfl rfl rfl rfl ?_
        refine x_aload_n rfl rfl rfl ?_
        refine x_iload rfl rfl rfl ?_
        refine x_if_ne rfl rfl (fun hc14 => absurd hc14 (by decide +kernel)) (fun _ => ?_)
        refine x_iconstN (b := 1) rfl rfl ?_
        refine x_goto rfl rfl ?_
        refine x_putI rfl rfl f_9_97 rfl rfl (by decide) rfl ?_
        refine x_aload_n rfl rfl rfl ?_
        refine x_getIv (v := nI 1) (by first | rfl | simp [ui, ul]) rfl rfl f_9_97 rfl (by decide) rfl ?_
        refine x_if_le rfl rfl (fun hc15 => absurd hc15 (by decide +kernel)) (fun _ => ?_)
        refine x_iconstN (b := 0) rfl rfl ?_
        exact x_retI rfl rfl rfl (by omega) rfl rfl
      · refine x_aload_n rfl rfl rfl ?_
        refine x_lload rfl rfl rfl ?_
        refine x_callVi (d2 := 2) (c_misValue (n := n) (w := w) hG (Nat.le_refl 2) (v) hn hn2 hw hw2) rfl rfl v_9_156 rfl rfl (by decide) rfl rfl (Nat.le_of_ble_eq_true rfl) (by omega) (by omega) ?_
        refine x_ifB_eq rfl rfl (fun hc16 => ?_) (fun hc16 => ?_)
        · refine x_iconstN (b := 0) rfl rfl ?_
          refine x_istore rfl rfl rfl rfl ?_
          refine x_iload rfl rfl rfl ?_
          refine x_if_eq rfl rfl (fun _ => ?_) (fun hc17 => absurd hc17 (by decide +kernel))
          refine x_iconstN (b := 0) rfl rfl ?_
          refine x_istore rfl rfl rfl rfl ?_
          refine x_iload rfl rfl rfl ?_
          refine x_if_eq rfl rfl (fun _ => ?_) (fun hc18 => absurd hc18 (by decide +kernel))
          refine x_iconst (v := -1) rfl rfl (by decide +kernel) ?_
          refine x_istore rfl rfl rfl rfl ?_
          refine x_aload_n rfl rfl rfl ?_
          refine x_iload rfl rfl rfl ?_
          refine x_if_ne rfl rfl (fun hc19 => absurd hc19 (by decide +kernel)) (fun _ => ?_)
          refine x_iconstN (b := 1) rfl rfl ?_
          refine x_goto rfl rfl ?_
          refine x_putI rfl rfl f_9_97 rfl rfl (by decide) rfl ?_
          refine x_aload_n rfl rfl rfl ?_
          refine x_getIv (v := nI 1) (by first | rfl | simp [ui, ul]) rfl rfl f_9_97 rfl (by decide) rfl ?_
          refine x_if_le rfl rfl (fun hc20 => absurd hc20 (by decide +kernel)) (fun _ => ?_)
          refine x_iconstN (b := 0) rfl rfl ?_
          exact x_retI rfl rfl rfl (by omega) rfl rfl
        · refine x_iconstN (b := 1) rfl rfl ?_
          refine x_goto rfl rfl ?_
          refine x_istore rfl rfl rfl rfl ?_
          refine x_iload rfl rfl rfl ?_
          refine x_if_eq rfl rfl (fun hc21 => absurd hc21 (by decide +kernel)) (fun _ => ?_)
          refine x_aload_n rfl rfl rfl ?_
          refine x_iload rfl rfl rfl ?_
          refine x_if_eq rfl rfl (fun hc22 => absurd hc22 (by decide +kernel)) (fun _ => ?_)
          refine x_iload_n rfl rfl rfl ?_
          refine x_goto rfl rfl ?_
          refine x_lload_n rfl rfl rfl ?_
          refine x_callVi (d2 := 0) (c_misMember hG (e) (by omega) ht hm2 hkd htr hm) rfl rfl v_9_165 rfl rfl (by decide) rfl rfl (Nat.le_of_ble_eq_true rfl) (by omega) (by omega) ?_
          refine x_ifB_ne rfl rfl (fun hc23 => ?_) (fun hc23 => ?_)
          · refine x_iconstN (b := 0) rfl rfl ?_
            refine x_istore rfl rfl rfl rfl ?_
            refine x_iload rfl rfl rfl ?_
            refine x_if_eq rfl rfl (fun _ => ?_) (fun hc24 => absurd hc24 (by decide +kernel))
            refine x_iconst (v := -1) rfl rfl (by decide +kernel) ?_
            refine x_istore rfl rfl rfl rfl ?_
            refine x_aload_n rfl rfl rfl ?_
            refine x_iload rfl rfl rfl ?_
            refine x_if_ne rfl rfl (fun hc25 => absurd hc25 (by decide +kernel)) (fun _ => ?_)
            refine x_iconstN (b := 1) rfl rfl ?_
            refine x_goto rfl rfl ?_
            refine x_putI rfl rfl f_9_97 rfl rfl (by decide) rfl ?_
            refine x_aload_n rfl rfl rfl ?_
            refine x_getIv (v := nI 1) (by first | rfl | simp [ui, ul]) rfl rfl f_9_97 rfl (by decide) rfl ?_
            refine x_if_le rfl rfl (fun hc26 => absurd hc26 (by decide +kernel)) (fun _ => ?_)
            refine x_iconstN (b := 0) rfl rfl ?_
            exact x_retI rfl rfl rfl (by omega) rfl rfl
          · refine x_iconstN (b := 1) rfl rfl ?_
            refine x_goto rfl rfl ?_
            refine x_istore rfl rfl rfl rfl ?_
            refine x_iload rfl rfl rfl ?_
            refine x_if_eq rfl rfl (fun hc27 => absurd hc27 (by decide +kernel)) (fun _ => ?_)
            refine x_aload_n rfl rfl rfl ?_
            refine x_iload_n rfl rfl rfl ?_
            refine x_lload_n rfl rfl rfl ?_
            exact absurd ⟨hc1, hc6, hc11, hc16, hc23⟩ hp
set_option maxHeartbeats 4000000 in
set_option maxRecDepth 20000 in
theorem c_mputK (hG : Gok G) (hd : 3 ≤ d) (e v : Int64) {n : Nat} (hn : M.1 (40, 0) 8 = nI n) (hn2 : n ≤ 40) {i : Nat} (hi : i < n) {kd : Nat} (hkd : M.1 (46, 0) i = nI kd) (hkd2 : kd < 16) (h9 : kd ≠ 9) (h10 : kd ≠ 10) : Ct G mX9_put d [.ref (ga G (40, 0)), .int (nI i), .long (e), .long (v)] M (.inl (some (.int (nI 0)))) (ui M (40, 0) 0 (nI 1)) 0 := by
  refine ct_of hG okX9_put (by decide +kernel) rfl (Nat.le_of_ble_eq_true rfl) ?_
  refine x_aload_n rfl rfl rfl ?_
  refine x_iload_n rfl rfl rfl ?_
  refine x_callVi (d2 := 1) (c_mhasPairsK (n := n) hG (Nat.le_refl 1) hn (by omega) (by omega) hkd hkd2 h9 h10) rfl rfl v_9_162 rfl rfl (by decide) rfl rfl (Nat.le_of_ble_eq_true rfl) (by omega) (by omega) ?_
  refine x_if_eq rfl rfl (fun _ => ?_) (fun hc1 => absurd hc1 (by decide +kernel))
  refine x_iconstN (b := 0) rfl rfl ?_
  refine x_istore rfl rfl rfl rfl ?_
  refine x_iload rfl rfl rfl ?_
  refine x_if_eq rfl rfl (fun _ => ?_) (fun hc2 => absurd hc2 (by decide +kernel))
  refine x_iconstN (b := 0) rfl rfl ?_
  refine x_istore rfl rfl rfl rfl ?_
  refine x_iload rfl rfl rfl ?_
  refine x_if_eq rfl rfl (fun _ => ?_) (fun hc3 => absurd hc3 (by decide +kernel))
  refine x_iconst (v := -1) rfl rfl (by decide +kernel) ?_
  refine x_istore rfl rfl rfl rfl ?_
  refine x_aload_n rfl rfl rfl ?_
  refine x_iload rfl rfl rfl ?_
  refine x_if_ne rfl rfl (fun hc4 => absurd hc4 (by decide +kernel)) (fun _ => ?_)
  refine x_iconstN (b := 1) rfl rfl ?_
  refine x_goto rfl rfl ?_
  refine x_putI rfl rfl f_9_97 rfl rfl (by decide) rfl ?_
  refine x_aload_n rfl rfl rfl ?_
  refine x_getIv (v := nI 1) (by first | rfl | simp [ui, ul]) rfl rfl f_9_97 rfl (by decide) rfl ?_
  refine x_if_le rfl rfl (fun hc5 => absurd hc5 (by decide +kernel)) (fun _ => ?_)
  refine x_iconstN (b := 0) rfl rfl ?_
  exact x_retI rfl rfl rfl (by omega) rfl rfl
set_option maxHeartbeats 4000000 in
set_option maxRecDepth 20000 in
theorem c_mputT (hG : Gok G) (hd : 3 ≤ d) (e v : Int64) {n : Nat} (hn : M.1 (40, 0) 8 = nI n) (hn2 : n ≤ 40) {th : Int32} (ho : ∀ i, i < n → th ≠ nI i) : Ct G mX9_put d [.ref (ga G (40, 0)), .int (th), .long (e), .long (v)] M (.inl (some (.int (nI 0)))) (ui M (40, 0) 0 (nI 1)) 0 := by
  refine ct_of hG okX9_put (by decide +kernel) rfl (Nat.le_of_ble_eq_true rfl) ?_
  refine x_aload_n rfl rfl rfl ?_
  refine x_iload_n rfl rfl rfl ?_
  refine x_callVi (d2 := 1) (c_mhasPairsO (n := n) hG (Nat.le_refl 1) hn (by omega) ho) rfl rfl v_9_162 rfl rfl (by decide) rfl rfl (Nat.le_of_ble_eq_true rfl) (by omega) (by omega) ?_
  refine x_if_eq rfl rfl (fun _ => ?_) (fun hc1 => absurd hc1 (by decide +kernel))
  refine x_iconstN (b := 0) rfl rfl ?_
  refine x_istore rfl rfl rfl rfl ?_
  refine x_iload rfl rfl rfl ?_
  refine x_if_eq rfl rfl (fun _ => ?_) (fun hc2 => absurd hc2 (by decide +kernel))
  refine x_iconstN (b := 0) rfl rfl ?_
  refine x_istore rfl rfl rfl rfl ?_
  refine x_iload rfl rfl rfl ?_
  refine x_if_eq rfl rfl (fun _ => ?_) (fun hc3 => absurd hc3 (by decide +kernel))
  refine x_iconst (v := -1) rfl rfl (by decide +kernel) ?_
  refine x_istore rfl rfl rfl rfl ?_
  refine x_aload_n rfl rfl rfl ?_
  refine x_iload rfl rfl rfl ?_
  refine x_if_ne rfl rfl (fun hc4 => absurd hc4 (by decide +kernel)) (fun _ => ?_)
  refine x_iconstN (b := 1) rfl rfl ?_
  refine x_goto rfl rfl ?_
  refine x_putI rfl rfl f_9_97 rfl rfl (by decide) rfl ?_
  refine x_aload_n rfl rfl rfl ?_
  refine x_getIv (v := nI 1) (by first | rfl | simp [ui, ul]) rfl rfl f_9_97 rfl (by decide) rfl ?_
  refine x_if_le rfl rfl (fun hc5 => absurd hc5 (by decide +kernel)) (fun _ => ?_)
  refine x_iconstN (b := 0) rfl rfl ?_
  exact x_retI rfl rfl rfl (by omega) rfl rfl
end D4
