theorem isTx0 : isTx 0 := Or.inl (by decide +kernel)
section E2
variable {G : Gd} {d : Nat} {M : Mm}
set_option maxHeartbeats 4000000 in
set_option maxRecDepth 20000 in
theorem c_mtraits0O (hG : Gok G) (hd : 2 ≤ d) (nm : Int64) (dy : Prop) (h1 : isTx nm) {tn : Nat} (htn : M.1 (40, 0) 3 = nI tn) (htn2 : tn ≤ 12) {j : Nat} (hf : lxP (mal M nm (bI dy) 0 0 0 0) none 0 tn = some j) (hj : j < tn) : Ct G mX9_traits d [.ref (ga G (40, 0)), .long (nm), .int (bI (dy)), .long (0), .long (0), .long (0)] M (.inl (some (.int (nI j)))) (ui M (40, 0) 0 (nI 0)) 0 := by
  refine ct_of hG okX9_traits (by decide +kernel) rfl (Nat.le_of_ble_eq_true rfl) ?_
  refine x_lload_n rfl rfl rfl ?_
  refine x_callSi (d2 := 1) (c_misText hG (Nat.le_refl 1) (nm)) rfl rfl s_9_117 rfl rfl (Nat.le_of_ble_eq_true rfl) (by omega) (by omega) ?_
  refine x_ifB_eq rfl rfl (fun hc1 => absurd h1 hc1) (fun hc1 => ?_)
  refine x_lload rfl rfl rfl ?_
  refine x_callSi (d2 := 1) (c_misText hG (Nat.le_refl 1) (0)) rfl rfl s_9_117 rfl rfl (Nat.le_of_ble_eq_true rfl) (by omega) (by omega) ?_
  refine x_ifB_eq rfl rfl (fun hc2 => absurd isTx0 hc2) (fun hc2 => ?_)
  refine x_lload rfl rfl rfl ?_
  refine x_callSi (d2 := 1) (c_misText hG (Nat.le_refl 1) (0)) rfl rfl s_9_117 rfl rfl (Nat.le_of_ble_eq_true rfl) (by omega) (by omega) ?_
  refine x_ifB_eq rfl rfl (fun hc3 => absurd isTx0 hc3) (fun hc3 => ?_)
  refine x_lload rfl rfl rfl ?_
  refine x_callSi (d2 := 1) (c_misText hG (Nat.le_refl 1) (0)) rfl rfl s_9_117 rfl rfl (Nat.le_of_ble_eq_true rfl) (by omega) (by omega) ?_
  refine x_ifB_eq rfl rfl (fun hc4 => absurd isTx0 hc4) (fun hc4 => ?_)
  refine x_iconstN (b := 1) rfl rfl ?_
  refine x_goto rfl rfl ?_
  refine x_istore rfl rfl rfl rfl ?_
  refine x_iload rfl rfl rfl ?_
  refine x_if_eq rfl rfl (fun hc5 => absurd hc5 (by decide +kernel)) (fun _ => ?_)
  refine x_lload rfl rfl rfl ?_
  refine x_lconst (v := 0) rfl rfl (by decide +kernel) ?_
  refine x_lc_ne rfl rfl rfl rfl (fun hc6 => absurd rfl hc6) (fun hc6 => ?_)
  refine x_lload rfl rfl rfl ?_
  refine x_lconst (v := 0) rfl rfl (by decide +kernel) ?_
  refine x_lc_ne rfl rfl rfl rfl (fun hc7 => absurd rfl hc7) (fun hc7 => ?_)
  refine x_lload rfl rfl rfl ?_
  refine x_lconst (v := 0) rfl rfl (by decide +kernel) ?_
  refine x_lc_ne rfl rfl rfl rfl (fun hc8 => absurd rfl hc8) (fun hc8 => ?_)
  refine x_lload rfl rfl rfl ?_
  refine x_lconst (v := 0) rfl rfl (by decide +kernel) ?_
  refine x_lc_ne rfl rfl rfl rfl (fun hc9 => absurd rfl hc9) (fun hc9 => ?_)
  refine x_iconstN (b := 1) rfl rfl ?_
  refine x_goto rfl rfl ?_
  refine x_istore rfl rfl rfl rfl ?_
  refine x_iload rfl rfl rfl ?_
  refine x_if_eq rfl rfl (fun hc10 => absurd hc10 (by decide +kernel)) (fun _ => ?_)
  refine x_lload rfl rfl rfl ?_
  refine x_lconst (v := 0) rfl rfl (by decide +kernel) ?_
  refine x_lc_eq rfl rfl rfl rfl (fun hc11 => ?_) (fun hc11 => absurd rfl hc11)
  refine x_lload rfl rfl rfl ?_
  refine x_lconst (v := 0) rfl rfl (by decide +kernel) ?_
  refine x_lc_eq rfl rfl rfl rfl (fun hc12 => ?_) (fun hc12 => absurd rfl hc12)
  refine x_iconstN (b := 1) rfl rfl ?_
  refine x_goto rfl rfl ?_
  refine x_istore rfl rfl rfl rfl ?_
  refine x_lload rfl rfl rfl ?_
  refine x_lconst (v := 0) rfl rfl (by decide +kernel) ?_
  refine x_lc_ne rfl rfl rfl rfl (fun hc13 => absurd rfl hc13) (fun hc13 => ?_)
  refine x_iconstN (b := 0) rfl rfl ?_
  refine x_goto rfl rfl ?_
  refine x_istore rfl rfl rfl rfl ?_
  refine x_iload rfl rfl rfl ?_
  refine x_if_eq rfl rfl (fun hc14 => absurd hc14 (by decide +kernel)) (fun _ => ?_)
  refine x_aload_n rfl rfl rfl ?_
  refine x_lload_n rfl rfl rfl ?_
  refine x_iload_n rfl rfl rfl ?_
  refine x_iload rfl rfl rfl ?_
  refine x_lload rfl rfl rfl ?_
  refine x_lload rfl rfl rfl ?_
  refine x_lload rfl rfl rfl ?_
  refine x_callVi (d2 := 0) (c_malike (m := 0) hG (nm) (dy) (by omega) (0) (0) (0) htn htn2) rfl rfl v_9_145 rfl rfl (by decide) rfl rfl (Nat.le_of_ble_eq_true rfl) (by omega) (by omega) ?_
  refine x_topI (v := nI j) (by rw [hf] <;> rfl) ?_
  refine x_goto rfl rfl ?_
  refine x_istore rfl rfl rfl rfl ?_
  refine x_aload_n rfl rfl rfl ?_
  refine x_iload rfl rfl rfl ?_
  refine x_if_ne rfl rfl (fun _ => ?_) (fun hc15 => absurd hc15 (by decide +kernel))
  refine x_iload rfl rfl rfl ?_
  refine x_iconst (v := -1) rfl rfl (by decide +kernel) ?_
  refine x_icmp_ne rfl rfl (fun hc16 => ?_) (fun hc16 => absurd hc16 (nIm1 (by omega)))
  refine x_iconstN (b := 0) rfl rfl ?_
  refine x_putI rfl rfl f_9_97 rfl rfl (by decide) rfl ?_
  refine x_aload_n rfl rfl rfl ?_
  refine x_getIv (v := nI 0) (by first | rfl | simp [ui, ul]) rfl rfl f_9_97 rfl (by decide) rfl ?_
  refine x_if_le rfl rfl (fun _ => ?_) (fun hc17 => absurd hc17 (by decide +kernel))
  refine x_iload rfl rfl rfl ?_
  refine x_iconst (v := -1) rfl rfl (by decide +kernel) ?_
  refine x_icmp_eq rfl rfl (fun hc18 => absurd hc18 (nIm1 (by omega))) (fun hc18 => ?_)
  refine x_iload rfl rfl rfl ?_
  refine x_goto rfl rfl ?_
  exact x_retI rfl rfl rfl (by omega) rfl rfl
set_option maxHeartbeats 4000000 in
set_option maxRecDepth 20000 in
theorem c_mtraits0N (hG : Gok G) (hd : 2 ≤ d) (nm : Int64) (dy : Prop) (h1 : isTx nm) {tn : Nat} (htn : M.1 (40, 0) 3 = nI tn) (htn2 : tn ≤ 12) (hf : lxP (mal M nm (bI dy) 0 0 0 0) none 0 tn = none) (htn3 : tn < 12) : Ct G mX9_traits d [.ref (ga G (40, 0)), .long (nm), .int (bI (dy)), .long (0), .long (0), .long (0)] M (.inl (some (.int (nI tn)))) (ui (ul (ul (ul (ui (ui (ul (ui M (40, 0) 0 (nI 0)) (42, 0) tn nm) (43, 0) tn (bI (dy))) (44, 0) tn (nI 0)) (45, 0) (3 * tn) 0) (45, 0) ((3 * tn) + 1) 0) (45, 0) ((3 * tn) + 2) 0) (40, 0) 3 (nI (tn + 1))) 0 := by
  refine ct_of hG okX9_traits (by decide +kernel) rfl (Nat.le_of_ble_eq_true rfl) ?_
  refine x_lload_n rfl rfl rfl ?_
  refine x_callSi (d2 := 1) (c_misText hG (Nat.le_refl 1) (nm)) rfl rfl s_9_117 rfl rfl (Nat.le_of_ble_eq_true rfl) (by omega) (by omega) ?_
  refine x_ifB_eq rfl rfl (fun hc1 => absurd h1 hc1) (fun hc1 => ?_)
  refine x_lload rfl rfl rfl ?_
  refine x_callSi (d2 := 1) (c_misText hG (Nat.le_refl 1) (0)) rfl rfl s_9_117 rfl rfl (Nat.le_of_ble_eq_true rfl) (by omega) (by omega) ?_
  refine x_ifB_eq rfl rfl (fun hc2 => absurd isTx0 hc2) (fun hc2 => ?_)
  refine x_lload rfl rfl rfl ?_
  refine x_callSi (d2 := 1) (c_misText hG (Nat.le_refl 1) (0)) rfl rfl s_9_117 rfl rfl (Nat.le_of_ble_eq_true rfl) (by omega) (by omega) ?_
  refine x_ifB_eq rfl rfl (fun hc3 => absurd isTx0 hc3) (fun hc3 => ?_)
  refine x_lload rfl rfl rfl ?_
  refine x_callSi (d2 := 1) (c_misText hG (Nat.le_refl 1) (0)) rfl rfl s_9_117 rfl rfl (Nat.le_of_ble_eq_true rfl) (by omega) (by omega) ?_
  refine x_ifB_eq rfl rfl (fun hc4 => absurd isTx0 hc4) (fun hc4 => ?_)
  refine x_iconstN (b := 1) rfl rfl ?_
  refine x_goto rfl rfl ?_
  refine x_istore rfl rfl rfl rfl ?_
  refine x_iload rfl rfl rfl ?_
  refine x_if_eq rfl rfl (fun hc5 => absurd hc5 (by decide +kernel)) (fun _ => ?_)
  refine x_lload rfl rfl rfl ?_
  refine x_lconst (v := 0) rfl rfl (by decide +kernel) ?_
  refine x_lc_ne rfl rfl rfl rfl (fun hc6 => absurd rfl hc6) (fun hc6 => ?_)
  refine x_lload rfl rfl rfl ?_
  refine x_lconst (v := 0) rfl rfl (by decide +kernel) ?_
  refine x_lc_ne rfl rfl rfl rfl (fun hc7 => absurd rfl hc7) (fun hc7 => ?_)
  refine x_lload rfl rfl rfl ?_
  refine x_lconst (v := 0) rfl rfl (by decide +kernel) ?_
  refine x_lc_ne rfl rfl rfl rfl (fun hc8 => absurd rfl hc8) (fun hc8 => ?_)
  refine x_lload rfl rfl rfl ?_
  refine x_lconst (v := 0) rfl rfl (by decide +kernel) ?_
  refine x_lc_ne rfl rfl rfl rfl (fun hc9 => absurd rfl hc9) (fun hc9 => ?_)
  refine x_iconstN (b := 1) rfl rfl ?_
  refine x_goto rfl rfl ?_
  refine x_istore rfl rfl rfl rfl ?_
  refine x_iload rfl rfl rfl ?_
  refine x_if_eq rfl rfl (fun hc10 => absurd hc10 (by decide +kernel)) (fun _ => ?_)
  refine x_lload rfl rfl rfl ?_
  refine x_lconst (v := 0) rfl rfl (by decide +kernel) ?_
  refine x_lc_eq rfl rfl rfl rfl (fun hc11 => ?_) (fun hc11 => absurd rfl hc11)
  refine x_lload rfl rfl rfl ?_
  refine x_lconst (v := 0) rfl rfl (by decide +kernel) ?_
  refine x_lc_eq rfl rfl rfl rfl (fun hc12 => ?_) (fun hc12 => absurd rfl hc12)
  refine x_iconstN (b := 1) rfl rfl ?_
  refine x_goto rfl rfl ?_
  refine x_istore rfl rfl rfl rfl ?_
  refine x_lload rfl rfl rfl ?_
  refine x_lconst (v := 0) rfl rfl (by decide +kernel) ?_
  refine x_lc_ne rfl rfl rfl rfl (fun hc13 => absurd rfl hc13) (fun hc13 => ?_)
  refine x_iconstN (b := 0) rfl rfl ?_
  refine x_goto rfl rfl ?_
  refine x_istore rfl rfl rfl rfl ?_
  refine x_iload rfl rfl rfl ?_
  refine x_if_eq rfl rfl (fun hc14 => absurd hc14 (by decide +kernel)) (fun _ => ?_)
  refine x_aload_n rfl rfl rfl ?_
  refine x_lload_n rfl rfl rfl ?_
  refine x_iload_n rfl rfl rfl ?_
  refine x_iload rfl rfl rfl ?_
  refine x_lload rfl rfl rfl ?_
  refine x_lload rfl rfl rfl ?_
  refine x_lload rfl rfl rfl ?_
  refine x_callVi (d2 := 0) (c_malike (m := 0) hG (nm) (dy) (by omega) (0) (0) (0) htn htn2) rfl rfl v_9_145 rfl rfl (by decide) rfl rfl (Nat.le_of_ble_eq_true rfl) (by omega) (by omega) ?_
  refine x_topI (v := -1) (by rw [hf] <;> rfl) ?_
  refine x_goto rfl rfl ?_
  refine x_istore rfl rfl rfl rfl ?_
  refine x_aload_n rfl rfl rfl ?_
  refine x_iload rfl rfl rfl ?_
  refine x_if_ne rfl rfl (fun _ => ?_) (fun hc15 => absurd hc15 (by decide +kernel))
  refine x_iload rfl rfl rfl ?_
  refine x_iconst (v := -1) rfl rfl (by decide +kernel) ?_
  refine x_icmp_ne rfl rfl (fun hc16 => absurd rfl hc16) (fun hc16 => ?_)
  refine x_aload_n rfl rfl rfl ?_
  refine x_getIv (v := nI tn) htn rfl rfl f_9_142 rfl (by decide) rfl ?_
  refine x_bipush (v := nI 12) rfl rfl (by decide +kernel) ?_
  refine x_icmpN_ne (by omega) (by omega) rfl rfl (fun hc17 => ?_) (fun hc17 => absurd hc17 (by omega))
  refine x_iconstN (b := 0) rfl rfl ?_
  refine x_putI rfl rfl f_9_97 rfl rfl (by decide) rfl ?_
  refine x_aload_n rfl rfl rfl ?_
  refine x_getIv (v := nI 0) (by first | rfl | simp [ui, ul]) rfl rfl f_9_97 rfl (by decide) rfl ?_
  refine x_if_le rfl rfl (fun _ => ?_) (fun hc18 => absurd hc18 (by decide +kernel))
  refine x_iload rfl rfl rfl ?_
  refine x_iconst (v := -1) rfl rfl (by decide +kernel) ?_
  refine x_icmp_eq rfl rfl (fun hc19 => ?_) (fun hc19 => absurd rfl hc19)
  refine x_aload_n rfl rfl rfl ?_
  refine x_lload_n rfl rfl rfl ?_
  refine x_iload_n rfl rfl rfl ?_
  refine x_iload rfl rfl rfl ?_
  refine x_lload rfl rfl rfl ?_
  refine x_lload rfl rfl rfl ?_
  refine x_lload rfl rfl rfl ?_
  refine x_callVi (d2 := 0) (c_mnewTraits (tn := tn) hG (nm) (dy) (0) (0) (0) (0) (by first | exact htn | (rw [← htn]; rfl) | simp [ui, ul, htn]) (by omega)) rfl rfl v_9_149 rfl rfl (by decide) rfl rfl (Nat.le_of_ble_eq_true rfl) (by omega) (by omega) ?_
  exact x_retI rfl rfl rfl (by omega) rfl rfl
set_option maxHeartbeats 4000000 in
set_option maxRecDepth 20000 in
theorem c_mtraits0X (hG : Gok G) (hd : 2 ≤ d) (nm : Int64) (dy : Prop) (h1 : isTx nm) (htn : M.1 (40, 0) 3 = nI 12) (hf : lxP (mal M nm (bI dy) 0 0 0 0) none 0 12 = none) : Ct G mX9_traits d [.ref (ga G (40, 0)), .long (nm), .int (bI (dy)), .long (0), .long (0), .long (0)] M (.inl (some (.int (nI 0)))) (ui M (40, 0) 0 (nI 2)) 0 := by
  refine ct_of hG okX9_traits (by decide +kernel) rfl (Nat.le_of_ble_eq_true rfl) ?_
  refine x_lload_n rfl rfl rfl ?_
  refine x_callSi (d2 := 1) (c_misText hG (Nat.le_refl 1) (nm)) rfl rfl s_9_117 rfl rfl (Nat.le_of_ble_eq_true rfl) (by omega) (by omega) ?_
  refine x_ifB_eq rfl rfl (fun hc1 => absurd h1 hc1) (fun hc1 => ?_)
  refine x_lload rfl rfl rfl ?_
  refine x_callSi (d2 := 1) (c_misText hG (Nat.le_refl 1) (0)) rfl rfl s_9_117 rfl rfl (Nat.le_of_ble_eq_true rfl) (by omega) (by omega) ?_
  refine x_ifB_eq rfl rfl (fun hc2 => absurd isTx0 hc2) (fun hc2 => ?_)
  refine x_lload rfl rfl rfl ?_
  refine x_callSi (d2 := 1) (c_misText hG (Nat.le_refl 1) (0)) rfl rfl s_9_117 rfl rfl (Nat.le_of_ble_eq_true rfl) (by omega) (by omega) ?_
  refine x_ifB_eq rfl rfl (fun hc3 => absurd isTx0 hc3) (fun hc3 => ?_)
  refine x_lload rfl rfl rfl ?_
  refine x_callSi (d2 := 1) (c_misText hG (Nat.le_refl 1) (0)) rfl rfl s_9_117 rfl rfl (Nat.le_of_ble_eq_true rfl) (by omega) (by omega) ?_
  refine x_ifB_eq rfl rfl (fun hc4 => absurd isTx0 hc4) (fun hc4 => ?_)
  refine x_iconstN (b := 1) rfl rfl ?_
  refine x_goto rfl rfl ?_
  refine x_istore rfl rfl rfl rfl ?_
  refine x_iload rfl rfl rfl ?_
  refine x_if_eq rfl rfl (fun hc5 => absurd hc5 (by decide +kernel)) (fun _ => ?_)
  refine x_lload rfl rfl rfl ?_
  refine x_lconst (v := 0) rfl rfl (by decide +kernel) ?_
  refine x_lc_ne rfl rfl rfl rfl (fun hc6 => absurd rfl hc6) (fun hc6 => ?_)
  refine x_lload rfl rfl rfl ?_
  refine x_lconst (v := 0) rfl rfl (by decide +kernel) ?_
  refine x_lc_ne rfl rfl rfl rfl (fun hc7 => absurd rfl hc7) (fun hc7 => ?_)
  refine x_lload rfl rfl rfl ?_
  refine x_lconst (v := 0) rfl rfl (by decide +kernel) ?_
  refine x_lc_ne rfl rfl rfl rfl (fun hc8 => absurd rfl hc8) (fun hc8 => ?_)
  refine x_lload rfl rfl rfl ?_
  refine x_lconst (v := 0) rfl rfl (by decide +kernel) ?_
  refine x_lc_ne rfl rfl rfl rfl (fun hc9 => absurd rfl hc9) (fun hc9 => ?_)
  refine x_iconstN (b := 1) rfl rfl ?_
  refine x_goto rfl rfl ?_
  refine x_istore rfl rfl rfl rfl ?_
  refine x_iload rfl rfl rfl ?_
  refine x_if_eq rfl rfl (fun hc10 => absurd hc10 (by decide +kernel)) (fun _ => ?_)
  refine x_lload rfl rfl rfl ?_
  refine x_lconst (v := 0) rfl rfl (by decide +kernel) ?_
  refine x_lc_eq rfl rfl rfl rfl (fun hc11 => ?_) (fun hc11 => absurd rfl hc11)
  refine x_lload rfl rfl rfl ?_
  refine x_lconst (v := 0) rfl rfl (by decide +kernel) ?_
  refine x_lc_eq rfl rfl rfl rfl (fun hc12 => ?_) (fun hc12 => absurd rfl hc12)
  refine x_iconstN (b := 1) rfl rfl ?_
  refine x_goto rfl rfl ?_
  refine x_istore rfl rfl rfl rfl ?_
  refine x_lload rfl rfl rfl ?_
  refine x_lconst (v := 0) rfl rfl (by decide +kernel) ?_
  refine x_lc_ne rfl rfl rfl rfl (fun hc13 => absurd rfl hc13) (fun hc13 => ?_)
  refine x_iconstN (b := 0) rfl rfl ?_
  refine x_goto rfl rfl ?_
  refine x_istore rfl rfl rfl rfl ?_
  refine x_iload rfl rfl rfl ?_
  refine x_if_eq rfl rfl (fun hc14 => absurd hc14 (by decide +kernel)) (fun _ => ?_)
  refine x_aload_n rfl rfl rfl ?_
  refine x_lload_n rfl rfl rfl ?_
  refine x_iload_n rfl rfl rfl ?_
  refine x_iload rfl rfl rfl ?_
  refine x_lload rfl rfl rfl ?_
  refine x_lload rfl rfl rfl ?_
  refine x_lload rfl rfl rfl ?_
  refine x_callVi (d2 := 0) (c_malike (m := 0) hG (nm) (dy) (by omega) (0) (0) (0) htn (Nat.le_refl 12)) rfl rfl v_9_145 rfl rfl (by decide) rfl rfl (Nat.le_of_ble_eq_true rfl) (by omega) (by omega) ?_
  refine x_topI (v := -1) (by rw [hf] <;> rfl) ?_
  refine x_goto rfl rfl ?_
  refine x_istore rfl rfl rfl rfl ?_
  refine x_aload_n rfl rfl rfl ?_
  refine x_iload rfl rfl rfl ?_
  refine x_if_ne rfl rfl (fun _ => ?_) (fun hc15 => absurd hc15 (by decide +kernel))
  refine x_iload rfl rfl rfl ?_
  refine x_iconst (v := -1) rfl rfl (by decide +kernel) ?_
  refine x_icmp_ne rfl rfl (fun hc16 => absurd rfl hc16) (fun hc16 => ?_)
  refine x_aload_n rfl rfl rfl ?_
  refine x_getIv (v := nI 12) htn rfl rfl f_9_142 rfl (by decide) rfl ?_
  refine x_bipush (v := nI 12) rfl rfl (by decide +kernel) ?_
  refine x_icmpN_ne (by omega) (by omega) rfl rfl (fun hc17 => absurd hc17 (by omega)) (fun hc17 => ?_)
  refine x_iconstN (b := 2) rfl rfl ?_
  refine x_goto rfl rfl ?_
  refine x_putI rfl rfl f_9_97 rfl rfl (by decide) rfl ?_
  refine x_aload_n rfl rfl rfl ?_
  refine x_getIv (v := nI 2) (by first | rfl | simp [ui, ul]) rfl rfl f_9_97 rfl (by decide) rfl ?_
  refine x_if_le rfl rfl (fun hc18 => absurd hc18 (by decide +kernel)) (fun _ => ?_)
  refine x_iconstN (b := 0) rfl rfl ?_
  exact x_retI rfl rfl rfl (by omega) rfl rfl
set_option maxHeartbeats 4000000 in
set_option maxRecDepth 20000 in
theorem c_mtraits1O (hG : Gok G) (hd : 2 ≤ d) (nm : Int64) (dy : Prop) (a : Int64) (ha0 : a ≠ 0) (hta : isTx a) (h1 : isTx nm) {tn : Nat} (htn : M.1 (40, 0) 3 = nI tn) (htn2 : tn ≤ 12) {j : Nat} (hf : lxP (mal M nm (bI dy) 1 a 0 0) none 0 tn = some j) (hj : j < tn) : Ct G mX9_traits d [.ref (ga G (40, 0)), .long (nm), .int (bI (dy)), .long (a), .long (0), .long (0)] M (.inl (some (.int (nI j)))) (ui M (40, 0) 0 (nI 0)) 0 := by
  refine ct_of hG okX9_traits (by decide +kernel) rfl (Nat.le_of_ble_eq_true rfl) ?_
  refine x_lload_n rfl rfl rfl ?_
  refine x_callSi (d2 := 1) (c_misText hG (Nat.le_refl 1) (nm)) rfl rfl s_9_117 rfl rfl (Nat.le_of_ble_eq_true rfl) (by omega) (by omega) ?_
  refine x_ifB_eq rfl rfl (fun hc1 => absurd h1 hc1) (fun hc1 => ?_)
  refine x_lload rfl rfl rfl ?_
  refine x_callSi (d2 := 1) (c_misText hG (Nat.le_refl 1) (a)) rfl rfl s_9_117 rfl rfl (Nat.le_of_ble_eq_true rfl) (by omega) (by omega) ?_
  refine x_ifB_eq rfl rfl (fun hc2 => absurd hta hc2) (fun hc2 => ?_)
  refine x_lload rfl rfl rfl ?_
  refine x_callSi (d2 := 1) (c_misText hG (Nat.le_refl 1) (0)) rfl rfl s_9_117 rfl rfl (Nat.le_of_ble_eq_true rfl) (by omega) (by omega) ?_
  refine x_ifB_eq rfl rfl (fun hc3 => absurd isTx0 hc3) (fun hc3 => ?_)
  refine x_lload rfl rfl rfl ?_
  refine x_callSi (d2 := 1) (c_misText hG (Nat.le_refl 1) (0)) rfl rfl s_9_117 rfl rfl (Nat.le_of_ble_eq_true rfl) (by omega) (by omega) ?_
  refine x_ifB_eq rfl rfl (fun hc4 => absurd isTx0 hc4) (fun hc4 => ?_)
  refine x_iconstN (b := 1) rfl rfl ?_
  refine x_goto rfl rfl ?_
  refine x_istore rfl rfl rfl rfl ?_
  refine x_iload rfl rfl rfl ?_
  refine x_if_eq rfl rfl (fun hc5 => absurd hc5 (by decide +kernel)) (fun _ => ?_)
  refine x_lload rfl rfl rfl ?_
  refine x_lconst (v := 0) rfl rfl (by decide +kernel) ?_
  refine x_lc_ne rfl rfl rfl rfl (fun hc6 => ?_) (fun hc6 => absurd hc6 ha0)
  refine x_lload rfl rfl rfl ?_
  refine x_lconst (v := 0) rfl rfl (by decide +kernel) ?_
  refine x_lc_ne rfl rfl rfl rfl (fun hc7 => absurd rfl hc7) (fun hc7 => ?_)
  refine x_lload rfl rfl rfl ?_
  refine x_lconst (v := 0) rfl rfl (by decide +kernel) ?_
  refine x_lc_ne rfl rfl rfl rfl (fun hc8 => absurd rfl hc8) (fun hc8 => ?_)
  refine x_iconstN (b := 1) rfl rfl ?_
  refine x_goto rfl rfl ?_
  refine x_istore rfl rfl rfl rfl ?_
  refine x_iload rfl rfl rfl ?_
  refine x_if_eq rfl rfl (fun hc9 => absurd hc9 (by decide +kernel)) (fun _ => ?_)
  refine x_lload rfl rfl rfl ?_
  refine x_lconst (v := 0) rfl rfl (by decide +kernel) ?_
  refine x_lc_eq rfl rfl rfl rfl (fun hc10 => absurd hc10 ha0) (fun hc10 => ?_)
  refine x_lload rfl rfl rfl ?_
  refine x_lload rfl rfl rfl ?_
  refine x_lc_eq rfl rfl rfl rfl (fun hc11 => absurd hc11 ha0) (fun hc11 => ?_)
  refine x_lload rfl rfl rfl ?_
  refine x_lload rfl rfl rfl ?_
  refine x_lc_eq rfl rfl rfl rfl (fun hc12 => absurd hc12 ha0) (fun hc12 => ?_)
  refine x_lload rfl rfl rfl ?_
  refine x_lconst (v := 0) rfl rfl (by decide +kernel) ?_
  refine x_lc_eq rfl rfl rfl rfl (fun hc13 => ?_) (fun hc13 => absurd rfl hc13)
  refine x_iconstN (b := 1) rfl rfl ?_
  refine x_goto rfl rfl ?_
  refine x_istore rfl rfl rfl rfl ?_
  refine x_lload rfl rfl rfl ?_
  refine x_lconst (v := 0) rfl rfl (by decide +kernel) ?_
  refine x_lc_ne rfl rfl rfl rfl (fun hc14 => ?_) (fun hc14 => absurd hc14 ha0)
  refine x_lload rfl rfl rfl ?_
  refine x_lconst (v := 0) rfl rfl (by decide +kernel) ?_
  refine x_lc_ne rfl rfl rfl rfl (fun hc15 => absurd rfl hc15) (fun hc15 => ?_)
  refine x_iconstN (b := 1) rfl rfl ?_
  refine x_goto rfl rfl ?_
  refine x_istore rfl rfl rfl rfl ?_
  refine x_iload rfl rfl rfl ?_
  refine x_if_eq rfl rfl (fun hc16 => absurd hc16 (by decide +kernel)) (fun _ => ?_)
  refine x_aload_n rfl rfl rfl ?_
  refine x_lload_n rfl rfl rfl ?_
  refine x_iload_n rfl rfl rfl ?_
  refine x_iload rfl rfl rfl ?_
  refine x_lload rfl rfl rfl ?_
  refine x_lload rfl rfl rfl ?_
  refine x_lload rfl rfl rfl ?_
  refine x_callVi (d2 := 0) (c_malike (m := 1) hG (nm) (dy) (by omega) (a) (0) (0) htn htn2) rfl rfl v_9_145 rfl rfl (by decide) rfl rfl (Nat.le_of_ble_eq_true rfl) (by omega) (by omega) ?_
  refine x_topI (v := nI j) (by rw [hf] <;> rfl) ?_
  refine x_goto rfl rfl ?_
  refine x_istore rfl rfl rfl rfl ?_
  refine x_aload_n rfl rfl rfl ?_
  refine x_iload rfl rfl rfl ?_
  refine x_if_ne rfl rfl (fun _ => ?_) (fun hc17 => absurd hc17 (by decide +kernel))
  refine x_iload rfl rfl rfl ?_
  refine x_iconst (v := -1) rfl rfl (by decide +kernel) ?_
  refine x_icmp_ne rfl rfl (fun hc18 => ?_) (fun hc18 => absurd hc18 (nIm1 (by omega)))
  refine x_iconstN (b := 0) rfl rfl ?_
  refine x_putI rfl rfl f_9_97 rfl rfl (by decide) rfl ?_
  refine x_aload_n rfl rfl rfl ?_
  refine x_getIv (v := nI 0) (by first | rfl | simp [ui, ul]) rfl rfl f_9_97 rfl (by decide) rfl ?_
  refine x_if_le rfl rfl (fun _ => ?_) (fun hc19 => absurd hc19 (by decide +kernel))
  refine x_iload rfl rfl rfl ?_
  refine x_iconst (v := -1) rfl rfl (by decide +kernel) ?_
  refine x_icmp_eq rfl rfl (fun hc20 => absurd hc20 (nIm1 (by omega))) (fun hc20 => ?_)
  refine x_iload rfl rfl rfl ?_
  refine x_goto rfl rfl ?_
  exact x_retI rfl rfl rfl (by omega) rfl rfl
set_option maxHeartbeats 4000000 in
set_option maxRecDepth 20000 in
theorem c_mtraits1N (hG : Gok G) (hd : 2 ≤ d) (nm : Int64) (dy : Prop) (a : Int64) (ha0 : a ≠ 0) (hta : isTx a) (h1 : isTx nm) {tn : Nat} (htn : M.1 (40, 0) 3 = nI tn) (htn2 : tn ≤ 12) (hf : lxP (mal M nm (bI dy) 1 a 0 0) none 0 tn = none) (htn3 : tn < 12) : Ct G mX9_traits d [.ref (ga G (40, 0)), .long (nm), .int (bI (dy)), .long (a), .long (0), .long (0)] M (.inl (some (.int (nI tn)))) (ui (ul (ul (ul (ui (ui (ul (ui M (40, 0) 0 (nI 0)) (42, 0) tn nm) (43, 0) tn (bI (dy))) (44, 0) tn (nI 1)) (45, 0) (3 * tn) a) (45, 0) ((3 * tn) + 1) 0) (45, 0) ((3 * tn) + 2) 0) (40, 0) 3 (nI (tn + 1))) 0 := by
  refine ct_of hG okX9_traits (by decide +kernel) rfl (Nat.le_of_ble_eq_true rfl) ?_
  refine x_lload_n rfl rfl rfl ?_
  refine x_callSi (d2 := 1) (c_misText hG (Nat.le_refl 1) (nm)) rfl rfl s_9_117 rfl rfl (Nat.le_of_ble_eq_true rfl) (by omega) (by omega) ?_
  refine x_ifB_eq rfl rfl (fun hc1 => absurd h1 hc1) (fun hc1 => ?_)
  refine x_lload rfl rfl rfl ?_
  refine x_callSi (d2 := 1) (c_misText hG (Nat.le_refl 1) (a)) rfl rfl s_9_117 rfl rfl (Nat.le_of_ble_eq_true rfl) (by omega) (by omega) ?_
  refine x_ifB_eq rfl rfl (fun hc2 => absurd hta hc2) (fun hc2 => ?_)
  refine x_lload rfl rfl rfl ?_
  refine x_callSi (d2 := 1) (c_misText hG (Nat.le_refl 1) (0)) rfl rfl s_9_117 rfl rfl (Nat.le_of_ble_eq_true rfl) (by omega) (by omega) ?_
  refine x_ifB_eq rfl rfl (fun hc3 => absurd isTx0 hc3) (fun hc3 => ?_)
  refine x_lload rfl rfl rfl ?_
  refine x_callSi (d2 := 1) (c_misText hG (Nat.le_refl 1) (0)) rfl rfl s_9_117 rfl rfl (Nat.le_of_ble_eq_true rfl) (by omega) (by omega) ?_
  refine x_ifB_eq rfl rfl (fun hc4 => absurd isTx0 hc4) (fun hc4 => ?_)
  refine x_iconstN (b := 1) rfl rfl ?_
  refine x_goto rfl rfl ?_
  refine x_istore rfl rfl rfl rfl ?_
  refine x_iload rfl rfl rfl ?_
  refine x_if_eq rfl rfl (fun hc5 => absurd hc5 (by decide +kernel)) (fun _ => ?_)
  refine x_lload rfl rfl rfl ?_
  refine x_lconst (v := 0) rfl rfl (by decide +kernel) ?_
  refine x_lc_ne rfl rfl rfl rfl (fun hc6 => ?_) (fun hc6 => absurd hc6 ha0)
  refine x_lload rfl rfl rfl ?_
  refine x_lconst (v := 0) rfl rfl (by decide +kernel) ?_
  refine x_lc_ne rfl rfl rfl rfl (fun hc7 => absurd rfl hc7) (fun hc7 => ?_)
  refine x_lload rfl rfl rfl ?_
  refine x_lconst (v := 0) rfl rfl (by decide +kernel) ?_
  refine x_lc_ne rfl rfl rfl rfl (fun hc8 => absurd rfl hc8) (fun hc8 => ?_)
  refine x_iconstN (b := 1) rfl rfl ?_
  refine x_goto rfl rfl ?_
  refine x_istore rfl rfl rfl rfl ?_
  refine x_iload rfl rfl rfl ?_
  refine x_if_eq rfl rfl (fun hc9 => absurd hc9 (by decide +kernel)) (fun _ => ?_)
  refine x_lload rfl rfl rfl ?_
  refine x_lconst (v := 0) rfl rfl (by decide +kernel) ?_
  refine x_lc_eq rfl rfl rfl rfl (fun hc10 => absurd hc10 ha0) (fun hc10 => ?_)
  refine x_lload rfl rfl rfl ?_
  refine x_lload rfl rfl rfl ?_
  refine x_lc_eq rfl rfl rfl rfl (fun hc11 => absurd hc11 ha0) (fun hc11 => ?_)
  refine x_lload rfl rfl rfl ?_
  refine x_lload rfl rfl rfl ?_
  refine x_lc_eq rfl rfl rfl rfl (fun hc12 => absurd hc12 ha0) (fun hc12 => ?_)
  refine x_lload rfl rfl rfl ?_
  refine x_lconst (v := 0) rfl rfl (by decide +kernel) ?_
  refine x_lc_eq rfl rfl rfl rfl (fun hc13 => ?_) (fun hc13 => absurd rfl hc13)
  refine x_iconstN (b := 1) rfl rfl ?_
  refine x_goto rfl rfl ?_
  refine x_istore rfl rfl rfl rfl ?_
  refine x_lload rfl rfl rfl ?_
  refine x_lconst (v := 0) rfl rfl (by decide +kernel) ?_
  refine x_lc_ne rfl rfl rfl rfl (fun hc14 => ?_) (fun hc14 => absurd hc14 ha0)
  refine x_lload rfl rfl rfl ?_
  refine x_lconst (v := 0) rfl rfl (by decide +kernel) ?_
  refine x_lc_ne rfl rfl rfl rfl (fun hc15 => absurd rfl hc15) (fun hc15 => ?_)
  refine x_iconstN (b := 1) rfl rfl ?_
  refine x_goto rfl rfl ?_
  refine x_istore rfl rfl rfl rfl ?_
  refine x_iload rfl rfl rfl ?_
  refine x_if_eq rfl rfl (fun hc16 => absurd hc16 (by decide +kernel)) (fun _ => ?_)
  refine x_aload_n rfl rfl rfl ?_
  refine x_lload_n rfl rfl rfl ?_
  refine x_iload_n rfl rfl rfl ?_
  refine x_iload rfl rfl rfl ?_
  refine x_lload rfl rfl rfl ?_
  refine x_lload rfl rfl rfl ?_
  refine x_lload rfl rfl rfl ?_
  refine x_callVi (d2 := 0) (c_malike (m := 1) hG (nm) (dy) (by omega) (a) (0) (0) htn htn2) rfl rfl v_9_145 rfl rfl (by decide) rfl rfl (Nat.le_of_ble_eq_true rfl) (by omega) (by omega) ?_
  refine x_topI (v := -1) (by rw [hf] <;> rfl) ?_
  refine x_goto rfl rfl ?_
  refine x_istore rfl rfl rfl rfl ?_
  refine x_aload_n rfl rfl rfl ?_
  refine x_iload rfl rfl rfl ?_
  refine x_if_ne rfl rfl (fun _ => ?_) (fun hc17 => absurd hc17 (by decide +kernel))
  refine x_iload rfl rfl rfl ?_
  refine x_iconst (v := -1) rfl rfl (by decide +kernel) ?_
  refine x_icmp_ne rfl rfl (fun hc18 => absurd rfl hc18) (fun hc18 => ?_)
  refine x_aload_n rfl rfl rfl ?_
  refine x_getIv (v := nI tn) htn rfl rfl f_9_142 rfl (by decide) rfl ?_
  refine x_bipush (v := nI 12) rfl rfl (by decide +kernel) ?_
  refine x_icmpN_ne (by omega) (by omega) rfl rfl (fun hc19 => ?_) (fun hc19 => absurd hc19 (by omega))
  refine x_iconstN (b := 0) rfl rfl ?_
  refine x_putI rfl rfl f_9_97 rfl rfl (by decide) rfl ?_
  refine x_aload_n rfl rfl rfl ?_
  refine x_getIv (v := nI 0) (by first | rfl | simp [ui, ul]) rfl rfl f_9_97 rfl (by decide) rfl ?_
  refine x_if_le rfl rfl (fun _ => ?_) (fun hc20 => absurd hc20 (by decide +kernel))
  refine x_iload rfl rfl rfl ?_
  refine x_iconst (v := -1) rfl rfl (by decide +kernel) ?_
  refine x_icmp_eq rfl rfl (fun hc21 => ?_) (fun hc21 => absurd rfl hc21)
  refine x_aload_n rfl rfl rfl ?_
  refine x_lload_n rfl rfl rfl ?_
  refine x_iload_n rfl rfl rfl ?_
  refine x_iload rfl rfl rfl ?_
  refine x_lload rfl rfl rfl ?_
  refine x_lload rfl rfl rfl ?_
  refine x_lload rfl rfl rfl ?_
  refine x_callVi (d2 := 0) (c_mnewTraits (tn := tn) hG (nm) (dy) (1) (a) (0) (0) (by first | exact htn | (rw [← htn]; rfl) | simp [ui, ul, htn]) (by omega)) rfl rfl v_9_149 rfl rfl (by decide) rfl rfl (Nat.le_of_ble_eq_true rfl) (by omega) (by omega) ?_
  exact x_retI rfl rfl rfl (by omega) rfl rfl
set_option maxHeartbeats 4000000 in
set_option maxRecDepth 20000 in
theorem c_mtraits1X (hG : Gok G) (hd : 2 ≤ d) (nm : Int64) (dy : Prop) (a : Int64) (ha0 : a ≠ 0) (hta : isTx a) (h1 : isTx nm) (htn : M.1 (40, 0) 3 = nI 12) (hf : lxP (mal M nm (bI dy) 1 a 0 0) none 0 12 = none) : Ct G mX9_traits d [.ref (ga G (40, 0)), .long (nm), .int (bI (dy)), .long (a), .long (0), .long (0)] M (.inl (some (.int (nI 0)))) (ui M (40, 0) 0 (nI 2)) 0 := by
  refine ct_of hG okX9_traits (by decide +kernel) rfl (Nat.le_of_ble_eq_true rfl) ?_
  refine x_lload_n rfl rfl rfl ?_
  refine x_callSi (d2 := 1) (c_misText hG (Nat.le_refl 1) (nm)) rfl rfl s_9_117 rfl rfl (Nat.le_of_ble_eq_true rfl) (by omega) (by omega) ?_
  refine x_ifB_eq rfl rfl (fun hc1 => absurd h1 hc1) (fun hc1 => ?_)
  refine x_lload rfl rfl rfl ?_
  refine x_callSi (d2 := 1) (c_misText hG (Nat.le_refl 1) (a)) rfl rfl s_9_117 rfl rfl (Nat.le_of_ble_eq_true rfl) (by omega) (by omega) ?_
  refine x_ifB_eq rfl rfl (fun hc2 => absurd hta hc2) (fun hc2 => ?_)
  refine x_lload rfl rfl rfl ?_
  refine x_callSi (d2 := 1) (c_misText hG (Nat.le_refl 1) (0)) rfl rfl s_9_117 rfl rfl (Nat.le_of_ble_eq_true rfl) (by omega) (by omega) ?_
  refine x_ifB_eq rfl rfl (fun hc3 => absurd isTx0 hc3) (fun hc3 => ?_)
  refine x_lload rfl rfl rfl ?_
  refine x_callSi (d2 := 1) (c_misText hG (Nat.le_refl 1) (0)) rfl rfl s_9_117 rfl rfl (Nat.le_of_ble_eq_true rfl) (by omega) (by omega) ?_
  refine x_ifB_eq rfl rfl (fun hc4 => absurd isTx0 hc4) (fun hc4 => ?_)
  refine x_iconstN (b := 1) rfl rfl ?_
  refine x_goto rfl rfl ?_
  refine x_istore rfl rfl rfl rfl ?_
  refine x_iload rfl rfl rfl ?_
  refine x_if_eq rfl rfl (fun hc5 => absurd hc5 (by decide +kernel)) (fun _ => ?_)
  refine x_lload rfl rfl rfl ?_
  refine x_lconst (v := 0) rfl rfl (by decide +kernel) ?_
  refine x_lc_ne rfl rfl rfl rfl (fun hc6 => ?_) (fun hc6 => absurd hc6 ha0)
  refine x_lload rfl rfl rfl ?_
  refine x_lconst (v := 0) rfl rfl (by decide +kernel) ?_
  refine x_lc_ne rfl rfl rfl rfl (fun hc7 => absurd rfl hc7) (fun hc7 => ?_)
  refine x_lload rfl rfl rfl ?_
  refine x_lconst (v := 0) rfl rfl (by decide +kernel) ?_
  refine x_lc_ne rfl rfl rfl rfl (fun hc8 => absurd rfl hc8) (fun hc8 => ?_)
  refine x_iconstN (b := 1) rfl rfl ?_
  refine x_goto rfl rfl ?_
  refine x_istore rfl rfl rfl rfl ?_
  refine x_iload rfl rfl rfl ?_
  refine x_if_eq rfl rfl (fun hc9 => absurd hc9 (by decide +kernel)) (fun _ => ?_)
  refine x_lload rfl rfl rfl ?_
  refine x_lconst (v := 0) rfl rfl (by decide +kernel) ?_
  refine x_lc_eq rfl rfl rfl rfl (fun hc10 => absurd hc10 ha0) (fun hc10 => ?_)
  refine x_lload rfl rfl rfl ?_
  refine x_lload rfl rfl rfl ?_
  refine x_lc_eq rfl rfl rfl rfl (fun hc11 => absurd hc11 ha0) (fun hc11 => ?_)
  refine x_lload rfl rfl rfl ?_
  refine x_lload rfl rfl rfl ?_
  refine x_lc_eq rfl rfl rfl rfl (fun hc12 => absurd hc12 ha0) (fun hc12 => ?_)
  refine x_lload rfl rfl rfl ?_
  refine x_lconst (v := 0) rfl rfl (by decide +kernel) ?_
  refine x_lc_eq rfl rfl rfl rfl (fun hc13 => ?_) (fun hc13 => absurd rfl hc13)
  refine x_iconstN (b := 1) rfl rfl ?_
  refine x_goto rfl rfl ?_
  refine x_istore rfl rfl rfl rfl ?_
  refine x_lload rfl rfl rfl ?_
  refine x_lconst (v := 0) rfl rfl (by decide +kernel) ?_
  refine x_lc_ne rfl rfl rfl rfl (fun hc14 => ?_) (fun hc14 => absurd hc14 ha0)
  refine x_lload rfl rfl rfl ?_
  refine x_lconst (v := 0) rfl rfl (by decide +kernel) ?_
  refine x_lc_ne rfl rfl rfl rfl (fun hc15 => absurd rfl hc15) (fun hc15 => ?_)
  refine x_iconstN (b := 1) rfl rfl ?_
  refine x_goto rfl rfl ?_
  refine x_istore rfl rfl rfl rfl ?_
  refine x_iload rfl rfl rfl ?_
  refine x_if_eq rfl rfl (fun hc16 => absurd hc16 (by decide +kernel)) (fun _ => ?_)
  refine x_aload_n rfl rfl rfl ?_
  refine x_lload_n rfl rfl rfl ?_
  refine x_iload_n rfl rfl rfl ?_
  refine x_iload rfl rfl rfl ?_
  refine x_lload rfl rfl rfl ?_
  refine x_lload rfl rfl rfl ?_
  refine x_lload rfl rfl rfl ?_
  refine x_callVi (d2 := 0) (c_malike (m := 1) hG (nm) (dy) (by omega) (a) (0) (0) htn (Nat.le_refl 12)) rfl rfl v_9_145 rfl rfl (by decide) rfl rfl (Nat.le_of_ble_eq_true rfl) (by omega) (by omega) ?_
  refine x_topI (v := -1) (by rw [hf] <;> rfl) ?_
  refine x_goto rfl rfl ?_
  refine x_istore rfl rfl rfl rfl ?_
  refine x_aload_n rfl rfl rfl ?_
  refine x_iload rfl rfl rfl ?_
  refine x_if_ne rfl rfl (fun _ => ?_) (fun hc17 => absurd hc17 (by decide +kernel))
  refine x_iload rfl rfl rfl ?_
  refine x_iconst (v := -1) rfl rfl (by decide +kernel) ?_
  refine x_icmp_ne rfl rfl (fun hc18 => absurd rfl hc18) (fun hc18 => ?_)
  refine x_aload_n rfl rfl rfl ?_
  refine x_getIv (v := nI 12) htn rfl rfl f_9_142 rfl (by decide) rfl ?_
  refine x_bipush (v := nI 12) rfl rfl (by decide +kernel) ?_
  refine x_icmpN_ne (by omega) (by omega) rfl rfl (fun hc19 => absurd hc19 (by omega)) (fun hc19 => ?_)
  refine x_iconstN (b := 2) rfl rfl ?_
  refine x_goto rfl rfl ?_
  refine x_putI rfl rfl f_9_97 rfl rfl (by decide) rfl ?_
  refine x_aload_n rfl rfl rfl ?_
  refine x_getIv (v := nI 2) (by first | rfl | simp [ui, ul]) rfl rfl f_9_97 rfl (by decide) rfl ?_
  refine x_if_le rfl rfl (fun hc20 => absurd hc20 (by decide +kernel)) (fun _ => ?_)
  refine x_iconstN (b := 0) rfl rfl ?_
  exact x_retI rfl rfl rfl (by omega) rfl rfl
set_option maxHeartbeats 4000000 in
set_option maxRecDepth 20000 in
theorem c_mtraits2O (hG : Gok G) (hd : 2 ≤ d) (nm : Int64) (dy : Prop) (a : Int64) (ha0 : a ≠ 0) (hta : isTx a) (b : Int64) (hb0 : b ≠ 0) (htb : isTx b) (hab : a ≠ b) (h1 : isTx nm) {tn : Nat} (htn : M.1 (40, 0) 3 = nI tn) (htn2 : tn ≤ 12) {j : Nat} (hf : lxP (mal M nm (bI dy) 2 a b 0) none 0 tn = some j) (hj : j < tn) : Ct G mX9_traits d [.ref (ga G (40, 0)), .long (nm), .int (bI (dy)), .long (a), .long (b), .long (0)] M (.inl (some (.int (nI j)))) (ui M (40, 0) 0 (nI 0)) 0 := by
  refine ct_of hG okX9_traits (by decide +kernel) rfl (Nat.le_of_ble_eq_true rfl) ?_
  refine x_lload_n rfl rfl rfl ?_
  refine x_callSi (d2 := 1) (c_misText hG (Nat.le_refl 1) (nm)) rfl rfl s_9_117 rfl rfl (Nat.le_of_ble_eq_true rfl) (by omega) (by omega) ?_
  refine x_ifB_eq rfl rfl (fun hc1 => absurd h1 hc1) (fun hc1 => ?_)
  refine x_lload rfl rfl rfl ?_
  refine x_callSi (d2 := 1) (c_misText hG (Nat.le_refl 1) (a)) rfl rfl s_9_117 rfl rfl (Nat.le_of_ble_eq_true rfl) (by omega) (by omega) ?_
  refine x_ifB_eq rfl rfl (fun hc2 => absurd hta hc2) (fun hc2 => ?_)
  refine x_lload rfl rfl rfl ?_
  refine x_callSi (d2 := 1) (c_misText hG (Nat.le_refl 1) (b)) rfl rfl s_9_117 rfl rfl (Nat.le_of_ble_eq_true rfl) (by omega) (by omega) ?_
  refine x_ifB_eq rfl rfl (fun hc3 => absurd htb hc3) (fun hc3 => ?_)
  refine x_lload rfl rfl rfl ?_
  refine x_callSi (d2 := 1) (c_misText hG (Nat.le_refl 1) (0)) rfl rfl s_9_117 rfl rfl (Nat.le_of_ble_eq_true rfl) (by omega) (by omega) ?_
  refine x_ifB_eq rfl rfl (fun hc4 => absurd isTx0 hc4) (fun hc4 => ?_)
  refine x_iconstN (b := 1) rfl rfl ?_
  refine x_goto rfl rfl ?_
  refine x_istore rfl rfl rfl rfl ?_
  refine x_iload rfl rfl rfl ?_
  refine x_if_eq rfl rfl (fun hc5 => absurd hc5 (by decide +kernel)) (fun _ => ?_)
  refine x_lload rfl rfl rfl ?_
  refine x_lconst (v := 0) rfl rfl (by decide +kernel) ?_
  refine x_lc_ne rfl rfl rfl rfl (fun hc6 => ?_) (fun hc6 => absurd hc6 ha0)
  refine x_lload rfl rfl rfl ?_
  refine x_lconst (v := 0) rfl rfl (by decide +kernel) ?_
  refine x_lc_ne rfl rfl rfl rfl (fun hc7 => ?_) (fun hc7 => absurd hc7 hb0)
  refine x_iconstN (b := 1) rfl rfl ?_
  refine x_goto rfl rfl ?_
  refine x_istore rfl rfl rfl rfl ?_
  refine x_iload rfl rfl rfl ?_
  refine x_if_eq rfl rfl (fun hc8 => absurd hc8 (by decide +kernel)) (fun _ => ?_)
  refine x_lload rfl rfl rfl ?_
  refine x_lconst (v := 0) rfl rfl (by decide +kernel) ?_
  refine x_lc_eq rfl rfl rfl rfl (fun hc9 => absurd hc9 ha0) (fun hc9 => ?_)
  refine x_lload rfl rfl rfl ?_
  refine x_lload rfl rfl rfl ?_
  refine x_lc_eq rfl rfl rfl rfl (fun hc10 => absurd hc10 hab) (fun hc10 => ?_)
  refine x_lload rfl rfl rfl ?_
  refine x_lload rfl rfl rfl ?_
  refine x_lc_eq rfl rfl rfl rfl (fun hc11 => absurd hc11 ha0) (fun hc11 => ?_)
  refine x_lload rfl rfl rfl ?_
  refine x_lconst (v := 0) rfl rfl (by decide +kernel) ?_
  refine x_lc_eq rfl rfl rfl rfl (fun hc12 => absurd hc12 hb0) (fun hc12 => ?_)
  refine x_lload rfl rfl rfl ?_
  refine x_lload rfl rfl rfl ?_
  refine x_lc_eq rfl rfl rfl rfl (fun hc13 => absurd hc13 hb0) (fun hc13 => ?_)
  refine x_iconstN (b := 1) rfl rfl ?_
  refine x_goto rfl rfl ?_
  refine x_istore rfl rfl rfl rfl ?_
  refine x_lload rfl rfl rfl ?_
  refine x_lconst (v := 0) rfl rfl (by decide +kernel) ?_
  refine x_lc_ne rfl rfl rfl rfl (fun hc14 => ?_) (fun hc14 => absurd hc14 ha0)
  refine x_lload rfl rfl rfl ?_
  refine x_lconst (v := 0) rfl rfl (by decide +kernel) ?_
  refine x_lc_ne rfl rfl rfl rfl (fun hc15 => ?_) (fun hc15 => absurd hc15 hb0)
  refine x_lload rfl rfl rfl ?_
  refine x_lconst (v := 0) rfl rfl (by decide +kernel) ?_
  refine x_lc_ne rfl rfl rfl rfl (fun hc16 => absurd rfl hc16) (fun hc16 => ?_)
  refine x_iconstN (b := 2) rfl rfl ?_
  refine x_goto rfl rfl ?_
  refine x_istore rfl rfl rfl rfl ?_
  refine x_iload rfl rfl rfl ?_
  refine x_if_eq rfl rfl (fun hc17 => absurd hc17 (by decide +kernel)) (fun _ => ?_)
  refine x_aload_n rfl rfl rfl ?_
  refine x_lload_n rfl rfl rfl ?_
  refine x_iload_n rfl rfl rfl ?_
  refine x_iload rfl rfl rfl ?_
  refine x_lload rfl rfl rfl ?_
  refine x_lload rfl rfl rfl ?_
  refine x_lload rfl rfl rfl ?_
  refine x_callVi (d2 := 0) (c_malike (m := 2) hG (nm) (dy) (by omega) (a) (b) (0) htn htn2) rfl rfl v_9_145 rfl rfl (by decide) rfl rfl (Nat.le_of_ble_eq_true rfl) (by omega) (by omega) ?_
  refine x_topI (v := nI j) (by rw [hf] <;> rfl) ?_
  refine x_goto rfl rfl ?_
  refine x_istore rfl rfl rfl rfl ?_
  refine x_aload_n rfl rfl rfl ?_
  refine x_iload rfl rfl rfl ?_
  refine x_if_ne rfl rfl (fun _ => ?_) (fun hc18 => absurd hc18 (by decide +kernel))
  refine x_iload rfl rfl rfl ?_
  refine x_iconst (v := -1) rfl rfl (by decide +kernel) ?_
  refine x_icmp_ne rfl rfl (fun hc19 => ?_) (fun hc19 => absurd hc19 (nIm1 (by omega)))
  refine x_iconstN (b := 0) rfl rfl ?_
  refine x_putI rfl rfl f_9_97 rfl rfl (by decide) rfl ?_
  refine x_aload_n rfl rfl rfl ?_
  refine x_getIv (v := nI 0) (by first | rfl | simp [ui, ul]) rfl rfl f_9_97 rfl (by decide) rfl ?_
  refine x_if_le rfl rfl (fun _ => ?_) (fun hc20 => absurd hc20 (by decide +kernel))
  refine x_iload rfl rfl rfl ?_
  refine x_iconst (v := -1) rfl rfl (by decide +kernel) ?_
  refine x_icmp_eq rfl rfl (fun hc21 => absurd hc21 (nIm1 (by omega))) (fun hc21 => ?_)
  refine x_iload rfl rfl rfl ?_
  refine x_goto rfl rfl ?_
  exact x_retI rfl rfl rfl (by omega) rfl rfl
set_option maxHeartbeats 4000000 in
set_option maxRecDepth 20000 in
theorem c_mtraits2N (hG : Gok G) (hd : 2 ≤ d) (nm : Int64) (dy : Prop) (a : Int64) (ha0 : a ≠ 0) (hta : isTx a) (b : Int64) (hb0 : b ≠ 0) (htb : isTx b) (hab : a ≠ b) (h1 : isTx nm) {tn : Nat} (htn : M.1 (40, 0) 3 = nI tn) (htn2 : tn ≤ 12) (hf : lxP (mal M nm (bI dy) 2 a b 0) none 0 tn = none) (htn3 : tn < 12) : Ct G mX9_traits d [.ref (ga G (40, 0)), .long (nm), .int (bI (dy)), .long (a), .long (b), .long (0)] M (.inl (some (.int (nI tn)))) (ui (ul (ul (ul (ui (ui (ul (ui M (40, 0) 0 (nI 0)) (42, 0) tn nm) (43, 0) tn (bI (dy))) (44, 0) tn (nI 2)) (45, 0) (3 * tn) a) (45, 0) ((3 * tn) + 1) b) (45, 0) ((3 * tn) + 2) 0) (40, 0) 3 (nI (tn + 1))) 0 := by
  refine ct_of hG okX9_traits (by decide +kernel) rfl (Nat.le_of_ble_eq_true rfl) ?_
  refine x_lload_n rfl rfl rfl ?_
  refine x_callSi (d2 := 1) (c_misText hG (Nat.le_refl 1) (nm)) rfl rfl s_9_117 rfl rfl (Nat.le_of_ble_eq_true rfl) (by omega) (by omega) ?_
  refine x_ifB_eq rfl rfl (fun hc1 => absurd h1 hc1) (fun hc1 => ?_)
  refine x_lload rfl rfl rfl ?_
  refine x_callSi (d2 := 1) (c_misText hG (Nat.le_refl 1) (a)) rfl rfl s_9_117 rfl rfl (Nat.le_of_ble_eq_true rfl) (by omega) (by omega) ?_
  refine x_ifB_eq rfl rfl (fun hc2 => absurd hta hc2) (fun hc2 => ?_)
  refine x_lload rfl rfl rfl ?_
  refine x_callSi (d2 := 1) (c_misText hG (Nat.le_refl 1) (b)) rfl rfl s_9_117 rfl rfl (Nat.le_of_ble_eq_true rfl) (by omega) (by omega) ?_
  refine x_ifB_eq rfl rfl (fun hc3 => absurd htb hc3) (fun hc3 => ?_)
  refine x_lload rfl rfl rfl ?_
  refine x_callSi (d2 := 1) (c_misText hG (Nat.le_refl 1) (0)) rfl rfl s_9_117 rfl rfl (Nat.le_of_ble_eq_true rfl) (by omega) (by omega) ?_
  refine x_ifB_eq rfl rfl (fun hc4 => absurd isTx0 hc4) (fun hc4 => ?_)
  refine x_iconstN (b := 1) rfl rfl ?_
  refine x_goto rfl rfl ?_
  refine x_istore rfl rfl rfl rfl ?_
  refine x_iload rfl rfl rfl ?_
  refine x_if_eq rfl rfl (fun hc5 => absurd hc5 (by decide +kernel)) (fun _ => ?_)
  refine x_lload rfl rfl rfl ?_
  refine x_lconst (v := 0) rfl rfl (by decide +kernel) ?_
  refine x_lc_ne rfl rfl rfl rfl (fun hc6 => ?_) (fun hc6 => absurd hc6 ha0)
  refine x_lload rfl rfl rfl ?_
  refine x_lconst (v := 0) rfl rfl (by decide +kernel) ?_
  refine x_lc_ne rfl rfl rfl rfl (fun hc7 => ?_) (fun hc7 => absurd hc7 hb0)
  refine x_iconstN (b := 1) rfl rfl ?_
  refine x_goto rfl rfl ?_
  refine x_istore rfl rfl rfl rfl ?_
  refine x_iload rfl rfl rfl ?_
  refine x_if_eq rfl rfl (fun hc8 => absurd hc8 (by decide +kernel)) (fun _ => ?_)
  refine x_lload rfl rfl rfl ?_
  refine x_lconst (v := 0) rfl rfl (by decide +kernel) ?_
  refine x_lc_eq rfl rfl rfl rfl (fun hc9 => absurd hc9 ha0) (fun hc9 => ?_)
  refine x_lload rfl rfl rfl ?_
  refine x_lload rfl rfl rfl ?_
  refine x_lc_eq rfl rfl rfl rfl (fun hc10 => absurd hc10 hab) (fun hc10 => ?_)
  refine x_lload rfl rfl rfl ?_
  refine x_lload rfl rfl rfl ?_
  refine x_lc_eq rfl rfl rfl rfl (fun hc11 => absurd hc11 ha0) (fun hc11 => ?_)
  refine x_lload rfl rfl rfl ?_
  refine x_lconst (v := 0) rfl rfl (by decide +kernel) ?_
  refine x_lc_eq rfl rfl rfl rfl (fun hc12 => absurd hc12 hb0) (fun hc12 => ?_)
  refine x_lload rfl rfl rfl ?_
  refine x_lload rfl rfl rfl ?_
  refine x_lc_eq rfl rfl rfl rfl (fun hc13 => absurd hc13 hb0) (fun hc13 => ?_)
  refine x_iconstN (b := 1) rfl rfl ?_
  refine x_goto rfl rfl ?_
  refine x_istore rfl rfl rfl rfl ?_
  refine x_lload rfl rfl rfl ?_
  refine x_lconst (v := 0) rfl rfl (by decide +kernel) ?_
  refine x_lc_ne rfl rfl rfl rfl (fun hc14 => ?_) (fun hc14 => absurd hc14 ha0)
  refine x_lload rfl rfl rfl ?_
  refine x_lconst (v := 0) rfl rfl (by decide +kernel) ?_
  refine x_lc_ne rfl rfl rfl rfl (fun hc15 => ?_) (fun hc15 => absurd hc15 hb0)
  refine x_lload rfl rfl rfl ?_
  refine x_lconst (v := 0) rfl rfl (by decide +kernel) ?_
  refine x_lc_ne rfl rfl rfl rfl (fun hc16 => absurd rfl hc16) (fun hc16 => ?_)
  refine x_iconstN (b := 2) rfl rfl ?_
  refine x_goto rfl rfl ?_
  refine x_istore rfl rfl rfl rfl ?_
  refine x_iload rfl rfl rfl ?_
  refine x_if_eq rfl rfl (fun hc17 => absurd hc17 (by decide +kernel)) (fun _ => ?_)
  refine x_aload_n rfl rfl rfl ?_
  refine x_lload_n rfl rfl rfl ?_
  refine x_iload_n rfl rfl rfl ?_
  refine x_iload rfl rfl rfl ?_
  refine x_lload rfl rfl rfl ?_
  refine x_lload rfl rfl rfl ?_
  refine x_lload rfl rfl rfl ?_
  refine x_callVi (d2 := 0) (c_malike (m := 2) hG (nm) (dy) (by omega) (a) (b) (0) htn htn2) rfl rfl v_9_145 rfl rfl (by decide) rfl rfl (Nat.le_of_ble_eq_true rfl) (by omega) (by omega) ?_
  refine x_topI (v := -1) (by rw [hf] <;> rfl) ?_
  refine x_goto rfl rfl ?_
  refine x_istore rfl rfl rfl rfl ?_
  refine x_aload_n rfl rfl rfl ?_
  refine x_iload rfl rfl rfl ?_
  refine x_if_ne rfl rfl (fun _ => ?_) (fun hc18 => absurd hc18 (by decide +kernel))
  refine x_iload rfl rfl rfl ?_
  refine x_iconst (v := -1) rfl rfl (by decide +kernel) ?_
  refine x_icmp_ne rfl rfl (fun hc19 => absurd rfl hc19) (fun hc19 => ?_)
  refine x_aload_n rfl rfl rfl ?_
  refine x_getIv (v := nI tn) htn rfl rfl f_9_142 rfl (by decide) rfl ?_
  refine x_bipush (v := nI 12) rfl rfl (by decide +kernel) ?_
  refine x_icmpN_ne (by omega) (by omega) rfl rfl (fun hc20 => ?_) (fun hc20 => absurd hc20 (by omega))
  refine x_iconstN (b := 0) rfl rfl ?_
  refine x_putI rfl rfl f_9_97 rfl rfl (by decide) rfl ?_
  refine x_aload_n rfl rfl rfl ?_
  refine x_getIv (v := nI 0) (by first | rfl | simp [ui, ul]) rfl rfl f_9_97 rfl (by decide) rfl ?_
  refine x_if_le rfl rfl (fun _ => ?_) (fun hc21 => absurd hc21 (by decide +kernel))
  refine x_iload rfl rfl rfl ?_
  refine x_iconst (v := -1) rfl rfl (by decide +kernel) ?_
  refine x_icmp_eq rfl rfl (fun hc22 => ?_) (fun hc22 => absurd rfl hc22)
  refine x_aload_n rfl rfl rfl ?_
  refine x_lload_n rfl rfl rfl ?_
  refine x_iload_n rfl rfl rfl ?_
  refine x_iload rfl rfl rfl ?_
  refine x_lload rfl rfl rfl ?_
  refine x_lload rfl rfl rfl ?_
  refine x_lload rfl rfl rfl ?_
  refine x_callVi (d2 := 0) (c_mnewTraits (tn := tn) hG (nm) (dy) (2) (a) (b) (0) (by first | exact htn | (rw [← htn]; rfl) | simp [ui, ul, htn]) (by omega)) rfl rfl v_9_149 rfl rfl (by decide) rfl rfl (Nat.le_of_ble_eq_true rfl) (by omega) (by omega) ?_
  exact x_retI rfl rfl rfl (by omega) rfl rfl
set_option maxHeartbeats 4000000 in
set_option maxRecDepth 20000 in
theorem c_mtraits2X (hG : Gok G) (hd : 2 ≤ d) (nm : Int64) (dy : Prop) (a : Int64) (ha0 : a ≠ 0) (hta : isTx a) (b : Int64) (hb0 : b ≠ 0) (htb : isTx b) (hab : a ≠ b) (h1 : isTx nm) (htn : M.1 (40, 0) 3 = nI 12) (hf : lxP (mal M nm (bI dy) 2 a b 0) none 0 12 = none) : Ct G mX9_traits d [.ref (ga G (40, 0)), .long (nm), .int (bI (dy)), .long (a), .long (b), .long (0)] M (.inl (some (.int (nI 0)))) (ui M (40, 0) 0 (nI 2)) 0 := by
  refine ct_of hG okX9_traits (by decide +kernel) rfl (Nat.le_of_ble_eq_true rfl) ?_
  refine x_lload_n rfl rfl rfl ?_
  refine x_callSi (d2 := 1) (c_misText hG (Nat.le_refl 1) (nm)) rfl rfl s_9_117 rfl rfl (Nat.le_of_ble_eq_true rfl) (by omega) (by omega) ?_
  refine x_ifB_eq rfl rfl (fun hc1 => absurd h1 hc1) (fun hc1 => ?_)
  refine x_lload rfl rfl rfl ?_
  refine x_callSi (d2 := 1) (c_misText hG (Nat.le_refl 1) (a)) rfl rfl s_9_117 rfl rfl (Nat.le_of_ble_eq_true rfl) (by omega) (by omega) ?_
  refine x_ifB_eq rfl rfl (fun hc2 => absurd hta hc2) (fun hc2 => ?_)
  refine x_lload rfl rfl rfl ?_
  refine x_callSi (d2 := 1) (c_misText hG (Nat.le_refl 1) (b)) rfl rfl s_9_117 rfl rfl (Nat.le_of_ble_eq_true rfl) (by omega) (by omega) ?_
  refine x_ifB_eq rfl rfl (fun hc3 => absurd htb hc3) (fun hc3 => ?_)
  refine x_lload rfl rfl rfl ?_
  refine x_callSi (d2 := 1) (c_misText hG (Nat.le_refl 1) (0)) rfl rfl s_9_117 rfl rfl (Nat.le_of_ble_eq_true rfl) (by omega) (by omega) ?_
  refine x_ifB_eq rfl rfl (fun hc4 => absurd isTx0 hc4) (fun hc4 => ?_)
  refine x_iconstN (b := 1) rfl rfl ?_
  refine x_goto rfl rfl ?_
  refine x_istore rfl rfl rfl rfl ?_
  refine x_iload rfl rfl rfl ?_
  refine x_if_eq rfl rfl (fun hc5 => absurd hc5 (by decide +kernel)) (fun _ => ?_)
  refine x_lload rfl rfl rfl ?_
  refine x_lconst (v := 0) rfl rfl (by decide +kernel) ?_
  refine x_lc_ne rfl rfl rfl rfl (fun hc6 => ?_) (fun hc6 => absurd hc6 ha0)
  refine x_lload rfl rfl rfl ?_
  refine x_lconst (v := 0) rfl rfl (by decide +kernel) ?_
  refine x_lc_ne rfl rfl rfl rfl (fun hc7 => ?_) (fun hc7 => absurd hc7 hb0)
  refine x_iconstN (b := 1) rfl rfl ?_
  refine x_goto rfl rfl ?_
  refine x_istore rfl rfl rfl rfl ?_
  refine x_iload rfl rfl rfl ?_
  refine x_if_eq rfl rfl (fun hc8 => absurd hc8 (by decide +kernel)) (fun _ => ?_)
  refine x_lload rfl rfl rfl ?_
  refine x_lconst (v := 0) rfl rfl (by decide +kernel) ?_
  refine x_lc_eq rfl rfl rfl rfl (fun hc9 => absurd hc9 ha0) (fun hc9 => ?_)
  refine x_lload rfl rfl rfl ?_
  refine x_lload rfl rfl rfl ?_
  refine x_lc_eq rfl rfl rfl rfl (fun hc10 => absurd hc10 hab) (fun hc10 => ?_)
  refine x_lload rfl rfl rfl ?_
  refine x_lload rfl rfl rfl ?_
  refine x_lc_eq rfl rfl rfl rfl (fun hc11 => absurd hc11 ha0) (fun hc11 => ?_)
  refine x_lload rfl rfl rfl ?_
  refine x_lconst (v := 0) rfl rfl (by decide +kernel) ?_
  refine x_lc_eq rfl rfl rfl rfl (fun hc12 => absurd hc12 hb0) (fun hc12 => ?_)
  refine x_lload rfl rfl rfl ?_
  refine x_lload rfl rfl rfl ?_
  refine x_lc_eq rfl rfl rfl rfl (fun hc13 => absurd hc13 hb0) (fun hc13 => ?_)
  refine x_iconstN (b := 1) rfl rfl ?_
  refine x_goto rfl rfl ?_
  refine x_istore rfl rfl rfl rfl ?_
  refine x_lload rfl rfl rfl ?_
  refine x_lconst (v := 0) rfl rfl (by decide +kernel) ?_
  refine x_lc_ne rfl rfl rfl rfl (fun hc14 => ?_) (fun hc14 => absurd hc14 ha0)
  refine x_lload rfl rfl rfl ?_
  refine x_lconst (v := 0) rfl rfl (by decide +kernel) ?_
  refine x_lc_ne rfl rfl rfl rfl (fun hc15 => ?_) (fun hc15 => absurd hc15 hb0)
  refine x_lload rfl rfl rfl ?_
  refine x_lconst (v := 0) rfl rfl (by decide +kernel) ?_
  refine x_lc_ne rfl rfl rfl rfl (fun hc16 => absurd rfl hc16) (fun hc16 => ?_)
  refine x_iconstN (b := 2) rfl rfl ?_
  refine x_goto rfl rfl ?_
  refine x_istore rfl rfl rfl rfl ?_
  refine x_iload rfl rfl rfl ?_
  refine x_if_eq rfl rfl (fun hc17 => absurd hc17 (by decide +kernel)) (fun _ => ?_)
  refine x_aload_n rfl rfl rfl ?_
  refine x_lload_n rfl rfl rfl ?_
  refine x_iload_n rfl rfl rfl ?_
  refine x_iload rfl rfl rfl ?_
  refine x_lload rfl rfl rfl ?_
  refine x_lload rfl rfl rfl ?_
  refine x_lload rfl rfl rfl ?_
  refine x_callVi (d2 := 0) (c_malike (m := 2) hG (nm) (dy) (by omega) (a) (b) (0) htn (Nat.le_refl 12)) rfl rfl v_9_145 rfl rfl (by decide) rfl rfl (Nat.le_of_ble_eq_true rfl) (by omega) (by omega) ?_
  refine x_topI (v := -1) (by rw [hf] <;> rfl) ?_
  refine x_goto rfl rfl ?_
  refine x_istore rfl rfl rfl rfl ?_
  refine x_aload_n rfl rfl rfl ?_
  refine x_iload rfl rfl rfl ?_
  refine x_if_ne rfl rfl (fun _ => ?_) (fun hc18 => absurd hc18 (by decide +kernel))
  refine x_iload rfl rfl rfl ?_
  refine x_iconst (v := -1) rfl rfl (by decide +kernel) ?_
  refine x_icmp_ne rfl rfl (fun hc19 => absurd rfl hc19) (fun hc19 => ?_)
  refine x_aload_n rfl rfl rfl ?_
  refine x_getIv (v := nI 12) htn rfl rfl f_9_142 rfl (by decide) rfl ?_
  refine x_bipush (v := nI 12) rfl rfl (by decide +kernel) ?_
  refine x_icmpN_ne (by omega) (by omega) rfl rfl (fun hc20 => absurd hc20 (by omega)) (fun hc20 => ?_)
  refine x_iconstN (b := 2) rfl rfl ?_
  refine x_goto rfl rfl ?_
  refine x_putI rfl rfl f_9_97 rfl rfl (by decide) rfl ?_
  refine x_aload_n rfl rfl rfl ?_
  refine x_getIv (v := nI 2) (by first | rfl | simp [ui, ul]) rfl rfl f_9_97 rfl (by decide) rfl ?_
  refine x_if_le rfl rfl (fun hc21 => absurd hc21 (by decide +kernel)) (fun _ => ?_)
  refine x_iconstN (b := 0) rfl rfl ?_
  exact x_retI rfl rfl rfl (by omega) rfl rfl
set_option maxHeartbeats 4000000 in
set_option maxRecDepth 20000 in
theorem c_mtraits3O (hG : Gok G) (hd : 2 ≤ d) (nm : Int64) (dy : Prop) (a : Int64) (ha0 : a ≠ 0) (hta : isTx a) (b : Int64) (hb0 : b ≠ 0) (htb : isTx b) (c : Int64) (hc0 : c ≠ 0) (htc : isTx c) (hab : a ≠ b) (hac : a ≠ c) (hbc : b ≠ c) (h1 : isTx nm) {tn : Nat} (htn : M.1 (40, 0) 3 = nI tn) (htn2 : tn ≤ 12) {j : Nat} (hf : lxP (mal M nm (bI dy) 3 a b c) none 0 tn = some j) (hj : j < tn) : Ct G mX9_traits d [.ref (ga G (40, 0)), .long (nm), .int (bI (dy)), .long (a), .long (b), .long (c)] M (.inl (some (.int (nI j)))) (ui M (40, 0) 0 (nI 0)) 0 := by
  refine ct_of hG okX9_traits (by decide +kernel) rfl (Nat.le_of_ble_eq_true rfl) ?_
  refine x_lload_n rfl rfl rfl ?_
  refine x_callSi (d2 := 1) (c_misText hG (Nat.le_refl 1) (nm)) rfl rfl s_9_117 rfl rfl (Nat.le_of_ble_eq_true rfl) (by omega) (by omega) ?_
  refine x_ifB_eq rfl rfl (fun hc1 => absurd h1 hc1) (fun hc1 => ?_)
  refine x_lload rfl rfl rfl ?_
  refine x_callSi (d2 := 1) (c_misText hG (Nat.le_refl 1) (a)) rfl rfl s_9_117 rfl rfl (Nat.le_of_ble_eq_true rfl) (by omega) (by omega) ?_
  refine x_ifB_eq rfl rfl (fun hc2 => absurd hta hc2) (fun hc2 => ?_)
  refine x_lload rfl rfl rfl ?_
  refine x_callSi (d2 := 1) (c_misText hG (Nat.le_refl 1) (b)) rfl rfl s_9_117 rfl rfl (Nat.le_of_ble_eq_true rfl) (by omega) (by omega) ?_
  refine x_ifB_eq rfl rfl (fun hc3 => absurd htb hc3) (fun hc3 => ?_)
  refine x_lload rfl rfl rfl ?_
  refine x_callSi (d2 := 1) (c_misText hG (Nat.le_refl 1) (c)) rfl rfl s_9_117 rfl rfl (Nat.le_of_ble_eq_true rfl) (by omega) (by omega) ?_
  refine x_ifB_eq rfl rfl (fun hc4 => absurd htc hc4) (fun hc4 => ?_)
  refine x_iconstN (b := 1) rfl rfl ?_
  refine x_goto rfl rfl ?_
  refine x_istore rfl rfl rfl rfl ?_
  refine x_iload rfl rfl rfl ?_
  refine x_if_eq rfl rfl (fun hc5 => absurd hc5 (by decide +kernel)) (fun _ => ?_)
  refine x_lload rfl rfl rfl ?_
  refine x_lconst (v := 0) rfl rfl (by decide +kernel) ?_
  refine x_lc_ne rfl rfl rfl rfl (fun hc6 => ?_) (fun hc6 => absurd hc6 ha0)
  refine x_lload rfl rfl rfl ?_
  refine x_lconst (v := 0) rfl rfl (by decide +kernel) ?_
  refine x_lc_ne rfl rfl rfl rfl (fun hc7 => ?_) (fun hc7 => absurd hc7 hb0)
  refine x_iconstN (b := 1) rfl rfl ?_
  refine x_goto rfl rfl ?_
  refine x_istore rfl rfl rfl rfl ?_
  refine x_iload rfl rfl rfl ?_
  refine x_if_eq rfl rfl (fun hc8 => absurd hc8 (by decide +kernel)) (fun _ => ?_)
  refine x_lload rfl rfl rfl ?_
  refine x_lconst (v := 0) rfl rfl (by decide +kernel) ?_
  refine x_lc_eq rfl rfl rfl rfl (fun hc9 => absurd hc9 ha0) (fun hc9 => ?_)
  refine x_lload rfl rfl rfl ?_
  refine x_lload rfl rfl rfl ?_
  refine x_lc_eq rfl rfl rfl rfl (fun hc10 => absurd hc10 hab) (fun hc10 => ?_)
  refine x_lload rfl rfl rfl ?_
  refine x_lload rfl rfl rfl ?_
  refine x_lc_eq rfl rfl rfl rfl (fun hc11 => absurd hc11 hac) (fun hc11 => ?_)
  refine x_lload rfl rfl rfl ?_
  refine x_lconst (v := 0) rfl rfl (by decide +kernel) ?_
  refine x_lc_eq rfl rfl rfl rfl (fun hc12 => absurd hc12 hb0) (fun hc12 => ?_)
  refine x_lload rfl rfl rfl ?_
  refine x_lload rfl rfl rfl ?_
  refine x_lc_eq rfl rfl rfl rfl (fun hc13 => absurd hc13 hbc) (fun hc13 => ?_)
  refine x_iconstN (b := 1) rfl rfl ?_
  refine x_goto rfl rfl ?_
  refine x_istore rfl rfl rfl rfl ?_
  refine x_lload rfl rfl rfl ?_
  refine x_lconst (v := 0) rfl rfl (by decide +kernel) ?_
  refine x_lc_ne rfl rfl rfl rfl (fun hc14 => ?_) (fun hc14 => absurd hc14 ha0)
  refine x_lload rfl rfl rfl ?_
  refine x_lconst (v := 0) rfl rfl (by decide +kernel) ?_
  refine x_lc_ne rfl rfl rfl rfl (fun hc15 => ?_) (fun hc15 => absurd hc15 hb0)
  refine x_lload rfl rfl rfl ?_
  refine x_lconst (v := 0) rfl rfl (by decide +kernel) ?_
  refine x_lc_ne rfl rfl rfl rfl (fun hc16 => ?_) (fun hc16 => absurd hc16 hc0)
  refine x_iconstN (b := 3) rfl rfl ?_
  refine x_istore rfl rfl rfl rfl ?_
  refine x_iload rfl rfl rfl ?_
  refine x_if_eq rfl rfl (fun hc17 => absurd hc17 (by decide +kernel)) (fun _ => ?_)
  refine x_aload_n rfl rfl rfl ?_
  refine x_lload_n rfl rfl rfl ?_
  refine x_iload_n rfl rfl rfl ?_
  refine x_iload rfl rfl rfl ?_
  refine x_lload rfl rfl rfl ?_
  refine x_lload rfl rfl rfl ?_
  refine x_lload rfl rfl rfl ?_
  refine x_callVi (d2 := 0) (c_malike (m := 3) hG (nm) (dy) (by omega) (a) (b) (c) htn htn2) rfl rfl v_9_145 rfl rfl (by decide) rfl rfl (Nat.le_of_ble_eq_true rfl) (by omega) (by omega) ?_
  refine x_topI (v := nI j) (by rw [hf] <;> rfl) ?_
  refine x_goto rfl rfl ?_
  refine x_istore rfl rfl rfl rfl ?_
  refine x_aload_n rfl rfl rfl ?_
  refine x_iload rfl rfl rfl ?_
  refine x_if_ne rfl rfl (fun _ => ?_) (fun hc18 => absurd hc18 (by decide +kernel))
  refine x_iload rfl rfl rfl ?_
  refine x_iconst (v := -1) rfl rfl (by decide +kernel) ?_
  refine x_icmp_ne rfl rfl (fun hc19 => ?_) (fun hc19 => absurd hc19 (nIm1 (by omega)))
  refine x_iconstN (b := 0) rfl rfl ?_
  refine x_putI rfl rfl f_9_97 rfl rfl (by decide) rfl ?_
  refine x_aload_n rfl rfl rfl ?_
  refine x_getIv (v := nI 0) (by first | rfl | simp [ui, ul]) rfl rfl f_9_97 rfl (by decide) rfl ?_
  refine x_if_le rfl rfl (fun _ => ?_) (fun hc20 => absurd hc20 (by decide +kernel))
  refine x_iload rfl rfl rfl ?_
  refine x_iconst (v := -1) rfl rfl (by decide +kernel) ?_
  refine x_icmp_eq rfl rfl (fun hc21 => absurd hc21 (nIm1 (by omega))) (fun hc21 => ?_)
  refine x_iload rfl rfl rfl ?_
  refine x_goto rfl rfl ?_
  exact x_retI rfl rfl rfl (by omega) rfl rfl
set_option maxHeartbeats 4000000 in
set_option maxRecDepth 20000 in
theorem c_mtraits3N (hG : Gok G) (hd : 2 ≤ d) (nm : Int64) (dy : Prop) (a : Int64) (ha0 : a ≠ 0) (hta : isTx a) (b : Int64) (hb0 : b ≠ 0) (htb : isTx b) (c : Int64) (hc0 : c ≠ 0) (htc : isTx c) (hab : a ≠ b) (hac : a ≠ c) (hbc : b ≠ c) (h1 : isTx nm) {tn : Nat} (htn : M.1 (40, 0) 3 = nI tn) (htn2 : tn ≤ 12) (hf : lxP (mal M nm (bI dy) 3 a b c) none 0 tn = none) (htn3 : tn < 12) : Ct G mX9_traits d [.ref (ga G (40, 0)), .long (nm), .int (bI (dy)), .long (a), .long (b), .long (c)] M (.inl (some (.int (nI tn)))) (ui (ul (ul (ul (ui (ui (ul (ui M (40, 0) 0 (nI 0)) (42, 0) tn nm) (43, 0) tn (bI (dy))) (44, 0) tn (nI 3)) (45, 0) (3 * tn) a) (45, 0) ((3 * tn) + 1) b) (45, 0) ((3 * tn) + 2) c) (40, 0) 3 (nI (tn + 1))) 0 := by
  refine ct_of hG okX9_traits (by decide +kernel) rfl (Nat.le_of_ble_eq_true rfl) ?_
  refine x_lload_n rfl rfl rfl ?_
  refine x_callSi (d2 := 1) (c_misText hG (Nat.le_refl 1) (nm)) rfl rfl s_9_117 rfl rfl (Nat.le_of_ble_eq_true rfl) (by omega) (by omega) ?_
  refine x_ifB_eq rfl rfl (fun hc1 => absurd h1 hc1) (fun hc1 => ?_)
  refine x_lload rfl rfl rfl ?_
  refine x_callSi (d2 := 1) (c_misText hG (Nat.le_refl 1) (a)) rfl rfl s_9_117 rfl rfl (Nat.le_of_ble_eq_true rfl) (by omega) (by omega) ?_
  refine x_ifB_eq rfl rfl (fun hc2 => absurd hta hc2) (fun hc2 => ?_)
  refine x_lload rfl rfl rfl ?_
  refine x_callSi (d2 := 1) (c_misText hG (Nat.le_refl 1) (b)) rfl rfl s_9_117 rfl rfl (Nat.le_of_ble_eq_true rfl) (by omega) (by omega) ?_
  refine x_ifB_eq rfl rfl (fun hc3 => absurd htb hc3) (fun hc3 => ?_)
  refine x_lload rfl rfl rfl ?_
  refine x_callSi (d2 := 1) (c_misText hG (Nat.le_refl 1) (c)) rfl rfl s_9_117 rfl rfl (Nat.le_of_ble_eq_true rfl) (by omega) (by omega) ?_
  refine x_ifB_eq rfl rfl (fun hc4 => absurd htc hc4) (fun hc4 => ?_)
  refine x_iconstN (b := 1) rfl rfl ?_
  refine x_goto rfl rfl ?_
  refine x_istore rfl rfl rfl rfl ?_
  refine x_iload rfl rfl rfl ?_
  refine x_if_eq rfl rfl (fun hc5 => absurd hc5 (by decide +kernel)) (fun _ => ?_)
  refine x_lload rfl rfl rfl ?_
  refine x_lconst (v := 0) rfl rfl (by decide +kernel) ?_
  refine x_lc_ne rfl rfl rfl rfl (fun hc6 => ?_) (fun hc6 => absurd hc6 ha0)
  refine x_lload rfl rfl rfl ?_
  refine x_lconst (v := 0) rfl rfl (by decide +kernel) ?_
  refine x_lc_ne rfl rfl rfl rfl (fun hc7 => ?_) (fun hc7 => absurd hc7 hb0)
  refine x_iconstN (b := 1) rfl rfl ?_
  refine x_goto rfl rfl ?_
  refine x_istore rfl rfl rfl rfl ?_
  refine x_iload rfl rfl rfl ?_
  refine x_if_eq rfl rfl (fun hc8 => absurd hc8 (by decide +kernel)) (fun _ => ?_)
  refine x_lload rfl rfl rfl ?_
  refine x_lconst (v := 0) rfl rfl (by decide +kernel) ?_
  refine x_lc_eq rfl rfl rfl rfl (fun hc9 => absurd hc9 ha0) (fun hc9 => ?_)
  refine x_lload rfl rfl rfl ?_
  refine x_lload rfl rfl rfl ?_
  refine x_lc_eq rfl rfl rfl rfl (fun hc10 => absurd hc10 hab) (fun hc10 => ?_)
  refine x_lload rfl rfl rfl ?_
  refine x_lload rfl rfl rfl ?_
  refine x_lc_eq rfl rfl rfl rfl (fun hc11 => absurd hc11 hac) (fun hc11 => ?_)
  refine x_lload rfl rfl rfl ?_
  refine x_lconst (v := 0) rfl rfl (by decide +kernel) ?_
  refine x_lc_eq rfl rfl rfl rfl (fun hc12 => absurd hc12 hb0) (fun hc12 => ?_)
  refine x_lload rfl rfl rfl ?_
  refine x_lload rfl rfl rfl ?_
  refine x_lc_eq rfl rfl rfl rfl (fun hc13 => absurd hc13 hbc) (fun hc13 => ?_)
  refine x_iconstN (b := 1) rfl rfl ?_
  refine x_goto rfl rfl ?_
  refine x_istore rfl rfl rfl rfl ?_
  refine x_lload rfl rfl rfl ?_
  refine x_lconst (v := 0) rfl rfl (by decide +kernel) ?_
  refine x_lc_ne rfl rfl rfl rfl (fun hc14 => ?_) (fun hc14 => absurd hc14 ha0)
  refine x_lload rfl rfl rfl ?_
  refine x_lconst (v := 0) rfl rfl (by decide +kernel) ?_
  refine x_lc_ne rfl rfl rfl rfl (fun hc15 => ?_) (fun hc15 => absurd hc15 hb0)
  refine x_lload rfl rfl rfl ?_
  refine x_lconst (v := 0) rfl rfl (by decide +kernel) ?_
  refine x_lc_ne rfl rfl rfl rfl (fun hc16 => ?_) (fun hc16 => absurd hc16 hc0)
  refine x_iconstN (b := 3) rfl rfl ?_
  refine x_istore rfl rfl rfl rfl ?_
  refine x_iload rfl rfl rfl ?_
  refine x_if_eq rfl rfl (fun hc17 => absurd hc17 (by decide +kernel)) (fun _ => ?_)
  refine x_aload_n rfl rfl rfl ?_
  refine x_lload_n rfl rfl rfl ?_
  refine x_iload_n rfl rfl rfl ?_
  refine x_iload rfl rfl rfl ?_
  refine x_lload rfl rfl rfl ?_
  refine x_lload rfl rfl rfl ?_
  refine x_lload rfl rfl rfl ?_
  refine x_callVi (d2 := 0) (c_malike (m := 3) hG (nm) (dy) (by omega) (a) (b) (c) htn htn2) rfl rfl v_9_145 rfl rfl (by decide) rfl rfl (Nat.le_of_ble_eq_true rfl) (by omega) (by omega) ?_
  refine x_topI (v := -1) (by rw [hf] <;> rfl) ?_
  refine x_goto rfl rfl ?_
  refine x_istore rfl rfl rfl rfl ?_
  refine x_aload_n rfl rfl rfl ?_
  refine x_iload rfl rfl rfl ?_
  refine x_if_ne rfl rfl (fun _ => ?_) (fun hc18 => absurd hc18 (by decide +kernel))
  refine x_iload rfl rfl rfl ?_
  refine x_iconst (v := -1) rfl rfl (by decide +kernel) ?_
  refine x_icmp_ne rfl rfl (fun hc19 => absurd rfl hc19) (fun hc19 => ?_)
  refine x_aload_n rfl rfl rfl ?_
  refine x_getIv (v := nI tn) htn rfl rfl f_9_142 rfl (by decide) rfl ?_
  refine x_bipush (v := nI 12) rfl rfl (by decide +kernel) ?_
  refine x_icmpN_ne (by omega) (by omega) rfl rfl (fun hc20 => ?_) (fun hc20 => absurd hc20 (by omega))
  refine x_iconstN (b := 0) rfl rfl ?_
  refine x_putI rfl rfl f_9_97 rfl rfl (by decide) rfl ?_
  refine x_aload_n rfl rfl rfl ?_
  refine x_getIv (v := nI 0) (by first | rfl | simp [ui, ul]) rfl rfl f_9_97 rfl (by decide) rfl ?_
  refine x_if_le rfl rfl (fun _ => ?_) (fun hc21 => absurd hc21 (by decide +kernel))
  refine x_iload rfl rfl rfl ?_
  refine x_iconst (v := -1) rfl rfl (by decide +kernel) ?_
  refine x_icmp_eq rfl rfl (fun hc22 => ?_) (fun hc22 => absurd rfl hc22)
  refine x_aload_n rfl rfl rfl ?_
  refine x_lload_n rfl rfl rfl ?_
  refine x_iload_n rfl rfl rfl ?_
  refine x_iload rfl rfl rfl ?_
  refine x_lload rfl rfl rfl ?_
  refine x_lload rfl rfl rfl ?_
  refine x_lload rfl rfl rfl ?_
  refine x_callVi (d2 := 0) (c_mnewTraits (tn := tn) hG (nm) (dy) (3) (a) (b) (c) (by first | exact htn | (rw [← htn]; rfl) | simp [ui, ul, htn]) (by omega)) rfl rfl v_9_149 rfl rfl (by decide) rfl rfl (Nat.le_of_ble_eq_true rfl) (by omega) (by omega) ?_
  exact x_retI rfl rfl rfl (by omega) rfl rfl
set_option maxHeartbeats 4000000 in
set_option maxRecDepth 20000 in
theorem c_mtraits3X (hG : Gok G) (hd : 2 ≤ d) (nm : Int64) (dy : Prop) (a : Int64) (ha0 : a ≠ 0) (hta : isTx a) (b : Int64) (hb0 : b ≠ 0) (htb : isTx b) (c : Int64) (hc0 : c ≠ 0) (htc : isTx c) (hab : a ≠ b) (hac : a ≠ c) (hbc : b ≠ c) (h1 : isTx nm) (htn : M.1 (40, 0) 3 = nI 12) (hf : lxP (mal M nm (bI dy) 3 a b c) none 0 12 = none) : Ct G mX9_traits d [.ref (ga G (40, 0)), .long (nm), .int (bI (dy)), .long (a), .long (b), .long (c)] M (.inl (some (.int (nI 0)))) (ui M (40, 0) 0 (nI 2)) 0 := by
  refine ct_of hG okX9_traits (by decide +kernel) rfl (Nat.le_of_ble_eq_true rfl) ?_
  refine x_lload_n rfl rfl rfl ?_
  refine x_callSi (d2 := 1) (c_misText hG (Nat.le_refl 1) (nm)) rfl rfl s_9_117 rfl rfl (Nat.le_of_ble_eq_true rfl) (by omega) (by omega) ?_
  refine x_ifB_eq rfl rfl (fun hc1 => absurd h1 hc1) (fun hc1 => ?_)
  refine x_lload rfl rfl rfl ?_
  refine x_callSi (d2 := 1) (c_misText hG (Nat.le_refl 1) (a)) rfl rfl s_9_117 rfl rfl (Nat.le_of_ble_eq_true rfl) (by omega) (by omega) ?_
  refine x_ifB_eq rfl rfl (fun hc2 => absurd hta hc2) (fun hc2 => ?_)
  refine x_lload rfl rfl rfl ?_
  refine x_callSi (d2 := 1) (c_misText hG (Nat.le_refl 1) (b)) rfl rfl s_9_117 rfl rfl (Nat.le_of_ble_eq_true rfl) (by omega) (by omega) ?_
  refine x_ifB_eq rfl rfl (fun hc3 => absurd htb hc3) (fun hc3 => ?_)
  refine x_lload rfl rfl rfl ?_
  refine x_callSi (d2 := 1) (c_misText hG (Nat.le_refl 1) (c)) rfl rfl s_9_117 rfl rfl (Nat.le_of_ble_eq_true rfl) (by omega) (by omega) ?_
  refine x_ifB_eq rfl rfl (fun hc4 => absurd htc hc4) (fun hc4 => ?_)
  refine x_iconstN (b := 1) rfl rfl ?_
  refine x_goto rfl rfl ?_
  refine x_istore rfl rfl rfl rfl ?_
  refine x_iload rfl rfl rfl ?_
  refine x_if_eq rfl rfl (fun hc5 => absurd hc5 (by decide +kernel)) (fun _ => ?_)
  refine x_lload rfl rfl rfl ?_
  refine x_lconst (v := 0) rfl rfl (by decide +kernel) ?_
  refine x_lc_ne rfl rfl rfl rfl (fun hc6 => ?_) (fun hc6 => absurd hc6 ha0)
  refine x_lload rfl rfl rfl ?_
  refine x_lconst (v := 0) rfl rfl (by decide +kernel) ?_
  refine x_lc_ne rfl rfl rfl rfl (fun hc7 => ?_) (fun hc7 => absurd hc7 hb0)
  refine x_iconstN (b := 1) rfl rfl ?_
  refine x_goto rfl rfl ?_
  refine x_istore rfl rfl rfl rfl ?_
  refine x_iload rfl rfl rfl ?_
  refine x_if_eq rfl rfl (fun hc8 => absurd hc8 (by decide +kernel)) (fun _ => ?_)
  refine x_lload rfl rfl rfl ?_
  refine x_lconst (v := 0) rfl rfl (by decide +kernel) ?_
  refine x_lc_eq rfl rfl rfl rfl (fun hc9 => absurd hc9 ha0) (fun hc9 => ?_)
  refine x_lload rfl rfl rfl ?_
  refine x_lload rfl rfl rfl ?_
  refine x_lc_eq rfl rfl rfl rfl (fun hc10 => absurd hc10 hab) (fun hc10 => ?_)
  refine x_lload rfl rfl rfl ?_
  refine x_lload rfl rfl rfl ?_
  refine x_lc_eq rfl rfl rfl rfl (fun hc11 => absurd hc11 hac) (fun hc11 => ?_)
  refine x_lload rfl rfl rfl ?_
  refine x_lconst (v := 0) rfl rfl (by decide +kernel) ?_
  refine x_lc_eq rfl rfl rfl rfl (fun hc12 => absurd hc12 hb0) (fun hc12 => ?_)
  refine x_lload rfl rfl rfl ?_
  refine x_lload rfl rfl rfl ?_
  refine x_lc_eq rfl rfl rfl rfl (fun hc13 => absurd hc13 hbc) (fun hc13 => ?_)
  refine x_iconstN (b := 1) rfl rfl ?_
  refine x_goto rfl rfl ?_
  refine x_istore rfl rfl rfl rfl ?_
  refine x_lload rfl rfl rfl ?_
  refine x_lconst (v := 0) rfl rfl (by decide +kernel) ?_
  refine x_lc_ne rfl rfl rfl rfl (fun hc14 => ?_) (fun hc14 => absurd hc14 ha0)
  refine x_lload rfl rfl rfl ?_
  refine x_lconst (v := 0) rfl rfl (by decide +kernel) ?_
  refine x_lc_ne rfl rfl rfl rfl (fun hc15 => ?_) (fun hc15 => absurd hc15 hb0)
  refine x_lload rfl rfl rfl ?_
  refine x_lconst (v := 0) rfl rfl (by decide +kernel) ?_
  refine x_lc_ne rfl rfl rfl rfl (fun hc16 => ?_) (fun hc16 => absurd hc16 hc0)
  refine x_iconstN (b := 3) rfl rfl ?_
  refine x_istore rfl rfl rfl rfl ?_
  refine x_iload rfl rfl rfl ?_
  refine x_if_eq rfl rfl (fun hc17 => absurd hc17 (by decide +kernel)) (fun _ => ?_)
  refine x_aload_n rfl rfl rfl ?_
  refine x_lload_n rfl rfl rfl ?_
  refine x_iload_n rfl rfl rfl ?_
  refine x_iload rfl rfl rfl ?_
  refine x_lload rfl rfl rfl ?_
  refine x_lload rfl rfl rfl ?_
  refine x_lload rfl rfl rfl ?_
  refine x_callVi (d2 := 0) (c_malike (m := 3) hG (nm) (dy) (by omega) (a) (b) (c) htn (Nat.le_refl 12)) rfl rfl v_9_145 rfl rfl (by decide) rfl rfl (Nat.le_of_ble_eq_true rfl) (by omega) (by omega) ?_
  refine x_topI (v := -1) (by rw [hf] <;> rfl) ?_
  refine x_goto rfl rfl ?_
  refine x_istore rfl rfl rfl rfl ?_
  refine x_aload_n rfl rfl rfl ?_
  refine x_iload rfl rfl rfl ?_
  refine x_if_ne rfl rfl (fun _ => ?_) (fun hc18 => absurd hc18 (by decide +kernel))
  refine x_iload rfl rfl rfl ?_
  refine x_iconst (v := -1) rfl rfl (by decide +kernel) ?_
  refine x_icmp_ne rfl rfl (fun hc19 => absurd rfl hc19) (fun hc19 => ?_)
  refine x_aload_n rfl rfl rfl ?_
  refine x_getIv (v := nI 12) htn rfl rfl f_9_142 rfl (by decide) rfl ?_
  refine x_bipush (v := nI 12) rfl rfl (by decide +kernel) ?_
  refine x_icmpN_ne (by omega) (by omega) rfl rfl (fun hc20 => absurd hc20 (by omega)) (fun hc20 => ?_)
  refine x_iconstN (b := 2) rfl rfl ?_
  refine x_goto rfl rfl ?_
  refine x_putI rfl rfl f_9_97 rfl rfl (by decide) rfl ?_
  refine x_aload_n rfl rfl rfl ?_
  refine x_getIv (v := nI 2) (by first | rfl | simp [ui, ul]) rfl rfl f_9_97 rfl (by decide) rfl ?_
  refine x_if_le rfl rfl (fun hc21 => absurd hc21 (by decide +kernel)) (fun _ => ?_)
  refine x_iconstN (b := 0) rfl rfl ?_
  exact x_retI rfl rfl rfl (by omega) rfl rfl
set_option maxHeartbeats 4000000 in
set_option maxRecDepth 20000 in
theorem c_mtraitsX (hG : Gok G) (hd : 2 ≤ d) (nm : Int64) (dy : Prop) (a b c : Int64) (hb : ¬ (isTx nm ∧ cbm a b c)) : Ct G mX9_traits d [.ref (ga G (40, 0)), .long (nm), .int (bI (dy)), .long (a), .long (b), .long (c)] M (.inl (some (.int (nI 0)))) (ui M (40, 0) 0 (nI 1)) 0 := by
  refine ct_of hG okX9_traits (by decide +kernel) rfl (Nat.le_of_ble_eq_true rfl) ?_
  refine x_lload_n rfl rfl rfl ?_
  refine x_callSi (d2 := 1) (c_misText hG (Nat.le_refl 1) (nm)) rfl rfl s_9_117 rfl rfl (Nat.le_of_ble_eq_true rfl) (by omega) (by omega) ?_
  refine x_ifB_eq rfl rfl (fun hc1 => ?_) (fun hc1 => ?_)
  · refine x_iconstN (b := 0) rfl rfl ?_
    refine x_istore rfl rfl rfl rfl ?_
    refine x_iload rfl rfl rfl ?_
    refine x_if_eq rfl rfl (fun _ => ?_) (fun hc2 => absurd hc2 (by decide +kernel))
    refine x_iconstN (b := 0) rfl rfl ?_
    refine x_istore rfl rfl rfl rfl ?_
    refine x_iload rfl rfl rfl ?_
    refine x_if_eq rfl rfl (fun _ => ?_) (fun hc3 => absurd hc3 (by decide +kernel))
    refine x_iconstN (b := 0) rfl rfl ?_
    refine x_istore rfl rfl rfl rfl ?_
    refine x_lload rfl rfl rfl ?_
    refine x_lconst (v := 0) rfl rfl (by decide +kernel) ?_
    refine x_lc_ne rfl rfl rfl rfl (fun hc4 => ?_) (fun hc4 => ?_)
    · refine x_lload rfl rfl rfl ?_
      refine x_lconst (v := 0) rfl rfl (by decide +kernel) ?_
      refine x_lc_ne rfl rfl rfl rfl (fun hc5 => ?_) (fun hc5 => ?_)
      · refine x_lload rfl rfl rfl ?_
        refine x_lconst (v := 0) rfl rfl (by decide +kernel) ?_
        refine x_lc_ne rfl rfl rfl rfl (fun hc6 => ?_) (fun hc6 => ?_)
        · refine x_iconstN (b := 3) rfl rfl ?_
          refine x_istore rfl rfl rfl rfl ?_
          refine x_iload rfl rfl rfl ?_
          refine x_if_eq rfl rfl (fun _ => ?_) (fun hc7 => absurd hc7 (by decide +kernel))
          refine x_iconst (v := -1) rfl rfl (by decide +kernel) ?_
          refine x_istore rfl rfl rfl rfl ?_
          refine x_aload_n rfl rfl rfl ?_
          refine x_iload rfl rfl rfl ?_
          refine x_if_ne rfl rfl (fun hc8 => absurd hc8 (by decide +kernel)) (fun _ => ?_)
          refine x_iconstN (b := 1) rfl rfl ?_
          refine x_goto rfl rfl ?_
          refine x_putI rfl rfl f_9_97 rfl rfl (by decide) rfl ?_
          refine x_aload_n rfl rfl rfl ?_
          refine x_getIv (v := nI 1) (by first | rfl | simp [ui, ul]) rfl rfl f_9_97 rfl (by decide) rfl ?_
          refine x_if_le rfl rfl (fun hc9 => absurd hc9 (by decide +kernel)) (fun _ => ?_)
          refine x_iconstN (b := 0) rfl rfl ?_
          exact x_retI rfl rfl rfl (by omega) rfl rfl
        · refine x_iconstN (b := 2) rfl rfl ?_
          refine x_goto rfl rfl ?_
          refine x_istore rfl rfl rfl rfl ?_
          refine x_iload rfl rfl rfl ?_
          refine x_if_eq rfl rfl (fun _ => ?_) (fun hc10 => absurd hc10 (by decide +kernel))
          refine x_iconst (v := -1) rfl rfl (by decide +kernel) ?_
          refine x_istore rfl rfl rfl rfl ?_
          refine x_aload_n rfl rfl rfl ?_
          refine x_iload rfl rfl rfl ?_
          refine x_if_ne rfl rfl (fun hc11 => absurd hc11 (by decide +kernel)) (fun _ => ?_)
          refine x_iconstN (b := 1) rfl rfl ?_
          refine x_goto rfl rfl ?_
          refine x_putI rfl rfl f_9_97 rfl rfl (by decide) rfl ?_
          refine x_aload_n rfl rfl rfl ?_
          refine x_getIv (v := nI 1) (by first | rfl | simp [ui, ul]) rfl rfl f_9_97 rfl (by decide) rfl ?_
          refine x_if_le rfl rfl (fun hc12 => absurd hc12 (by decide +kernel)) (fun _ => ?_)
          refine x_iconstN (b := 0) rfl rfl ?_
          exact x_retI rfl rfl rfl (by omega) rfl rfl
      · refine x_iconstN (b := 1) rfl rfl ?_
        refine x_goto rfl rfl ?_
        refine x_istore rfl rfl rfl rfl ?_
        refine x_iload rfl rfl rfl ?_
        refine x_if_eq rfl rfl (fun _ => ?_) (fun hc13 => absurd hc13 (by decide +kernel))
        refine x_iconst (v := -1) rfl rfl (by decide +kernel) ?_
        refine x_istore rfl rfl rfl rfl ?_
        refine x_aload_n rfl rfl rfl ?_
        refine x_iload rfl rfl rfl ?_
        refine x_if_ne rfl rfl (fun hc14 => absurd hc14 (by decide +kernel)) (fun _ => ?_)
        refine x_iconstN (b := 1) rfl rfl ?_
        refine x_goto rfl rfl ?_
        refine x_putI rfl rfl f_9_97 rfl rfl (by decide) rfl ?_
        refine x_aload_n rfl rfl rfl ?_
        refine x_getIv (v := nI 1) (by first | rfl | simp [ui, ul]) rfl rfl f_9_97 rfl (by decide) rfl ?_
        refine x_if_le rfl rfl (fun hc15 => absurd hc15 (by decide +kernel)) (fun _ => ?_)
        refine x_iconstN (b := 0) rfl rfl ?_
        exact x_retI rfl rfl rfl (by omega) rfl rfl
    · refine x_iconstN (b := 0) rfl rfl ?_
      refine x_goto rfl rfl ?_
      refine x_istore rfl rfl rfl rfl ?_
      refine x_iload rfl rfl rfl ?_
      refine x_if_eq rfl rfl (fun _ => ?_) (fun hc16 => absurd hc16 (by decide +kernel))
      refine x_iconst (v := -1) rfl rfl (by decide +kernel) ?_
      refine x_istore rfl rfl rfl rfl ?_
      refine x_aload_n rfl rfl rfl ?_
      refine x_iload rfl rfl rfl ?_
      refine x_if_ne rfl rfl (fun hc17 => absurd hc17 (by decide +kernel)) (fun _ => ?_)
      refine x_iconstN (b := 1) rfl rfl ?_
      refine x_goto rfl rfl ?_
      refine x_putI rfl rfl f_9_97 rfl rfl (by decide) rfl ?_
      refine x_aload_n rfl rfl rfl ?_
      refine x_getIv (v := nI 1) (by first | rfl | simp [ui, ul]) rfl rfl f_9_97 rfl (by decide) rfl ?_
      refine x_if_le rfl rfl (fun hc18 => absurd hc18 (by decide +kernel)) (fun _ => ?_)
      refine x_iconstN (b := 0) rfl rfl ?_
      exact x_retI rfl rfl rfl (by omega) rfl rfl
  · refine x_lload rfl rfl rfl ?_
    refine x_callSi (d2 := 1) (c_misText hG (Nat.le_refl 1) (a)) rfl rfl s_9_117 rfl rfl (Nat.le_of_ble_eq_true rfl) (by omega) (by omega) ?_
    refine x_ifB_eq rfl rfl (fun hc19 => ?_) (fun hc19 => ?_)
    · refine x_iconstN (b := 0) rfl rfl ?_
      refine x_istore rfl rfl rfl rfl ?_
      refine x_iload rfl rfl rfl ?_
      refine x_if_eq rfl rfl (fun _ => ?_) (fun hc20 => absurd hc20 (by decide +kernel))
      refine x_iconstN (b := 0) rfl rfl ?_
      refine x_istore rfl rfl rfl rfl ?_
      refine x_iload rfl rfl rfl ?_
      refine x_if_eq rfl rfl (fun _ => ?_) (fun hc21 => absurd hc21 (by decide +kernel))
      refine x_iconstN (b := 0) rfl rfl ?_
      refine x_istore rfl rfl rfl rfl ?_
      refine x_lload rfl rfl rfl ?_
      refine x_lconst (v := 0) rfl rfl (by decide +kernel) ?_
      refine x_lc_ne rfl rfl rfl rfl (fun hc22 => ?_) (fun hc22 => ?_)
      · refine x_lload rfl rfl rfl ?_
        refine x_lconst (v := 0) rfl rfl (by decide +kernel) ?_
        refine x_lc_ne rfl rfl rfl rfl (fun hc23 => ?_) (fun hc23 => ?_)
        · refine x_lload rfl rfl rfl ?_
          refine x_lconst (v := 0) rfl rfl (by decide +kernel) ?_
          refine x_lc_ne rfl rfl rfl rfl (fun hc24 => ?_) (fun hc24 => ?_)
          · refine x_iconstN (b := 3) rfl rfl ?_
            refine x_istore rfl rfl rfl rfl ?_
            refine x_iload rfl rfl rfl ?_
            refine x_if_eq rfl rfl (fun _ => ?_) (fun hc25 => absurd hc25 (by decide +kernel))
            refine x_iconst (v := -1) rfl rfl (by decide +kernel) ?_
            refine x_istore rfl rfl rfl rfl ?_
            refine x_aload_n rfl rfl rfl ?_
            refine x_iload rfl rfl rfl ?_
            refine x_if_ne rfl rfl (fun hc26 => absurd hc26 (by decide +kernel)) (fun _ => ?_)
            refine x_iconstN (b := 1) rfl rfl ?_
            refine x_goto rfl rfl ?_
            refine x_putI rfl rfl f_9_97 rfl rfl (by decide) rfl ?_
            refine x_aload_n rfl rfl rfl ?_
            refine x_getIv (v := nI 1) (by first | rfl | simp [ui, ul]) rfl rfl f_9_97 rfl (by decide) rfl ?_
            refine x_if_le rfl rfl (fun hc27 => absurd hc27 (by decide +kernel)) (fun _ => ?_)
            refine x_iconstN (b := 0) rfl rfl ?_
            exact x_retI rfl rfl rfl (by omega) rfl rfl
          · refine x_iconstN (b := 2) rfl rfl ?_
            refine x_goto rfl rfl ?_
            refine x_istore rfl rfl rfl rfl ?_
            refine x_iload rfl rfl rfl ?_
            refine x_if_eq rfl rfl (fun _ => ?_) (fun hc28 => absurd hc28 (by decide +kernel))
            refine x_iconst (v := -1) rfl rfl (by decide +kernel) ?_
            refine x_istore rfl rfl rfl rfl ?_
            refine x_aload_n rfl rfl rfl ?_
            refine x_iload rfl rfl rfl ?_
            refine x_if_ne rfl rfl (fun hc29 => absurd hc29 (by decide +kernel)) (fun _ => ?_)
            refine x_iconstN (b := 1) rfl rfl ?_
            refine x_goto rfl rfl ?_
            refine x_putI rfl rfl f_9_97 rfl rfl (by decide) rfl ?_
            refine x_aload_n rfl rfl rfl ?_
            refine x_getIv (v := nI 1) (by first | rfl | simp [ui, ul]) rfl rfl f_9_97 rfl (by decide) rfl ?_
            refine x_if_le rfl rfl (fun hc30 => absurd hc30 (by decide +kernel)) (fun _ => ?_)
            refine x_iconstN (b := 0) rfl rfl ?_
            exact x_retI rfl rfl rfl (by omega) rfl rfl
        · refine x_iconstN (b := 1) rfl rfl ?_
          refine x_goto rfl rfl ?_
          refine x_istore rfl rfl rfl rfl ?_
          refine x_iload rfl rfl rfl ?_
          refine x_if_eq rfl rfl (fun _ => ?_) (fun hc31 => absurd hc31 (by decide +kernel))
          refine x_iconst (v := -1) rfl rfl (by decide +kernel) ?_
          refine x_istore rfl rfl rfl rfl ?_
          refine x_aload_n rfl rfl rfl ?_
          refine x_iload rfl rfl rfl ?_
          refine x_if_ne rfl rfl (fun hc32 => absurd hc32 (by decide +kernel)) (fun _ => ?_)
          refine x_iconstN (b := 1) rfl rfl ?_
          refine x_goto rfl rfl ?_
          refine x_putI rfl rfl f_9_97 rfl rfl (by decide) rfl ?_
          refine x_aload_n rfl rfl rfl ?_
          refine x_getIv (v := nI 1) (by first | rfl | simp [ui, ul]) rfl rfl f_9_97 rfl (by decide) rfl ?_
          refine x_if_le rfl rfl (fun hc33 => absurd hc33 (by decide +kernel)) (fun _ => ?_)
          refine x_iconstN (b := 0) rfl rfl ?_
          exact x_retI rfl rfl rfl (by omega) rfl rfl
      · refine x_iconstN (b := 0) rfl rfl ?_
        refine x_goto rfl rfl ?_
        refine x_istore rfl rfl rfl rfl ?_
        refine x_iload rfl rfl rfl ?_
        refine x_if_eq rfl rfl (fun _ => ?_) (fun hc34 => absurd hc34 (by decide +kernel))
        refine x_iconst (v := -1) rfl rfl (by decide +kernel) ?_
        refine x_istore rfl rfl rfl rfl ?_
        refine x_aload_n rfl rfl rfl ?_
        refine x_iload rfl rfl rfl ?_
        refine x_if_ne rfl rfl (fun hc35 => absurd hc35 (by decide +kernel)) (fun _ => ?_)
        refine x_iconstN (b := 1) rfl rfl ?_
        refine x_goto rfl rfl ?_
        refine x_putI rfl rfl f_9_97 rfl rfl (by decide) rfl ?_
        refine x_aload_n rfl rfl rfl ?_
        refine x_getIv (v := nI 1) (by first | rfl | simp [ui, ul]) rfl rfl f_9_97 rfl (by decide) rfl ?_
        refine x_if_le rfl rfl (fun hc36 => absurd hc36 (by decide +kernel)) (fun _ => ?_)
        refine x_iconstN (b := 0) rfl rfl ?_
        exact x_retI rfl rfl rfl (by omega) rfl rfl
    · refine x_lload rfl rfl rfl ?_
      refine x_callSi (d2 := 1) (c_misText hG (Nat.le_refl 1) (b)) rfl rfl s_9_117 rfl rfl (Nat.le_of_ble_eq_true rfl) (by omega) (by omega) ?_
      refine x_ifB_eq rfl rfl (fun hc37 => ?_) (fun hc37 => ?_)
      · refine x_iconstN (b := 0) rfl rfl ?_
        refine x_istore rfl rfl rfl rfl ?_
        refine x_iload rfl rfl rfl ?_
        refine x_if_eq rfl rfl (fun _ => ?_) (fun hc38 => absurd hc38 (by decide +kernel))
        refine x_iconstN (b := 0) rfl rfl ?_
        refine x_istore rfl rfl rfl rfl ?_
        refine x_iload rfl rfl rfl ?_
        refine x_if_eq rfl rfl (fun _ => ?_) (fun hc39 => absurd hc39 (by decide +kernel))
        refine x_iconstN (b := 0) rfl rfl ?_
        refine x_istore rfl rfl rfl rfl ?_
        refine x_lload rfl rfl rfl ?_
        refine x_lconst (v := 0) rfl rfl (by decide +kernel) ?_
        refine x_lc_ne rfl rfl rfl rfl (fun hc40 => ?_) (fun hc40 => ?_)
        · refine x_lload rfl rfl rfl ?_
          refine x_lconst (v := 0) rfl rfl (by decide +kernel) ?_
          refine x_lc_ne rfl rfl rfl rfl (fun hc41 => ?_) (fun hc41 => ?_)
          · refine x_lload rfl rfl rfl ?_
            refine x_lconst (v := 0) rfl rfl (by decide +kernel) ?_
            refine x_lc_ne rfl rfl rfl rfl (fun hc42 => ?_) (fun hc42 => ?_)
            · refine x_iconstN (b := 3) rfl rfl ?_
              refine x_istore rfl rfl rfl rfl ?_
              refine x_iload rfl rfl rfl ?_
              refine x_if_eq rfl rfl (fun _ => ?_) (fun hc43 => absurd hc43 (by decide +kernel))
              refine x_iconst (v := -1) rfl rfl (by decide +kernel) ?_
              refine x_istore rfl rfl rfl rfl ?_
              refine x_aload_n rfl rfl rfl ?_
              refine x_iload rfl rfl rfl ?_
              refine x_if_ne rfl rfl (fun hc44 => absurd hc44 (by decide +kernel)) (fun _ => ?_)
              refine x_iconstN (b := 1) rfl rfl ?_
              refine x_goto rfl rfl ?_
              refine x_putI rfl rfl f_9_97 rfl rfl (by decide) rfl ?_
              refine x_aload_n rfl rfl rfl ?_
              refine x_getIv (v := nI 1) (by first | rfl | simp [ui, ul]) rfl rfl f_9_97 rfl (by decide) rfl ?_
              refine x_if_le rfl rfl (fun hc45 => absurd hc45 (by decide +kernel)) (fun _ => ?_)
              refine x_iconstN (b := 0) rfl rfl ?_
              exact x_retI rfl rfl rfl (by omega) rfl rfl
            · refine x_iconstN (b := 2) rfl rfl ?_
              refine x_goto rfl rfl ?_
              refine x_istore rfl rfl rfl rfl ?_
              refine x_iload rfl rfl rfl ?_
              refine x_if_eq rfl rfl (fun _ => ?_) (fun hc46 => absurd hc46 (by decide +kernel))
              refine x_iconst (v := -1) rfl rfl (by decide +kernel) ?_
              refine x_istore rfl rfl rfl rfl ?_
              refine x_aload_n rfl rfl rfl ?_
              refine x_iload rfl rfl rfl ?_
              refine x_if_ne rfl rfl (fun hc47 => absurd hc47 (by decide +kernel)) (fun _ => ?_)
              refine x_iconstN (b := 1) rfl rfl ?_
              refine x_goto rfl rfl ?_
              refine x_putI rfl rfl f_9_97 rfl rfl (by decide) rfl ?_
              refine x_aload_n rfl rfl rfl ?_
              refine x_getIv (v := nI 1) (by first | rfl | simp [ui, ul]) rfl rfl f_9_97 rfl (by decide) rfl ?_
              refine x_if_le rfl rfl (fun hc48 => absurd hc48 (by decide +kernel)) (fun _ => ?_)
              refine x_iconstN (b := 0) rfl rfl ?_
              exact x_retI rfl rfl rfl (by omega) rfl rfl
          · refine x_iconstN (b := 1) rfl rfl ?_
            refine x_goto rfl rfl ?_
            refine x_istore rfl rfl rfl rfl ?_
            refine x_iload rfl rfl rfl ?_
            refine x_if_eq rfl rfl (fun _ => ?_) (fun hc49 => absurd hc49 (by decide +kernel))
            refine x_iconst (v := -1) rfl rfl (by decide +kernel) ?_
            refine x_istore rfl rfl rfl rfl ?_
            refine x_aload_n rfl rfl rfl ?_
            refine x_iload rfl rfl rfl ?_
            refine x_if_ne rfl rfl (fun hc50 => absurd hc50 (by decide +kernel)) (fun _ => ?_)
            refine x_iconstN (b := 1) rfl rfl ?_
            refine x_goto rfl rfl ?_
            refine x_putI rfl rfl f_9_97 rfl rfl (by decide) rfl ?_
            refine x_aload_n rfl rfl rfl ?_
            refine x_getIv (v := nI 1) (by first | rfl | simp [ui, ul]) rfl rfl f_9_97 rfl (by decide) rfl ?_
            refine x_if_le rfl rfl (fun hc51 => absurd hc51 (by decide +kernel)) (fun _ => ?_)
            refine x_iconstN (b := 0) rfl rfl ?_
            exact x_retI rfl rfl rfl (by omega) rfl rfl
        · refine x_iconstN (b := 0) rfl rfl ?_
          refine x_goto rfl rfl ?_
          refine x_istore rfl rfl rfl rfl ?_
          refine x_iload rfl rfl rfl ?_
          refine x_if_eq rfl rfl (fun _ => ?_) (fun hc52 => absurd hc52 (by decide +kernel))
          refine x_iconst (v := -1) rfl rfl (by decide +kernel) ?_
          refine x_istore rfl rfl rfl rfl ?_
          refine x_aload_n rfl rfl rfl ?_
          refine x_iload rfl rfl rfl ?_
          refine x_if_ne rfl rfl (fun hc53 => absurd hc53 (by decide +kernel)) (fun _ => ?_)
          refine x_iconstN (b := 1) rfl rfl ?_
          refine x_goto rfl rfl ?_
          refine x_putI rfl rfl f_9_97 rfl rfl (by decide) rfl ?_
          refine x_aload_n rfl rfl rfl ?_
          refine x_getIv (v := nI 1) (by first | rfl | simp [ui, ul]) rfl rfl f_9_97 rfl (by decide) rfl ?_
          refine x_if_le rfl rfl (fun hc54 => absurd hc54 (by decide +kernel)) (fun _ => ?_)
          refine x_iconstN (b := 0) rfl rfl ?_
          exact x_retI rfl rfl rfl (by omega) rfl rfl
      · refine x_lload rfl rfl rfl ?_
        refine x_callSi (d2 := 1) (c_misText hG (Nat.le_refl 1) (c)) rfl rfl s_9_117 rfl rfl (Nat.le_of_ble_eq_true rfl) (by omega) (by omega) ?_
        refine x_ifB_eq rfl rfl (fun hc55 => ?_) (fun hc55 => ?_)
        · refine x_iconstN (b := 0) rfl rfl ?_
          refine x_istore rfl rfl rfl rfl ?_
          refine x_iload rfl rfl rfl ?_
          refine x_if_eq rfl rfl (fun _ => ?_) (fun hc56 => absurd hc56 (by decide +kernel))
          refine x_iconstN (b := 0) rfl rfl ?_
          refine x_istore rfl rfl rfl rfl ?_
          refine x_iload rfl rfl rfl ?_
          refine x_if_eq rfl rfl (fun _ => ?_) (fun hc57 => absurd hc57 (by decide +kernel))
          refine x_iconstN (b := 0) rfl rfl ?_
          refine x_istore rfl rfl rfl rfl ?_
          refine x_lload rfl rfl rfl ?_
          refine x_lconst (v := 0) rfl rfl (by decide +kernel) ?_
          refine x_lc_ne rfl rfl rfl rfl (fun hc58 => ?_) (fun hc58 => ?_)
          · refine x_lload rfl rfl rfl ?_
            refine x_lconst (v := 0) rfl rfl (by decide +kernel) ?_
            refine x_lc_ne rfl rfl rfl rfl (fun hc59 => ?_) (fun hc59 => ?_)
            · refine x_lload rfl rfl rfl ?_
              refine x_lconst (v := 0) rfl rfl (by decide +kernel) ?_
              refine x_lc_ne rfl rfl rfl rfl (fun hc60 => ?_) (fun hc60 => ?_)
              · refine x_iconstN (b := 3) rfl rfl ?_
                refine x_istore rfl rfl rfl rfl ?_
                refine x_iload rfl rfl rfl ?_
                refine x_if_eq rfl rfl (fun _ => ?_) (fun hc61 => absurd hc61 (by decide +kernel))
                refine x_iconst (v := -1) rfl rfl (by decide +kernel) ?_
                refine x_istore rfl rfl rfl rfl ?_
                refine x_aload_n rfl rfl rfl ?_
                refine x_iload rfl rfl rfl ?_
                refine x_if_ne rfl rfl (fun hc62 => absurd hc62 (by decide +kernel)) (fun _ => ?_)
                refine x_iconstN (b := 1) rfl rfl ?_
                refine x_goto rfl rfl ?_
                refine x_putI rfl rfl f_9_97 rfl rfl (by decide) rfl ?_
                refine x_aload_n rfl rfl rfl ?_
                refine x_getIv (v := nI 1) (by first | rfl | simp [ui, ul]) rfl rfl f_9_97 rfl (by decide) rfl ?_
                refine x_if_le rfl rfl (fun hc63 => absurd hc63 (by decide +kernel)) (fun _ => ?_)
                refine x_iconstN (b := 0) rfl rfl ?_
                exact x_retI rfl rfl rfl (by omega) rfl rfl
              · refine x_iconstN (b := 2) rfl rfl ?_
                refine x_goto rfl rfl ?_
                refine x_istore rfl rfl rfl rfl ?_
                refine x_iload rfl rfl rfl ?_
                refine x_if_eq rfl rfl (fun _ => ?_) (fun hc64 => absurd hc64 (by decide +kernel))
                refine x_iconst (v := -1) rfl rfl (by decide +kernel) ?_
                refine x_istore rfl rfl rfl rfl ?_
                refine x_aload_n rfl rfl rfl ?_
                refine x_iload rfl rfl rfl ?_
                refine x_if_ne rfl rfl (fun hc65 => absurd hc65 (by decide +kernel)) (fun _ => ?_)
                refine x_iconstN (b := 1) rfl rfl ?_
                refine x_goto rfl rfl ?_
                refine x_putI rfl rfl f_9_97 rfl rfl (by decide) rfl ?_
                refine x_aload_n rfl rfl rfl ?_
                refine x_getIv (v := nI 1) (by first | rfl | simp [ui, ul]) rfl rfl f_9_97 rfl (by decide) rfl ?_
                refine x_if_le rfl rfl (fun hc66 => absurd hc66 (by decide +kernel)) (fun _ => ?_)
                refine x_iconstN (b := 0) rfl rfl ?_
                exact x_retI rfl rfl rfl (by omega) rfl rfl
            · refine x_iconstN (b := 1) rfl rfl ?_
              refine x_goto rfl rfl ?_
              refine x_istore rfl rfl rfl rfl ?_
              refine x_iload rfl rfl rfl ?_
              refine x_if_eq rfl rfl (fun _ => ?_) (fun hc67 => absurd hc67 (by decide +kernel))
              refine x_iconst (v := -1) rfl rfl (by decide +kernel) ?_
              refine x_istore rfl rfl rfl rfl ?_
              refine x_aload_n rfl rfl rfl ?_
              refine x_iload rfl rfl rfl ?_
              refine x_if_ne rfl rfl (fun hc68 => absurd hc68 (by decide +kernel)) (fun _ => ?_)
              refine x_iconstN (b := 1) rfl rfl ?_
              refine x_goto rfl rfl ?_
              refine x_putI rfl rfl f_9_97 rfl rfl (by decide) rfl ?_
              refine x_aload_n rfl rfl rfl ?_
              refine x_getIv (v := nI 1) (by first | rfl | simp [ui, ul]) rfl rfl f_9_97 rfl (by decide) rfl ?_
              refine x_if_le rfl rfl (fun hc69 => absurd hc69 (by decide +kernel)) (fun _ => ?_)
              refine x_iconstN (b := 0) rfl rfl ?_
              exact x_retI rfl rfl rfl (by omega) rfl rfl
          · refine x_iconstN (b := 0) rfl rfl ?_
            refine x_goto rfl rfl ?_
            refine x_istore rfl rfl rfl rfl ?_
            refine x_iload rfl rfl rfl ?_
            refine x_if_eq rfl rfl (fun _ => ?_) (fun hc70 => absurd hc70 (by decide +kernel))
            refine x_iconst (v := -1) rfl rfl (by decide +kernel) ?_
            refine x_istore rfl rfl rfl rfl ?_
            refine x_aload_n rfl rfl rfl ?_
            refine x_iload rfl rfl rfl ?_
            refine x_if_ne rfl rfl (fun hc71 => absurd hc71 (by decide +kernel)) (fun _ => ?_)
            refine x_iconstN (b := 1) rfl rfl ?_
            refine x_goto rfl rfl ?_
            refine x_putI rfl rfl f_9_97 rfl rfl (by decide) rfl ?_
            refine x_aload_n rfl rfl rfl ?_
            refine x_getIv (v := nI 1) (by first | rfl | simp [ui, ul]) rfl rfl f_9_97 rfl (by decide) rfl ?_
            refine x_if_le rfl rfl (fun hc72 => absurd hc72 (by decide +kernel)) (fun _ => ?_)
            refine x_iconstN (b := 0) rfl rfl ?_
            exact x_retI rfl rfl rfl (by omega) rfl rfl
        · refine x_iconstN (b := 1) rfl rfl ?_
          refine x_goto rfl rfl ?_
          refine x_istore rfl rfl rfl rfl ?_
          refine x_iload rfl rfl rfl ?_
          refine x_if_eq rfl rfl (fun hc73 => absurd hc73 (by decide +kernel)) (fun _ => ?_)
          refine x_lload rfl rfl rfl ?_
          refine x_lconst (v := 0) rfl rfl (by decide +kernel) ?_
          refine x_lc_ne rfl rfl rfl rfl (fun hc74 => ?_) (fun hc74 => ?_)
          · refine x_lload rfl rfl rfl ?_
            refine x_lconst (v := 0) rfl rfl (by decide +kernel) ?_
            refine x_lc_ne rfl rfl rfl rfl (fun hc75 => ?_) (fun hc75 => ?_)
            · refine x_iconstN (b := 1) rfl rfl ?_
              refine x_goto rfl rfl ?_
              refine x_istore rfl rfl rfl rfl ?_
              refine x_iload rfl rfl rfl ?_
              refine x_if_eq rfl rfl (fun hc76 => absurd hc76 (by decide +kernel)) (fun _ => ?_)
              refine x_lload rfl rfl rfl ?_
              refine x_lconst (v := 0) rfl rfl (by decide +kernel) ?_
              refine x_lc_eq rfl rfl rfl rfl (fun hc77 => ?_) (fun hc77 => ?_)
              · refine x_lload rfl rfl rfl ?_
                refine x_lconst (v := 0) rfl rfl (by decide +kernel) ?_
                refine x_lc_eq rfl rfl rfl rfl (fun hc78 => ?_) (fun hc78 => ?_)
                · refine x_iconstN (b := 1) rfl rfl ?_
                  refine x_goto rfl rfl ?_
                  refine x_istore rfl rfl rfl rfl ?_
                  refine x_lload rfl rfl rfl ?_
                  refine x_lconst (v := 0) rfl rfl (by decide +kernel) ?_
                  refine x_lc_ne rfl rfl rfl rfl (fun hc79 => ?_) (fun hc79 => ?_)
                  · refine x_lload rfl rfl rfl ?_
                    refine x_lconst (v := 0) rfl rfl (by decide +kernel) ?_
                    refine x_lc_ne rfl rfl rfl rfl (fun hc80 => ?_) (fun hc80 => ?_)
                    · refine x_lload rfl rfl rfl ?_
                      refine x_lconst (v := 0) rfl rfl (by decide +kernel) ?_
                      refine x_lc_ne rfl rfl rfl rfl (fun hc81 => ?_) (fun hc81 => ?_)
                      · refine x_iconstN (b := 3) rfl rfl ?_
                        refine x_istore rfl rfl rfl rfl ?_
                        refine x_iload rfl rfl rfl ?_
                        refine x_if_eq rfl rfl (fun hc82 => absurd hc82 (by decide +kernel)) (fun _ => ?_)
                        refine x_aload_n rfl rfl rfl ?_
                        refine x_lload_n rfl rfl rfl ?_
                        refine x_iload_n rfl rfl rfl ?_
                        refine x_iload rfl rfl rfl ?_
                        refine x_lload rfl rfl rfl ?_
                        refine x_lload rfl rfl rfl ?_
                        refine x_lload rfl rfl rfl ?_
                        exact absurd (by unfold cbm; simp_all) hb
                      · refine x_iconstN (b := 2) rfl rfl ?_
                        refine x_goto rfl rfl ?_
                        refine x_istore rfl rfl rfl rfl ?_
                        refine x_iload rfl rfl rfl ?_
                        refine x_if_eq rfl rfl (fun hc83 => absurd hc83 (by decide +kernel)) (fun _ => ?_)
                        refine x_aload_n rfl rfl rfl ?_
                        refine x_lload_n rfl rfl rfl ?_
                        refine x_iload_n rfl rfl rfl ?_
                        refine x_iload rfl rfl rfl ?_
                        refine x_lload rfl rfl rfl ?_
                        refine x_lload rfl rfl rfl ?_
                        refine x_lload rfl rfl rfl ?_
                        exact absurd (by unfold cbm; simp_all) hb
                    · refine x_iconstN (b := 1) rfl rfl ?_
                      refine x_goto rfl rfl ?_
                      refine x_istore rfl rfl rfl rfl ?_
                      refine x_iload rfl rfl rfl ?_
                      refine x_if_eq rfl rfl (fun hc84 => absurd hc84 (by decide +kernel)) (fun _ => ?_)
                      refine x_aload_n rfl rfl rfl ?_
                      refine x_lload_n rfl rfl rfl ?_
                      refine x_iload_n rfl rfl rfl ?_
                      refine x_iload rfl rfl rfl ?_
                      refine x_lload rfl rfl rfl ?_
                      refine x_lload rfl rfl rfl ?_
                      refine x_lload rfl rfl rfl ?_
                      exact absurd (by unfold cbm; simp_all) hb
                  · refine x_iconstN (b := 0) rfl rfl ?_
                    refine x_goto rfl rfl ?_
                    refine x_istore rfl rfl rfl rfl ?_
                    refine x_iload rfl rfl rfl ?_
                    refine x_if_eq rfl rfl (fun hc85 => absurd hc85 (by decide +kernel)) (fun _ => ?_)
                    refine x_aload_n rfl rfl rfl ?_
                    refine x_lload_n rfl rfl rfl ?_
                    refine x_iload_n rfl rfl rfl ?_
                    refine x_iload rfl rfl rfl ?_
                    refine x_lload rfl rfl rfl ?_
                    refine x_lload rfl rfl rfl ?_
                    refine x_lload rfl rfl rfl ?_
                    exact absurd (by unfold cbm; simp_all) hb
                · refine x_lload rfl rfl rfl ?_
                  refine x_lload rfl rfl rfl ?_
                  refine x_lc_eq rfl rfl rfl rfl (fun hc86 => ?_) (fun hc86 => ?_)
                  · refine x_iconstN (b := 0) rfl rfl ?_
                    refine x_istore rfl rfl rfl rfl ?_
                    refine x_lload rfl rfl rfl ?_
                    refine x_lconst (v := 0) rfl rfl (by decide +kernel) ?_
                    refine x_lc_ne rfl rfl rfl rfl (fun hc87 => ?_) (fun hc87 => ?_)
                    · refine x_lload rfl rfl rfl ?_
                      refine x_lconst (v := 0) rfl rfl (by decide +kernel) ?_
                      refine x_lc_ne rfl rfl rfl rfl (fun hc88 => ?_) (fun hc88 => ?_)
                      · refine x_lload rfl rfl rfl ?_
                        refine x_lconst (v := 0) rfl rfl (by decide +kernel) ?_
                        refine x_lc_ne rfl rfl rfl rfl (fun hc89 => ?_) (fun hc89 => ?_)
                        · refine x_iconstN (b := 3) rfl rfl ?_
                          refine x_istore rfl rfl rfl rfl ?_
                          refine x_iload rfl rfl rfl ?_
                          refine x_if_eq rfl rfl (fun _ => ?_) (fun hc90 => absurd hc90 (by decide +kernel))
                          refine x_iconst (v := -1) rfl rfl (by decide +kernel) ?_
                          refine x_istore rfl rfl rfl rfl ?_
                          refine x_aload_n rfl rfl rfl ?_
                          refine x_iload rfl rfl rfl ?_
                          refine x_if_ne rfl rfl (fun hc91 => absurd hc91 (by decide +kernel)) (fun _ => ?_)
                          refine x_iconstN (b := 1) rfl rfl ?_
                          refine x_goto rfl rfl ?_
                          refine x_putI rfl rfl f_9_97 rfl rfl (by decide) rfl ?_
                          refine x_aload_n rfl rfl rfl ?_
                          refine x_getIv (v := nI 1) (by first | rfl | simp [ui, ul]) rfl rfl f_9_97 rfl (by decide) rfl ?_
                          refine x_if_le rfl rfl (fun hc92 => absurd hc92 (by decide +kernel)) (fun _ => ?_)
                          refine x_iconstN (b := 0) rfl rfl ?_
                          exact x_retI rfl rfl rfl (by omega) rfl rfl
                        · refine x_iconstN (b := 2) rfl rfl ?_
                          refine x_goto rfl rfl ?_
                          refine x_istore rfl rfl rfl rfl ?_
                          refine x_iload rfl rfl rfl ?_
                          refine x_if_eq rfl rfl (fun _ => ?_) (fun hc93 => absurd hc93 (by decide +kernel))
                          refine x_iconst (v := -1) rfl rfl (by decide +kernel) ?_
                          refine x_istore rfl rfl rfl rfl ?_
                          refine x_aload_n rfl rfl rfl ?_
                          refine x_iload rfl rfl rfl ?_
                          refine x_if_ne rfl rfl (fun hc94 => absurd hc94 (by decide +kernel)) (fun _ => ?_)
                          refine x_iconstN (b := 1) rfl rfl ?_
                          refine x_goto rfl rfl ?_
                          refine x_putI rfl rfl f_9_97 rfl rfl (by decide) rfl ?_
                          refine x_aload_n rfl rfl rfl ?_
                          refine x_getIv (v := nI 1) (by first | rfl | simp [ui, ul]) rfl rfl f_9_97 rfl (by decide) rfl ?_
                          refine x_if_le rfl rfl (fun hc95 => absurd hc95 (by decide +kernel)) (fun _ => ?_)
                          refine x_iconstN (b := 0) rfl rfl ?_
                          exact x_retI rfl rfl rfl (by omega) rfl rfl
                      · refine x_iconstN (b := 1) rfl rfl ?_
                        refine x_goto rfl rfl ?_
                        refine x_istore rfl rfl rfl rfl ?_
                        refine x_iload rfl rfl rfl ?_
                        refine x_if_eq rfl rfl (fun _ => ?_) (fun hc96 => absurd hc96 (by decide +kernel))
                        refine x_iconst (v := -1) rfl rfl (by decide +kernel) ?_
                        refine x_istore rfl rfl rfl rfl ?_
                        refine x_aload_n rfl rfl rfl ?_
                        refine x_iload rfl rfl rfl ?_
                        refine x_if_ne rfl rfl (fun hc97 => absurd hc97 (by decide +kernel)) (fun _ => ?_)
                        refine x_iconstN (b := 1) rfl rfl ?_
                        refine x_goto rfl rfl ?_
                        refine x_putI rfl rfl f_9_97 rfl rfl (by decide) rfl ?_
                        refine x_aload_n rfl rfl rfl ?_
                        refine x_getIv (v := nI 1) (by first | rfl | simp [ui, ul]) rfl rfl f_9_97 rfl (by decide) rfl ?_
                        refine x_if_le rfl rfl (fun hc98 => absurd hc98 (by decide +kernel)) (fun _ => ?_)
                        refine x_iconstN (b := 0) rfl rfl ?_
                        exact x_retI rfl rfl rfl (by omega) rfl rfl
                    · refine x_iconstN (b := 0) rfl rfl ?_
                      refine x_goto rfl rfl ?_
                      refine x_istore rfl rfl rfl rfl ?_
                      refine x_iload rfl rfl rfl ?_
                      refine x_if_eq rfl rfl (fun _ => ?_) (fun hc99 => absurd hc99 (by decide +kernel))
                      refine x_iconst (v := -1) rfl rfl (by decide +kernel) ?_
                      refine x_istore rfl rfl rfl rfl ?_
                      refine x_aload_n rfl rfl rfl ?_
                      refine x_iload rfl rfl rfl ?_
                      refine x_if_ne rfl rfl (fun hc100 => absurd hc100 (by decide +kernel)) (fun _ => ?_)
                      refine x_iconstN (b := 1) rfl rfl ?_
                      refine x_goto rfl rfl ?_
                      refine x_putI rfl rfl f_9_97 rfl rfl (by decide) rfl ?_
                      refine x_aload_n rfl rfl rfl ?_
                      refine x_getIv (v := nI 1) (by first | rfl | simp [ui, ul]) rfl rfl f_9_97 rfl (by decide) rfl ?_
                      refine x_if_le rfl rfl (fun hc101 => absurd hc101 (by decide +kernel)) (fun _ => ?_)
                      refine x_iconstN (b := 0) rfl rfl ?_
                      exact x_retI rfl rfl rfl (by omega) rfl rfl
                  · refine x_iconstN (b := 1) rfl rfl ?_
                    refine x_goto rfl rfl ?_
                    refine x_istore rfl rfl rfl rfl ?_
                    refine x_lload rfl rfl rfl ?_
                    refine x_lconst (v := 0) rfl rfl (by decide +kernel) ?_
                    refine x_lc_ne rfl rfl rfl rfl (fun hc102 => ?_) (fun hc102 => ?_)
                    · refine x_lload rfl rfl rfl ?_
                      refine x_lconst (v := 0) rfl rfl (by decide +kernel) ?_
                      refine x_lc_ne rfl rfl rfl rfl (fun hc103 => ?_) (fun hc103 => ?_)
                      · refine x_lload rfl rfl rfl ?_
                        refine x_lconst (v := 0) rfl rfl (by decide +kernel) ?_
                        refine x_lc_ne rfl rfl rfl rfl (fun hc104 => ?_) (fun hc104 => ?_)
                        · refine x_iconstN (b := 3) rfl rfl ?_
                          refine x_istore rfl rfl rfl rfl ?_
                          refine x_iload rfl rfl rfl ?_
                          refine x_if_eq rfl rfl (fun hc105 => absurd hc105 (by decide +kernel)) (fun _ => ?_)
                          refine x_aload_n rfl rfl rfl ?_
                          refine x_lload_n rfl rfl rfl ?_
                          refine x_iload_n rfl rfl rfl ?_
                          refine x_iload rfl rfl rfl ?_
                          refine x_lload rfl rfl rfl ?_
                          refine x_lload rfl rfl rfl ?_
                          refine x_lload rfl rfl rfl ?_
                          exact absurd (by unfold cbm; simp_all) hb
                        · refine x_iconstN (b := 2) rfl rfl ?_
                          refine x_goto rfl rfl ?_
                          refine x_istore rfl rfl rfl rfl ?_
                          refine x_iload rfl rfl rfl ?_
                          refine x_if_eq rfl rfl (fun hc106 => absurd hc106 (by decide +kernel)) (fun _ => ?_)
                          refine x_aload_n rfl rfl rfl ?_
                          refine x_lload_n rfl rfl rfl ?_
                          refine x_iload_n rfl rfl rfl ?_
                          refine x_iload rfl rfl rfl ?_
                          refine x_lload rfl rfl rfl ?_
                          refine x_lload rfl rfl rfl ?_
                          refine x_lload rfl rfl rfl ?_
                          exact absurd (by unfold cbm; simp_all) hb
                      · refine x_iconstN (b := 1) rfl rfl ?_
                        refine x_goto rfl rfl ?_
                        refine x_istore rfl rfl rfl rfl ?_
                        refine x_iload rfl rfl rfl ?_
                        refine x_if_eq rfl rfl (fun hc107 => absurd hc107 (by decide +kernel)) (fun _ => ?_)
                        refine x_aload_n rfl rfl rfl ?_
                        refine x_lload_n rfl rfl rfl ?_
                        refine x_iload_n rfl rfl rfl ?_
                        refine x_iload rfl rfl rfl ?_
                        refine x_lload rfl rfl rfl ?_
                        refine x_lload rfl rfl rfl ?_
                        refine x_lload rfl rfl rfl ?_
                        exact absurd (by unfold cbm; simp_all) hb
                    · refine x_iconstN (b := 0) rfl rfl ?_
                      refine x_goto rfl rfl ?_
                      refine x_istore rfl rfl rfl rfl ?_
                      refine x_iload rfl rfl rfl ?_
                      refine x_if_eq rfl rfl (fun hc108 => absurd hc108 (by decide +kernel)) (fun _ => ?_)
                      refine x_aload_n rfl rfl rfl ?_
                      refine x_lload_n rfl rfl rfl ?_
                      refine x_iload_n rfl rfl rfl ?_
                      refine x_iload rfl rfl rfl ?_
                      refine x_lload rfl rfl rfl ?_
                      refine x_lload rfl rfl rfl ?_
                      refine x_lload rfl rfl rfl ?_
                      exact absurd (by unfold cbm; simp_all) hb
              · refine x_lload rfl rfl rfl ?_
                refine x_lload rfl rfl rfl ?_
                refine x_lc_eq rfl rfl rfl rfl (fun hc109 => ?_) (fun hc109 => ?_)
                · refine x_iconstN (b := 0) rfl rfl ?_
                  refine x_istore rfl rfl rfl rfl ?_
                  refine x_lload rfl rfl rfl ?_
                  refine x_lconst (v := 0) rfl rfl (by decide +kernel) ?_
                  refine x_lc_ne rfl rfl rfl rfl (fun hc110 => ?_) (fun hc110 => ?_)
                  · refine x_lload rfl rfl rfl ?_
                    refine x_lconst (v := 0) rfl rfl (by decide +kernel) ?_
                    refine x_lc_ne rfl rfl rfl rfl (fun hc111 => ?_) (fun hc111 => ?_)
                    · refine x_lload rfl rfl rfl ?_
                      refine x_lconst (v := 0) rfl rfl (by decide +kernel) ?_
                      refine x_lc_ne rfl rfl rfl rfl (fun hc112 => ?_) (fun hc112 => ?_)
                      · refine x_iconstN (b := 3) rfl rfl ?_
                        refine x_istore rfl rfl rfl rfl ?_
                        refine x_iload rfl rfl rfl ?_
                        refine x_if_eq rfl rfl (fun _ => ?_) (fun hc113 => absurd hc113 (by decide +kernel))
                        refine x_iconst (v := -1) rfl rfl (by decide +kernel) ?_
                        refine x_istore rfl rfl rfl rfl ?_
                        refine x_aload_n rfl rfl rfl ?_
                        refine x_iload rfl rfl rfl ?_
                        refine x_if_ne rfl rfl (fun hc114 => absurd hc114 (by decide +kernel)) (fun _ => ?_)
                        refine x_iconstN (b := 1) rfl rfl ?_
                        refine x_goto rfl rfl ?_
                        refine x_putI rfl rfl f_9_97 rfl rfl (by decide) rfl ?_
                        refine x_aload_n rfl rfl rfl ?_
                        refine x_getIv (v := nI 1) (by first | rfl | simp [ui, ul]) rfl rfl f_9_97 rfl (by decide) rfl ?_
                        refine x_if_le rfl rfl (fun hc115 => absurd hc115 (by decide +kernel)) (fun _ => ?_)
                        refine x_iconstN (b := 0) rfl rfl ?_
                        exact x_retI rfl rfl rfl (by omega) rfl rfl
                      · refine x_iconstN (b := 2) rfl rfl ?_
                        refine x_goto rfl rfl ?_
                        refine x_istore rfl rfl rfl rfl ?_
                        refine x_iload rfl rfl rfl ?_
                        refine x_if_eq rfl rfl (fun _ => ?_) (fun hc116 => absurd hc116 (by decide +kernel))
                        refine x_iconst (v := -1) rfl rfl (by decide +kernel) ?_
                        refine x_istore rfl rfl rfl rfl ?_
                        refine x_aload_n rfl rfl rfl ?_
                        refine x_iload rfl rfl rfl ?_
                        refine x_if_ne rfl rfl (fun hc117 => absurd hc117 (by decide +kernel)) (fun _ => ?_)
                        refine x_iconstN (b := 1) rfl rfl ?_
                        refine x_goto rfl rfl ?_
                        refine x_putI rfl rfl f_9_97 rfl rfl (by decide) rfl ?_
                        refine x_aload_n rfl rfl rfl ?_
                        refine x_getIv (v := nI 1) (by first | rfl | simp [ui, ul]) rfl rfl f_9_97 rfl (by decide) rfl ?_
                        refine x_if_le rfl rfl (fun hc118 => absurd hc118 (by decide +kernel)) (fun _ => ?_)
                        refine x_iconstN (b := 0) rfl rfl ?_
                        exact x_retI rfl rfl rfl (by omega) rfl rfl
                    · refine x_iconstN (b := 1) rfl rfl ?_
                      refine x_goto rfl rfl ?_
                      refine x_istore rfl rfl rfl rfl ?_
                      refine x_iload rfl rfl rfl ?_
                      refine x_if_eq rfl rfl (fun _ => ?_) (fun hc119 => absurd hc119 (by decide +kernel))
                      refine x_iconst (v := -1) rfl rfl (by decide +kernel) ?_
                      refine x_istore rfl rfl rfl rfl ?_
                      refine x_aload_n rfl rfl rfl ?_
                      refine x_iload rfl rfl rfl ?_
                      refine x_if_ne rfl rfl (fun hc120 => absurd hc120 (by decide +kernel)) (fun _ => ?_)
                      refine x_iconstN (b := 1) rfl rfl ?_
                      refine x_goto rfl rfl ?_
                      refine x_putI rfl rfl f_9_97 rfl rfl (by decide) rfl ?_
                      refine x_aload_n rfl rfl rfl ?_
                      refine x_getIv (v := nI 1) (by first | rfl | simp [ui, ul]) rfl rfl f_9_97 rfl (by decide) rfl ?_
                      refine x_if_le rfl rfl (fun hc121 => absurd hc121 (by decide +kernel)) (fun _ => ?_)
                      refine x_iconstN (b := 0) rfl rfl ?_
                      exact x_retI rfl rfl rfl (by omega) rfl rfl
                  · refine x_iconstN (b := 0) rfl rfl ?_
                    refine x_goto rfl rfl ?_
                    refine x_istore rfl rfl rfl rfl ?_
                    refine x_iload rfl rfl rfl ?_
                    refine x_if_eq rfl rfl (fun _ => ?_) (fun hc122 => absurd hc122 (by decide +kernel))
                    refine x_iconst (v := -1) rfl rfl (by decide +kernel) ?_
                    refine x_istore rfl rfl rfl rfl ?_
                    refine x_aload_n rfl rfl rfl ?_
                    refine x_iload rfl rfl rfl ?_
                    refine x_if_ne rfl rfl (fun hc123 => absurd hc123 (by decide +kernel)) (fun _ => ?_)
                    refine x_iconstN (b := 1) rfl rfl ?_
                    refine x_goto rfl rfl ?_
                    refine x_putI rfl rfl f_9_97 rfl rfl (by decide) rfl ?_
                    refine x_aload_n rfl rfl rfl ?_
                    refine x_getIv (v := nI 1) (by first | rfl | simp [ui, ul]) rfl rfl f_9_97 rfl (by decide) rfl ?_
                    refine x_if_le rfl rfl (fun hc124 => absurd hc124 (by decide +kernel)) (fun _ => ?_)
                    refine x_iconstN (b := 0) rfl rfl ?_
                    exact x_retI rfl rfl rfl (by omega) rfl rfl
                · refine x_lload rfl rfl rfl ?_
                  refine x_lload rfl rfl rfl ?_
                  refine x_lc_eq rfl rfl rfl rfl (fun hc125 => ?_) (fun hc125 => ?_)
                  · refine x_iconstN (b := 0) rfl rfl ?_
                    refine x_istore rfl rfl rfl rfl ?_
                    refine x_lload rfl rfl rfl ?_
                    refine x_lconst (v := 0) rfl rfl (by decide +kernel) ?_
                    refine x_lc_ne rfl rfl rfl rfl (fun hc126 => ?_) (fun hc126 => ?_)
                    · refine x_lload rfl rfl rfl ?_
                      refine x_lconst (v := 0) rfl rfl (by decide +kernel) ?_
                      refine x_lc_ne rfl rfl rfl rfl (fun hc127 => ?_) (fun hc127 => ?_)
                      · refine x_lload rfl rfl rfl ?_
                        refine x_lconst (v := 0) rfl rfl (by decide +kernel) ?_
                        refine x_lc_ne rfl rfl rfl rfl (fun hc128 => ?_) (fun hc128 => ?_)
                        · refine x_iconstN (b := 3) rfl rfl ?_
                          refine x_istore rfl rfl rfl rfl ?_
                          refine x_iload rfl rfl rfl ?_
                          refine x_if_eq rfl rfl (fun _ => ?_) (fun hc129 => absurd hc129 (by decide +kernel))
                          refine x_iconst (v := -1) rfl rfl (by decide +kernel) ?_
                          refine x_istore rfl rfl rfl rfl ?_
                          refine x_aload_n rfl rfl rfl ?_
                          refine x_iload rfl rfl rfl ?_
                          refine x_if_ne rfl rfl (fun hc130 => absurd hc130 (by decide +kernel)) (fun _ => ?_)
                          refine x_iconstN (b := 1) rfl rfl ?_
                          refine x_goto rfl rfl ?_
                          refine x_putI rfl rfl f_9_97 rfl rfl (by decide) rfl ?_
                          refine x_aload_n rfl rfl rfl ?_
                          refine x_getIv (v := nI 1) (by first | rfl | simp [ui, ul]) rfl rfl f_9_97 rfl (by decide) rfl ?_
                          refine x_if_le rfl rfl (fun hc131 => absurd hc131 (by decide +kernel)) (fun _ => ?_)
                          refine x_iconstN (b := 0) rfl rfl ?_
                          exact x_retI rfl rfl rfl (by omega) rfl rfl
                        · refine x_iconstN (b := 2) rfl rfl ?_
                          refine x_goto rfl rfl ?_
                          refine x_istore rfl rfl rfl rfl ?_
                          refine x_iload rfl rfl rfl ?_
                          refine x_if_eq rfl rfl (fun _ => ?_) (fun hc132 => absurd hc132 (by decide +kernel))
                          refine x_iconst (v := -1) rfl rfl (by decide +kernel) ?_
                          refine x_istore rfl rfl rfl rfl ?_
                          refine x_aload_n rfl rfl rfl ?_
                          refine x_iload rfl rfl rfl ?_
                          refine x_if_ne rfl rfl (fun hc133 => absurd hc133 (by decide +kernel)) (fun _ => ?_)
                          refine x_iconstN (b := 1) rfl rfl ?_
                          refine x_goto rfl rfl ?_
                          refine x_putI rfl rfl f_9_97 rfl rfl (by decide) rfl ?_
                          refine x_aload_n rfl rfl rfl ?_
                          refine x_getIv (v := nI 1) (by first | rfl | simp [ui, ul]) rfl rfl f_9_97 rfl (by decide) rfl ?_
                          refine x_if_le rfl rfl (fun hc134 => absurd hc134 (by decide +kernel)) (fun _ => ?_)
                          refine x_iconstN (b := 0) rfl rfl ?_
                          exact x_retI rfl rfl rfl (by omega) rfl rfl
                      · refine x_iconstN (b := 1) rfl rfl ?_
                        refine x_goto rfl rfl ?_
                        refine x_istore rfl rfl rfl rfl ?_
                        refine x_iload rfl rfl rfl ?_
                        refine x_if_eq rfl rfl (fun _ => ?_) (fun hc135 => absurd hc135 (by decide +kernel))
                        refine x_iconst (v := -1) rfl rfl (by decide +kernel) ?_
                        refine x_istore rfl rfl rfl rfl ?_
                        refine x_aload_n rfl rfl rfl ?_
                        refine x_iload rfl rfl rfl ?_
                        refine x_if_ne rfl rfl (fun hc136 => absurd hc136 (by decide +kernel)) (fun _ => ?_)
                        refine x_iconstN (b := 1) rfl rfl ?_
                        refine x_goto rfl rfl ?_
                        refine x_putI rfl rfl f_9_97 rfl rfl (by decide) rfl ?_
                        refine x_aload_n rfl rfl rfl ?_
                        refine x_getIv (v := nI 1) (by first | rfl | simp [ui, ul]) rfl rfl f_9_97 rfl (by decide) rfl ?_
                        refine x_if_le rfl rfl (fun hc137 => absurd hc137 (by decide +kernel)) (fun _ => ?_)
                        refine x_iconstN (b := 0) rfl rfl ?_
                        exact x_retI rfl rfl rfl (by omega) rfl rfl
                    · refine x_iconstN (b := 0) rfl rfl ?_
                      refine x_goto rfl rfl ?_
                      refine x_istore rfl rfl rfl rfl ?_
                      refine x_iload rfl rfl rfl ?_
                      refine x_if_eq rfl rfl (fun _ => ?_) (fun hc138 => absurd hc138 (by decide +kernel))
                      refine x_iconst (v := -1) rfl rfl (by decide +kernel) ?_
                      refine x_istore rfl rfl rfl rfl ?_
                      refine x_aload_n rfl rfl rfl ?_
                      refine x_iload rfl rfl rfl ?_
                      refine x_if_ne rfl rfl (fun hc139 => absurd hc139 (by decide +kernel)) (fun _ => ?_)
                      refine x_iconstN (b := 1) rfl rfl ?_
                      refine x_goto rfl rfl ?_
                      refine x_putI rfl rfl f_9_97 rfl rfl (by decide) rfl ?_
                      refine x_aload_n rfl rfl rfl ?_
                      refine x_getIv (v := nI 1) (by first | rfl | simp [ui, ul]) rfl rfl f_9_97 rfl (by decide) rfl ?_
                      refine x_if_le rfl rfl (fun hc140 => absurd hc140 (by decide +kernel)) (fun _ => ?_)
                      refine x_iconstN (b := 0) rfl rfl ?_
                      exact x_retI rfl rfl rfl (by omega) rfl rfl
                  · refine x_lload rfl rfl rfl ?_
                    refine x_lconst (v := 0) rfl rfl (by decide +kernel) ?_
                    refine x_lc_eq rfl rfl rfl rfl (fun hc141 => ?_) (fun hc141 => ?_)
                    · refine x_iconstN (b := 1) rfl rfl ?_
                      refine x_goto rfl rfl ?_
                      refine x_istore rfl rfl rfl rfl ?_
                      refine x_lload rfl rfl rfl ?_
                      refine x_lconst (v := 0) rfl rfl (by decide +kernel) ?_
                      refine x_lc_ne rfl rfl rfl rfl (fun hc142 => ?_) (fun hc142 => ?_)
                      · refine x_lload rfl rfl rfl ?_
                        refine x_lconst (v := 0) rfl rfl (by decide +kernel) ?_
                        refine x_lc_ne rfl rfl rfl rfl (fun hc143 => ?_) (fun hc143 => ?_)
                        · refine x_lload rfl rfl rfl ?_
                          refine x_lconst (v := 0) rfl rfl (by decide +kernel) ?_
                          refine x_lc_ne rfl rfl rfl rfl (fun hc144 => ?_) (fun hc144 => ?_)
                          · refine x_iconstN (b := 3) rfl rfl ?_
                            refine x_istore rfl rfl rfl rfl ?_
                            refine x_iload rfl rfl rfl ?_
                            refine x_if_eq rfl rfl (fun hc145 => absurd hc145 (by decide +kernel)) (fun _ => ?_)
                            refine x_aload_n rfl rfl rfl ?_
                            refine x_lload_n rfl rfl rfl ?_
                            refine x_iload_n rfl rfl rfl ?_
                            refine x_iload rfl rfl rfl ?_
                            refine x_lload rfl rfl rfl ?_
                            refine x_lload rfl rfl rfl ?_
                            refine x_lload rfl rfl rfl ?_
                            exact absurd (by unfold cbm; simp_all) hb
                          · refine x_iconstN (b := 2) rfl rfl ?_
                            refine x_goto rfl rfl ?_
                            refine x_istore rfl rfl rfl rfl ?_
                            refine x_iload rfl rfl rfl ?_
                            refine x_if_eq rfl rfl (fun hc146 => absurd hc146 (by decide +kernel)) (fun _ => ?_)
                            refine x_aload_n rfl rfl rfl ?_
                            refine x_lload_n rfl rfl rfl ?_
                            refine x_iload_n rfl rfl rfl ?_
                            refine x_iload rfl rfl rfl ?_
                            refine x_lload rfl rfl rfl ?_
                            refine x_lload rfl rfl rfl ?_
                            refine x_lload rfl rfl rfl ?_
                            exact absurd (by unfold cbm; simp_all) hb
                        · refine x_iconstN (b := 1) rfl rfl ?_
                          refine x_goto rfl rfl ?_
                          refine x_istore rfl rfl rfl rfl ?_
                          refine x_iload rfl rfl rfl ?_
                          refine x_if_eq rfl rfl (fun hc147 => absurd hc147 (by decide +kernel)) (fun _ => ?_)
                          refine x_aload_n rfl rfl rfl ?_
                          refine x_lload_n rfl rfl rfl ?_
                          refine x_iload_n rfl rfl rfl ?_
                          refine x_iload rfl rfl rfl ?_
                          refine x_lload rfl rfl rfl ?_
                          refine x_lload rfl rfl rfl ?_
                          refine x_lload rfl rfl rfl ?_
                          exact absurd (by unfold cbm; simp_all) hb
                      · refine x_iconstN (b := 0) rfl rfl ?_
                        refine x_goto rfl rfl ?_
                        refine x_istore rfl rfl rfl rfl ?_
                        refine x_iload rfl rfl rfl ?_
                        refine x_if_eq rfl rfl (fun hc148 => absurd hc148 (by decide +kernel)) (fun _ => ?_)
                        refine x_aload_n rfl rfl rfl ?_
                        refine x_lload_n rfl rfl rfl ?_
                        refine x_iload_n rfl rfl rfl ?_
                        refine x_iload rfl rfl rfl ?_
                        refine x_lload rfl rfl rfl ?_
                        refine x_lload rfl rfl rfl ?_
                        refine x_lload rfl rfl rfl ?_
                        exact absurd (by unfold cbm; simp_all) hb
                    · refine x_lload rfl rfl rfl ?_
                      refine x_lload rfl rfl rfl ?_
                      refine x_lc_eq rfl rfl rfl rfl (fun hc149 => ?_) (fun hc149 => ?_)
                      · refine x_iconstN (b := 0) rfl rfl ?_
                        refine x_istore rfl rfl rfl rfl ?_
                        refine x_lload rfl rfl rfl ?_
                        refine x_lconst (v := 0) rfl rfl (by decide +kernel) ?_
                        refine x_lc_ne rfl rfl rfl rfl (fun hc150 => ?_) (fun hc150 => ?_)
                        · refine x_lload rfl rfl rfl ?_
                          refine x_lconst (v := 0) rfl rfl (by decide +kernel) ?_
                          refine x_lc_ne rfl rfl rfl rfl (fun hc151 => ?_) (fun hc151 => ?_)
                          · refine x_lload rfl rfl rfl ?_
                            refine x_lconst (v := 0) rfl rfl (by decide +kernel) ?_
                            refine x_lc_ne rfl rfl rfl rfl (fun hc152 => ?_) (fun hc152 => ?_)
                            · refine x_iconstN (b := 3) rfl rfl ?_
                              refine x_istore rfl rfl rfl rfl ?_
                              refine x_iload rfl rfl rfl ?_
                              refine x_if_eq rfl rfl (fun _ => ?_) (fun hc153 => absurd hc153 (by decide +kernel))
                              refine x_iconst (v := -1) rfl rfl (by decide +kernel) ?_
                              refine x_istore rfl rfl rfl rfl ?_
                              refine x_aload_n rfl rfl rfl ?_
                              refine x_iload rfl rfl rfl ?_
                              refine x_if_ne rfl rfl (fun hc154 => absurd hc154 (by decide +kernel)) (fun _ => ?_)
                              refine x_iconstN (b := 1) rfl rfl ?_
                              refine x_goto rfl rfl ?_
                              refine x_putI rfl rfl f_9_97 rfl rfl (by decide) rfl ?_
                              refine x_aload_n rfl rfl rfl ?_
                              refine x_getIv (v := nI 1) (by first | rfl | simp [ui, ul]) rfl rfl f_9_97 rfl (by decide) rfl ?_
                              refine x_if_le rfl rfl (fun hc155 => absurd hc155 (by decide +kernel)) (fun _ => ?_)
                              refine x_iconstN (b := 0) rfl rfl ?_
                              exact x_retI rfl rfl rfl (by omega) rfl rfl
                            · refine x_iconstN (b := 2) rfl rfl ?_
                              refine x_goto rfl rfl ?_
                              refine x_istore rfl rfl rfl rfl ?_
                              refine x_iload rfl rfl rfl ?_
                              refine x_if_eq rfl rfl (fun _ => ?_) (fun hc156 => absurd hc156 (by decide +kernel))
                              refine x_iconst (v := -1) rfl rfl (by decide +kernel) ?_
                              refine x_istore rfl rfl rfl rfl ?_
                              refine x_aload_n rfl rfl rfl ?_
                              refine x_iload rfl rfl rfl ?_
                              refine x_if_ne rfl rfl (fun hc157 => absurd hc157 (by decide +kernel)) (fun _ => ?_)
                              refine x_iconstN (b := 1) rfl rfl ?_
                              refine x_goto rfl rfl ?_
                              refine x_putI rfl rfl f_9_97 rfl rfl (by decide) rfl ?_
                              refine x_aload_n rfl rfl rfl ?_
                              refine x_getIv (v := nI 1) (by first | rfl | simp [ui, ul]) rfl rfl f_9_97 rfl (by decide) rfl ?_
                              refine x_if_le rfl rfl (fun hc158 => absurd hc158 (by decide +kernel)) (fun _ => ?_)
                              refine x_iconstN (b := 0) rfl rfl ?_
                              exact x_retI rfl rfl rfl (by omega) rfl rfl
                          · refine x_iconstN (b := 1) rfl rfl ?_
                            refine x_goto rfl rfl ?_
                            refine x_istore rfl rfl rfl rfl ?_
                            refine x_iload rfl rfl rfl ?_
                            refine x_if_eq rfl rfl (fun _ => ?_) (fun hc159 => absurd hc159 (by decide +kernel))
                            refine x_iconst (v := -1) rfl rfl (by decide +kernel) ?_
                            refine x_istore rfl rfl rfl rfl ?_
                            refine x_aload_n rfl rfl rfl ?_
                            refine x_iload rfl rfl rfl ?_
                            refine x_if_ne rfl rfl (fun hc160 => absurd hc160 (by decide +kernel)) (fun _ => ?_)
                            refine x_iconstN (b := 1) rfl rfl ?_
                            refine x_goto rfl rfl ?_
                            refine x_putI rfl rfl f_9_97 rfl rfl (by decide) rfl ?_
                            refine x_aload_n rfl rfl rfl ?_
                            refine x_getIv (v := nI 1) (by first | rfl | simp [ui, ul]) rfl rfl f_9_97 rfl (by decide) rfl ?_
                            refine x_if_le rfl rfl (fun hc161 => absurd hc161 (by decide +kernel)) (fun _ => ?_)
                            refine x_iconstN (b := 0) rfl rfl ?_
                            exact x_retI rfl rfl rfl (by omega) rfl rfl
                        · refine x_iconstN (b := 0) rfl rfl ?_
                          refine x_goto rfl rfl ?_
                          refine x_istore rfl rfl rfl rfl ?_
                          refine x_iload rfl rfl rfl ?_
                          refine x_if_eq rfl rfl (fun _ => ?_) (fun hc162 => absurd hc162 (by decide +kernel))
                          refine x_iconst (v := -1) rfl rfl (by decide +kernel) ?_
                          refine x_istore rfl rfl rfl rfl ?_
                          refine x_aload_n rfl rfl rfl ?_
                          refine x_iload rfl rfl rfl ?_
                          refine x_if_ne rfl rfl (fun hc163 => absurd hc163 (by decide +kernel)) (fun _ => ?_)
                          refine x_iconstN (b := 1) rfl rfl ?_
                          refine x_goto rfl rfl ?_
                          refine x_putI rfl rfl f_9_97 rfl rfl (by decide) rfl ?_
                          refine x_aload_n rfl rfl rfl ?_
                          refine x_getIv (v := nI 1) (by first | rfl | simp [ui, ul]) rfl rfl f_9_97 rfl (by decide) rfl ?_
                          refine x_if_le rfl rfl (fun hc164 => absurd hc164 (by decide +kernel)) (fun _ => ?_)
                          refine x_iconstN (b := 0) rfl rfl ?_
                          exact x_retI rfl rfl rfl (by omega) rfl rfl
                      · refine x_iconstN (b := 1) rfl rfl ?_
                        refine x_goto rfl rfl ?_
                        refine x_istore rfl rfl rfl rfl ?_
                        refine x_lload rfl rfl rfl ?_
                        refine x_lconst (v := 0) rfl rfl (by decide +kernel) ?_
                        refine x_lc_ne rfl rfl rfl rfl (fun hc165 => ?_) (fun hc165 => ?_)
                        · refine x_lload rfl rfl rfl ?_
                          refine x_lconst (v := 0) rfl rfl (by decide +kernel) ?_
                          refine x_lc_ne rfl rfl rfl rfl (fun hc166 => ?_) (fun hc166 => ?_)
                          · refine x_lload rfl rfl rfl ?_
                            refine x_lconst (v := 0) rfl rfl (by decide +kernel) ?_
                            refine x_lc_ne rfl rfl rfl rfl (fun hc167 => ?_) (fun hc167 => ?_)
                            · refine x_iconstN (b := 3) rfl rfl ?_
                              refine x_istore rfl rfl rfl rfl ?_
                              refine x_iload rfl rfl rfl ?_
                              refine x_if_eq rfl rfl (fun hc168 => absurd hc168 (by decide +kernel)) (fun _ => ?_)
                              refine x_aload_n rfl rfl rfl ?_
                              refine x_lload_n rfl rfl rfl ?_
                              refine x_iload_n rfl rfl rfl ?_
                              refine x_iload rfl rfl rfl ?_
                              refine x_lload rfl rfl rfl ?_
                              refine x_lload rfl rfl rfl ?_
                              refine x_lload rfl rfl rfl ?_
                              exact absurd (by unfold cbm; simp_all) hb
                            · refine x_iconstN (b := 2) rfl rfl ?_
                              refine x_goto rfl rfl ?_
                              refine x_istore rfl rfl rfl rfl ?_
                              refine x_iload rfl rfl rfl ?_
                              refine x_if_eq rfl rfl (fun hc169 => absurd hc169 (by decide +kernel)) (fun _ => ?_)
                              refine x_aload_n rfl rfl rfl ?_
                              refine x_lload_n rfl rfl rfl ?_
                              refine x_iload_n rfl rfl rfl ?_
                              refine x_iload rfl rfl rfl ?_
                              refine x_lload rfl rfl rfl ?_
                              refine x_lload rfl rfl rfl ?_
                              refine x_lload rfl rfl rfl ?_
                              exact absurd (by unfold cbm; simp_all) hb
                          · refine x_iconstN (b := 1) rfl rfl ?_
                            refine x_goto rfl rfl ?_
                            refine x_istore rfl rfl rfl rfl ?_
                            refine x_iload rfl rfl rfl ?_
                            refine x_if_eq rfl rfl (fun hc170 => absurd hc170 (by decide +kernel)) (fun _ => ?_)
                            refine x_aload_n rfl rfl rfl ?_
                            refine x_lload_n rfl rfl rfl ?_
                            refine x_iload_n rfl rfl rfl ?_
                            refine x_iload rfl rfl rfl ?_
                            refine x_lload rfl rfl rfl ?_
                            refine x_lload rfl rfl rfl ?_
                            refine x_lload rfl rfl rfl ?_
                            exact absurd (by unfold cbm; simp_all) hb
                        · refine x_iconstN (b := 0) rfl rfl ?_
                          refine x_goto rfl rfl ?_
                          refine x_istore rfl rfl rfl rfl ?_
                          refine x_iload rfl rfl rfl ?_
                          refine x_if_eq rfl rfl (fun hc171 => absurd hc171 (by decide +kernel)) (fun _ => ?_)
                          refine x_aload_n rfl rfl rfl ?_
                          refine x_lload_n rfl rfl rfl ?_
                          refine x_iload_n rfl rfl rfl ?_
                          refine x_iload rfl rfl rfl ?_
                          refine x_lload rfl rfl rfl ?_
                          refine x_lload rfl rfl rfl ?_
                          refine x_lload rfl rfl rfl ?_
                          exact absurd (by unfold cbm; simp_all) hb
            · refine x_lload rfl rfl rfl ?_
              refine x_lconst (v := 0) rfl rfl (by decide +kernel) ?_
              refine x_lc_ne rfl rfl rfl rfl (fun hc172 => ?_) (fun hc172 => ?_)
              · refine x_iconstN (b := 0) rfl rfl ?_
                refine x_istore rfl rfl rfl rfl ?_
                refine x_iload rfl rfl rfl ?_
                refine x_if_eq rfl rfl (fun _ => ?_) (fun hc173 => absurd hc173 (by decide +kernel))
                refine x_iconstN (b := 0) rfl rfl ?_
                refine x_istore rfl rfl rfl rfl ?_
                refine x_lload rfl rfl rfl ?_
                refine x_lconst (v := 0) rfl rfl (by decide +kernel) ?_
                refine x_lc_ne rfl rfl rfl rfl (fun hc174 => ?_) (fun hc174 => ?_)
                · refine x_lload rfl rfl rfl ?_
                  refine x_lconst (v := 0) rfl rfl (by decide +kernel) ?_
                  refine x_lc_ne rfl rfl rfl rfl (fun hc175 => ?_) (fun hc175 => ?_)
                  · refine x_lload rfl rfl rfl ?_
                    refine x_lconst (v := 0) rfl rfl (by decide +kernel) ?_
                    refine x_lc_ne rfl rfl rfl rfl (fun hc176 => ?_) (fun hc176 => ?_)
                    · refine x_iconstN (b := 3) rfl rfl ?_
                      refine x_istore rfl rfl rfl rfl ?_
                      refine x_iload rfl rfl rfl ?_
                      refine x_if_eq rfl rfl (fun _ => ?_) (fun hc177 => absurd hc177 (by decide +kernel))
                      refine x_iconst (v := -1) rfl rfl (by decide +kernel) ?_
                      refine x_istore rfl rfl rfl rfl ?_
                      refine x_aload_n rfl rfl rfl ?_
                      refine x_iload rfl rfl rfl ?_
                      refine x_if_ne rfl rfl (fun hc178 => absurd hc178 (by decide +kernel)) (fun _ => ?_)
                      refine x_iconstN (b := 1) rfl rfl ?_
                      refine x_goto rfl rfl ?_
                      refine x_putI rfl rfl f_9_97 rfl rfl (by decide) rfl ?_
                      refine x_aload_n rfl rfl rfl ?_
                      refine x_getIv (v := nI 1) (by first | rfl | simp [ui, ul]) rfl rfl f_9_97 rfl (by decide) rfl ?_
                      refine x_if_le rfl rfl (fun hc179 => absurd hc179 (by decide +kernel)) (fun _ => ?_)
                      refine x_iconstN (b := 0) rfl rfl ?_
                      exact x_retI rfl rfl rfl (by omega) rfl rfl
                    · refine x_iconstN (b := 2) rfl rfl ?_
                      refine x_goto rfl rfl ?_
                      refine x_istore rfl rfl rfl rfl ?_
                      refine x_iload rfl rfl rfl ?_
                      refine x_if_eq rfl rfl (fun _ => ?_) (fun hc180 => absurd hc180 (by decide +kernel))
                      refine x_iconst (v := -1) rfl rfl (by decide +kernel) ?_
                      refine x_istore rfl rfl rfl rfl ?_
                      refine x_aload_n rfl rfl rfl ?_
                      refine x_iload rfl rfl rfl ?_
                      refine x_if_ne rfl rfl (fun hc181 => absurd hc181 (by decide +kernel)) (fun _ => ?_)
                      refine x_iconstN (b := 1) rfl rfl ?_
                      refine x_goto rfl rfl ?_
                      refine x_putI rfl rfl f_9_97 rfl rfl (by decide) rfl ?_
                      refine x_aload_n rfl rfl rfl ?_
                      refine x_getIv (v := nI 1) (by first | rfl | simp [ui, ul]) rfl rfl f_9_97 rfl (by decide) rfl ?_
                      refine x_if_le rfl rfl (fun hc182 => absurd hc182 (by decide +kernel)) (fun _ => ?_)
                      refine x_iconstN (b := 0) rfl rfl ?_
                      exact x_retI rfl rfl rfl (by omega) rfl rfl
                  · refine x_iconstN (b := 1) rfl rfl ?_
                    refine x_goto rfl rfl ?_
                    refine x_istore rfl rfl rfl rfl ?_
                    refine x_iload rfl rfl rfl ?_
                    refine x_if_eq rfl rfl (fun _ => ?_) (fun hc183 => absurd hc183 (by decide +kernel))
                    refine x_iconst (v := -1) rfl rfl (by decide +kernel) ?_
                    refine x_istore rfl rfl rfl rfl ?_
                    refine x_aload_n rfl rfl rfl ?_
                    refine x_iload rfl rfl rfl ?_
                    refine x_if_ne rfl rfl (fun hc184 => absurd hc184 (by decide +kernel)) (fun _ => ?_)
                    refine x_iconstN (b := 1) rfl rfl ?_
                    refine x_goto rfl rfl ?_
                    refine x_putI rfl rfl f_9_97 rfl rfl (by decide) rfl ?_
                    refine x_aload_n rfl rfl rfl ?_
                    refine x_getIv (v := nI 1) (by first | rfl | simp [ui, ul]) rfl rfl f_9_97 rfl (by decide) rfl ?_
                    refine x_if_le rfl rfl (fun hc185 => absurd hc185 (by decide +kernel)) (fun _ => ?_)
                    refine x_iconstN (b := 0) rfl rfl ?_
                    exact x_retI rfl rfl rfl (by omega) rfl rfl
                · refine x_iconstN (b := 0) rfl rfl ?_
                  refine x_goto rfl rfl ?_
                  refine x_istore rfl rfl rfl rfl ?_
                  refine x_iload rfl rfl rfl ?_
                  refine x_if_eq rfl rfl (fun _ => ?_) (fun hc186 => absurd hc186 (by decide +kernel))
                  refine x_iconst (v := -1) rfl rfl (by decide +kernel) ?_
                  refine x_istore rfl rfl rfl rfl ?_
                  refine x_aload_n rfl rfl rfl ?_
                  refine x_iload rfl rfl rfl ?_
                  refine x_if_ne rfl rfl (fun hc187 => absurd hc187 (by decide +kernel)) (fun _ => ?_)
                  refine x_iconstN (b := 1) rfl rfl ?_
                  refine x_goto rfl rfl ?_
                  refine x_putI rfl rfl f_9_97 rfl rfl (by decide) rfl ?_
                  refine x_aload_n rfl rfl rfl ?_
                  refine x_getIv (v := nI 1) (by first | rfl | simp [ui, ul]) rfl rfl f_9_97 rfl (by decide) rfl ?_
                  refine x_if_le rfl rfl (fun hc188 => absurd hc188 (by decide +kernel)) (fun _ => ?_)
                  refine x_iconstN (b := 0) rfl rfl ?_
                  exact x_retI rfl rfl rfl (by omega) rfl rfl
              · refine x_iconstN (b := 1) rfl rfl ?_
                refine x_goto rfl rfl ?_
                refine x_istore rfl rfl rfl rfl ?_
                refine x_iload rfl rfl rfl ?_
                refine x_if_eq rfl rfl (fun hc189 => absurd hc189 (by decide +kernel)) (fun _ => ?_)
                refine x_lload rfl rfl rfl ?_
                refine x_lconst (v := 0) rfl rfl (by decide +kernel) ?_
                refine x_lc_eq rfl rfl rfl rfl (fun hc190 => ?_) (fun hc190 => ?_)
                · refine x_lload rfl rfl rfl ?_
                  refine x_lconst (v := 0) rfl rfl (by decide +kernel) ?_
                  refine x_lc_eq rfl rfl rfl rfl (fun hc191 => ?_) (fun hc191 => ?_)
                  · refine x_iconstN (b := 1) rfl rfl ?_
                    refine x_goto rfl rfl ?_
                    refine x_istore rfl rfl rfl rfl ?_
                    refine x_lload rfl rfl rfl ?_
                    refine x_lconst (v := 0) rfl rfl (by decide +kernel) ?_
                    refine x_lc_ne rfl rfl rfl rfl (fun hc192 => ?_) (fun hc192 => ?_)
                    · refine x_lload rfl rfl rfl ?_
                      refine x_lconst (v := 0) rfl rfl (by decide +kernel) ?_
                      refine x_lc_ne rfl rfl rfl rfl (fun hc193 => ?_) (fun hc193 => ?_)
                      · refine x_lload rfl rfl rfl ?_
                        refine x_lconst (v := 0) rfl rfl (by decide +kernel) ?_
                        refine x_lc_ne rfl rfl rfl rfl (fun hc194 => ?_) (fun hc194 => ?_)
                        · refine x_iconstN (b := 3) rfl rfl ?_
                          refine x_istore rfl rfl rfl rfl ?_
                          refine x_iload rfl rfl rfl ?_
                          refine x_if_eq rfl rfl (fun hc195 => absurd hc195 (by decide +kernel)) (fun _ => ?_)
                          refine x_aload_n rfl rfl rfl ?_
                          refine x_lload_n rfl rfl rfl ?_
                          refine x_iload_n rfl rfl rfl ?_
                          refine x_iload rfl rfl rfl ?_
                          refine x_lload rfl rfl rfl ?_
                          refine x_lload rfl rfl rfl ?_
                          refine x_lload rfl rfl rfl ?_
                          exact absurd (by unfold cbm; simp_all) hb
                        · refine x_iconstN (b := 2) rfl rfl ?_
                          refine x_goto rfl rfl ?_
                          refine x_istore rfl rfl rfl rfl ?_
                          refine x_iload rfl rfl rfl ?_
                          refine x_if_eq rfl rfl (fun hc196 => absurd hc196 (by decide +kernel)) (fun _ => ?_)
                          refine x_aload_n rfl rfl rfl ?_
                          refine x_lload_n rfl rfl rfl ?_
                          refine x_iload_n rfl rfl rfl ?_
                          refine x_iload rfl rfl rfl ?_
                          refine x_lload rfl rfl rfl ?_
                          refine x_lload rfl rfl rfl ?_
                          refine x_lload rfl rfl rfl ?_
                          exact absurd (by unfold cbm; simp_all) hb
                      · refine x_iconstN (b := 1) rfl rfl ?_
                        refine x_goto rfl rfl ?_
                        refine x_istore rfl rfl rfl rfl ?_
                        refine x_iload rfl rfl rfl ?_
                        refine x_if_eq rfl rfl (fun hc197 => absurd hc197 (by decide +kernel)) (fun _ => ?_)
                        refine x_aload_n rfl rfl rfl ?_
                        refine x_lload_n rfl rfl rfl ?_
                        refine x_iload_n rfl rfl rfl ?_
                        refine x_iload rfl rfl rfl ?_
                        refine x_lload rfl rfl rfl ?_
                        refine x_lload rfl rfl rfl ?_
                        refine x_lload rfl rfl rfl ?_
                        exact absurd (by unfold cbm; simp_all) hb
                    · refine x_iconstN (b := 0) rfl rfl ?_
                      refine x_goto rfl rfl ?_
                      refine x_istore rfl rfl rfl rfl ?_
                      refine x_iload rfl rfl rfl ?_
                      refine x_if_eq rfl rfl (fun hc198 => absurd hc198 (by decide +kernel)) (fun _ => ?_)
                      refine x_aload_n rfl rfl rfl ?_
                      refine x_lload_n rfl rfl rfl ?_
                      refine x_iload_n rfl rfl rfl ?_
                      refine x_iload rfl rfl rfl ?_
                      refine x_lload rfl rfl rfl ?_
                      refine x_lload rfl rfl rfl ?_
                      refine x_lload rfl rfl rfl ?_
                      exact absurd (by unfold cbm; simp_all) hb
                  · refine x_lload rfl rfl rfl ?_
                    refine x_lload rfl rfl rfl ?_
                    refine x_lc_eq rfl rfl rfl rfl (fun hc199 => ?_) (fun hc199 => ?_)
                    · refine x_iconstN (b := 0) rfl rfl ?_
                      refine x_istore rfl rfl rfl rfl ?_
                      refine x_lload rfl rfl rfl ?_
                      refine x_lconst (v := 0) rfl rfl (by decide +kernel) ?_
                      refine x_lc_ne rfl rfl rfl rfl (fun hc200 => ?_) (fun hc200 => ?_)
                      · refine x_lload rfl rfl rfl ?_
                        refine x_lconst (v := 0) rfl rfl (by decide +kernel) ?_
                        refine x_lc_ne rfl rfl rfl rfl (fun hc201 => ?_) (fun hc201 => ?_)
                        · refine x_lload rfl rfl rfl ?_
                          refine x_lconst (v := 0) rfl rfl (by decide +kernel) ?_
                          refine x_lc_ne rfl rfl rfl rfl (fun hc202 => ?_) (fun hc202 => ?_)
                          · refine x_iconstN (b := 3) rfl rfl ?_
                            refine x_istore rfl rfl rfl rfl ?_
                            refine x_iload rfl rfl rfl ?_
                            refine x_if_eq rfl rfl (fun _ => ?_) (fun hc203 => absurd hc203 (by decide +kernel))
                            refine x_iconst (v := -1) rfl rfl (by decide +kernel) ?_
                            refine x_istore rfl rfl rfl rfl ?_
                            refine x_aload_n rfl rfl rfl ?_
                            refine x_iload rfl rfl rfl ?_
                            refine x_if_ne rfl rfl (fun hc204 => absurd hc204 (by decide +kernel)) (fun _ => ?_)
                            refine x_iconstN (b := 1) rfl rfl ?_
                            refine x_goto rfl rfl ?_
                            refine x_putI rfl rfl f_9_97 rfl rfl (by decide) rfl ?_
                            refine x_aload_n rfl rfl rfl ?_
                            refine x_getIv (v := nI 1) (by first | rfl | simp [ui, ul]) rfl rfl f_9_97 rfl (by decide) rfl ?_
                            refine x_if_le rfl rfl (fun hc205 => absurd hc205 (by decide +kernel)) (fun _ => ?_)
                            refine x_iconstN (b := 0) rfl rfl ?_
                            exact x_retI rfl rfl rfl (by omega) rfl rfl
                          · refine x_iconstN (b := 2) rfl rfl ?_
                            refine x_goto rfl rfl ?_
                            refine x_istore rfl rfl rfl rfl ?_
                            refine x_iload rfl rfl rfl ?_
                            refine x_if_eq rfl rfl (fun _ => ?_) (fun hc206 => absurd hc206 (by decide +kernel))
                            refine x_iconst (v := -1) rfl rfl (by decide +kernel) ?_
                            refine x_istore rfl rfl rfl rfl ?_
                            refine x_aload_n rfl rfl rfl ?_
                            refine x_iload rfl rfl rfl ?_
                            refine x_if_ne rfl rfl (fun hc207 => absurd hc207 (by decide +kernel)) (fun _ => ?_)
                            refine x_iconstN (b := 1) rfl rfl ?_
                            refine x_goto rfl rfl ?_
                            refine x_putI rfl rfl f_9_97 rfl rfl (by decide) rfl ?_
                            refine x_aload_n rfl rfl rfl ?_
                            refine x_getIv (v := nI 1) (by first | rfl | simp [ui, ul]) rfl rfl f_9_97 rfl (by decide) rfl ?_
                            refine x_if_le rfl rfl (fun hc208 => absurd hc208 (by decide +kernel)) (fun _ => ?_)
                            refine x_iconstN (b := 0) rfl rfl ?_
                            exact x_retI rfl rfl rfl (by omega) rfl rfl
                        · refine x_iconstN (b := 1) rfl rfl ?_
                          refine x_goto rfl rfl ?_
                          refine x_istore rfl rfl rfl rfl ?_
                          refine x_iload rfl rfl rfl ?_
                          refine x_if_eq rfl rfl (fun _ => ?_) (fun hc209 => absurd hc209 (by decide +kernel))
                          refine x_iconst (v := -1) rfl rfl (by decide +kernel) ?_
                          refine x_istore rfl rfl rfl rfl ?_
                          refine x_aload_n rfl rfl rfl ?_
                          refine x_iload rfl rfl rfl ?_
                          refine x_if_ne rfl rfl (fun hc210 => absurd hc210 (by decide +kernel)) (fun _ => ?_)
                          refine x_iconstN (b := 1) rfl rfl ?_
                          refine x_goto rfl rfl ?_
                          refine x_putI rfl rfl f_9_97 rfl rfl (by decide) rfl ?_
                          refine x_aload_n rfl rfl rfl ?_
                          refine x_getIv (v := nI 1) (by first | rfl | simp [ui, ul]) rfl rfl f_9_97 rfl (by decide) rfl ?_
                          refine x_if_le rfl rfl (fun hc211 => absurd hc211 (by decide +kernel)) (fun _ => ?_)
                          refine x_iconstN (b := 0) rfl rfl ?_
                          exact x_retI rfl rfl rfl (by omega) rfl rfl
                      · refine x_iconstN (b := 0) rfl rfl ?_
                        refine x_goto rfl rfl ?_
                        refine x_istore rfl rfl rfl rfl ?_
                        refine x_iload rfl rfl rfl ?_
                        refine x_if_eq rfl rfl (fun _ => ?_) (fun hc212 => absurd hc212 (by decide +kernel))
                        refine x_iconst (v := -1) rfl rfl (by decide +kernel) ?_
                        refine x_istore rfl rfl rfl rfl ?_
                        refine x_aload_n rfl rfl rfl ?_
                        refine x_iload rfl rfl rfl ?_
                        refine x_if_ne rfl rfl (fun hc213 => absurd hc213 (by decide +kernel)) (fun _ => ?_)
                        refine x_iconstN (b := 1) rfl rfl ?_
                        refine x_goto rfl rfl ?_
                        refine x_putI rfl rfl f_9_97 rfl rfl (by decide) rfl ?_
                        refine x_aload_n rfl rfl rfl ?_
                        refine x_getIv (v := nI 1) (by first | rfl | simp [ui, ul]) rfl rfl f_9_97 rfl (by decide) rfl ?_
                        refine x_if_le rfl rfl (fun hc214 => absurd hc214 (by decide +kernel)) (fun _ => ?_)
                        refine x_iconstN (b := 0) rfl rfl ?_
                        exact x_retI rfl rfl rfl (by omega) rfl rfl
                    · refine x_iconstN (b := 1) rfl rfl ?_
                      refine x_goto rfl rfl ?_
                      refine x_istore rfl rfl rfl rfl ?_
                      refine x_lload rfl rfl rfl ?_
                      refine x_lconst (v := 0) rfl rfl (by decide +kernel) ?_
                      refine x_lc_ne rfl rfl rfl rfl (fun hc215 => ?_) (fun hc215 => ?_)
                      · refine x_lload rfl rfl rfl ?_
                        refine x_lconst (v := 0) rfl rfl (by decide +kernel) ?_
                        refine x_lc_ne rfl rfl rfl rfl (fun hc216 => ?_) (fun hc216 => ?_)
                        · refine x_lload rfl rfl rfl ?_
                          refine x_lconst (v := 0) rfl rfl (by decide +kernel) ?_
                          refine x_lc_ne rfl rfl rfl rfl (fun hc217 => ?_) (fun hc217 => ?_)
                          · refine x_iconstN (b := 3) rfl rfl ?_
                            refine x_istore rfl rfl rfl rfl ?_
                            refine x_iload rfl rfl rfl ?_
                            refine x_if_eq rfl rfl (fun hc218 => absurd hc218 (by decide +kernel)) (fun _ => ?_)
                            refine x_aload_n rfl rfl rfl ?_
                            refine x_lload_n rfl rfl rfl ?_
                            refine x_iload_n rfl rfl rfl ?_
                            refine x_iload rfl rfl rfl ?_
                            refine x_lload rfl rfl rfl ?_
                            refine x_lload rfl rfl rfl ?_
                            refine x_lload rfl rfl rfl ?_
                            exact absurd (by unfold cbm; simp_all) hb
                          · refine x_iconstN (b := 2) rfl rfl ?_
                            refine x_goto rfl rfl ?_
                            refine x_istore rfl rfl rfl rfl ?_
                            refine x_iload rfl rfl rfl ?_
                            refine x_if_eq rfl rfl (fun hc219 => absurd hc219 (by decide +kernel)) (fun _ => ?_)
                            refine x_aload_n rfl rfl rfl ?_
                            refine x_lload_n rfl rfl rfl ?_
                            refine x_iload_n rfl rfl rfl ?_
                            refine x_iload rfl rfl rfl ?_
                            refine x_lload rfl rfl rfl ?_
                            refine x_lload rfl rfl rfl ?_
                            refine x_lload rfl rfl rfl ?_
                            exact absurd (by unfold cbm; simp_all) hb
                        · refine x_iconstN (b := 1) rfl rfl ?_
                          refine x_goto rfl rfl ?_
                          refine x_istore rfl rfl rfl rfl ?_
                          refine x_iload rfl rfl rfl ?_
                          refine x_if_eq rfl rfl (fun hc220 => absurd hc220 (by decide +kernel)) (fun _ => ?_)
                          refine x_aload_n rfl rfl rfl ?_
                          refine x_lload_n rfl rfl rfl ?_
                          refine x_iload_n rfl rfl rfl ?_
                          refine x_iload rfl rfl rfl ?_
                          refine x_lload rfl rfl rfl ?_
                          refine x_lload rfl rfl rfl ?_
                          refine x_lload rfl rfl rfl ?_
                          exact absurd (by unfold cbm; simp_all) hb
                      · refine x_iconstN (b := 0) rfl rfl ?_
                        refine x_goto rfl rfl ?_
                        refine x_istore rfl rfl rfl rfl ?_
                        refine x_iload rfl rfl rfl ?_
                        refine x_if_eq rfl rfl (fun hc221 => absurd hc221 (by decide +kernel)) (fun _ => ?_)
                        refine x_aload_n rfl rfl rfl ?_
                        refine x_lload_n rfl rfl rfl ?_
                        refine x_iload_n rfl rfl rfl ?_
                        refine x_iload rfl rfl rfl ?_
                        refine x_lload rfl rfl rfl ?_
                        refine x_lload rfl rfl rfl ?_
                        refine x_lload rfl rfl rfl ?_
                        exact absurd (by unfold cbm; simp_all) hb
                · refine x_lload rfl rfl rfl ?_
                  refine x_lload rfl rfl rfl ?_
                  refine x_lc_eq rfl rfl rfl rfl (fun hc222 => ?_) (fun hc222 => ?_)
                  · refine x_iconstN (b := 0) rfl rfl ?_
                    refine x_istore rfl rfl rfl rfl ?_
                    refine x_lload rfl rfl rfl ?_
                    refine x_lconst (v := 0) rfl rfl (by decide +kernel) ?_
                    refine x_lc_ne rfl rfl rfl rfl (fun hc223 => ?_) (fun hc223 => ?_)
                    · refine x_lload rfl rfl rfl ?_
                      refine x_lconst (v := 0) rfl rfl (by decide +kernel) ?_
                      refine x_lc_ne rfl rfl rfl rfl (fun hc224 => ?_) (fun hc224 => ?_)
                      · refine x_lload rfl rfl rfl ?_
                        refine x_lconst (v := 0) rfl rfl (by decide +kernel) ?_
                        refine x_lc_ne rfl rfl rfl rfl (fun hc225 => ?_) (fun hc225 => ?_)
                        · refine x_iconstN (b := 3) rfl rfl ?_
                          refine x_istore rfl rfl rfl rfl ?_
                          refine x_iload rfl rfl rfl ?_
                          refine x_if_eq rfl rfl (fun _ => ?_) (fun hc226 => absurd hc226 (by decide +kernel))
                          refine x_iconst (v := -1) rfl rfl (by decide +kernel) ?_
                          refine x_istore rfl rfl rfl rfl ?_
                          refine x_aload_n rfl rfl rfl ?_
                          refine x_iload rfl rfl rfl ?_
                          refine x_if_ne rfl rfl (fun hc227 => absurd hc227 (by decide +kernel)) (fun _ => ?_)
                          refine x_iconstN (b := 1) rfl rfl ?_
                          refine x_goto rfl rfl ?_
                          refine x_putI rfl rfl f_9_97 rfl rfl (by decide) rfl ?_
                          refine x_aload_n rfl rfl rfl ?_
                          refine x_getIv (v := nI 1) (by first | rfl | simp [ui, ul]) rfl rfl f_9_97 rfl (by decide) rfl ?_
                          refine x_if_le rfl rfl (fun hc228 => absurd hc228 (by decide +kernel)) (fun _ => ?_)
                          refine x_iconstN (b := 0) rfl rfl ?_
                          exact x_retI rfl rfl rfl (by omega) rfl rfl
                        · refine x_iconstN (b := 2) rfl rfl ?_
                          refine x_goto rfl rfl ?_
                          refine x_istore rfl rfl rfl rfl ?_
                          refine x_iload rfl rfl rfl ?_
                          refine x_if_eq rfl rfl (fun _ => ?_) (fun hc229 => absurd hc229 (by decide +kernel))
                          refine x_iconst (v := -1) rfl rfl (by decide +kernel) ?_
                          refine x_istore rfl rfl rfl rfl ?_
                          refine x_aload_n rfl rfl rfl ?_
                          refine x_iload rfl rfl rfl ?_
                          refine x_if_ne rfl rfl (fun hc230 => absurd hc230 (by decide +kernel)) (fun _ => ?_)
                          refine x_iconstN (b := 1) rfl rfl ?_
                          refine x_goto rfl rfl ?_
                          refine x_putI rfl rfl f_9_97 rfl rfl (by decide) rfl ?_
                          refine x_aload_n rfl rfl rfl ?_
                          refine x_getIv (v := nI 1) (by first | rfl | simp [ui, ul]) rfl rfl f_9_97 rfl (by decide) rfl ?_
                          refine x_if_le rfl rfl (fun hc231 => absurd hc231 (by decide +kernel)) (fun _ => ?_)
                          refine x_iconstN (b := 0) rfl rfl ?_
                          exact x_retI rfl rfl rfl (by omega) rfl rfl
                      · refine x_iconstN (b := 1) rfl rfl ?_
                        refine x_goto rfl rfl ?_
                        refine x_istore rfl rfl rfl rfl ?_
                        refine x_iload rfl rfl rfl ?_
                        refine x_if_eq rfl rfl (fun _ => ?_) (fun hc232 => absurd hc232 (by decide +kernel))
                        refine x_iconst (v := -1) rfl rfl (by decide +kernel) ?_
                        refine x_istore rfl rfl rfl rfl ?_
                        refine x_aload_n rfl rfl rfl ?_
                        refine x_iload rfl rfl rfl ?_
                        refine x_if_ne rfl rfl (fun hc233 => absurd hc233 (by decide +kernel)) (fun _ => ?_)
                        refine x_iconstN (b := 1) rfl rfl ?_
                        refine x_goto rfl rfl ?_
                        refine x_putI rfl rfl f_9_97 rfl rfl (by decide) rfl ?_
                        refine x_aload_n rfl rfl rfl ?_
                        refine x_getIv (v := nI 1) (by first | rfl | simp [ui, ul]) rfl rfl f_9_97 rfl (by decide) rfl ?_
                        refine x_if_le rfl rfl (fun hc234 => absurd hc234 (by decide +kernel)) (fun _ => ?_)
                        refine x_iconstN (b := 0) rfl rfl ?_
                        exact x_retI rfl rfl rfl (by omega) rfl rfl
                    · refine x_iconstN (b := 0) rfl rfl ?_
                      refine x_goto rfl rfl ?_
                      refine x_istore rfl rfl rfl rfl ?_
                      refine x_iload rfl rfl rfl ?_
                      refine x_if_eq rfl rfl (fun _ => ?_) (fun hc235 => absurd hc235 (by decide +kernel))
                      refine x_iconst (v := -1) rfl rfl (by decide +kernel) ?_
                      refine x_istore rfl rfl rfl rfl ?_
                      refine x_aload_n rfl rfl rfl ?_
                      refine x_iload rfl rfl rfl ?_
                      refine x_if_ne rfl rfl (fun hc236 => absurd hc236 (by decide +kernel)) (fun _ => ?_)
                      refine x_iconstN (b := 1) rfl rfl ?_
                      refine x_goto rfl rfl ?_
                      refine x_putI rfl rfl f_9_97 rfl rfl (by decide) rfl ?_
                      refine x_aload_n rfl rfl rfl ?_
                      refine x_getIv (v := nI 1) (by first | rfl | simp [ui, ul]) rfl rfl f_9_97 rfl (by decide) rfl ?_
                      refine x_if_le rfl rfl (fun hc237 => absurd hc237 (by decide +kernel)) (fun _ => ?_)
                      refine x_iconstN (b := 0) rfl rfl ?_
                      exact x_retI rfl rfl rfl (by omega) rfl rfl
                  · refine x_lload rfl rfl rfl ?_
                    refine x_lload rfl rfl rfl ?_
                    refine x_lc_eq rfl rfl rfl rfl (fun hc238 => ?_) (fun hc238 => ?_)
                    · refine x_iconstN (b := 0) rfl rfl ?_
                      refine x_istore rfl rfl rfl rfl ?_
                      refine x_lload rfl rfl rfl ?_
                      refine x_lconst (v := 0) rfl rfl (by decide +kernel) ?_
                      refine x_lc_ne rfl rfl rfl rfl (fun hc239 => ?_) (fun hc239 => ?_)
                      · refine x_lload rfl rfl rfl ?_
                        refine x_lconst (v := 0) rfl rfl (by decide +kernel) ?_
                        refine x_lc_ne rfl rfl rfl rfl (fun hc240 => ?_) (fun hc240 => ?_)
                        · refine x_lload rfl rfl rfl ?_
                          refine x_lconst (v := 0) rfl rfl (by decide +kernel) ?_
                          refine x_lc_ne rfl rfl rfl rfl (fun hc241 => ?_) (fun hc241 => ?_)
                          · refine x_iconstN (b := 3) rfl rfl ?_
                            refine x_istore rfl rfl rfl rfl ?_
                            refine x_iload rfl rfl rfl ?_
                            refine x_if_eq rfl rfl (fun _ => ?_) (fun hc242 => absurd hc242 (by decide +kernel))
                            refine x_iconst (v := -1) rfl rfl (by decide +kernel) ?_
                            refine x_istore rfl rfl rfl rfl ?_
                            refine x_aload_n rfl rfl rfl ?_
                            refine x_iload rfl rfl rfl ?_
                            refine x_if_ne rfl rfl (fun hc243 => absurd hc243 (by decide +kernel)) (fun _ => ?_)
                            refine x_iconstN (b := 1) rfl rfl ?_
                            refine x_goto rfl rfl ?_
                            refine x_putI rfl rfl f_9_97 rfl rfl (by decide) rfl ?_
                            refine x_aload_n rfl rfl rfl ?_
                            refine x_getIv (v := nI 1) (by first | rfl | simp [ui, ul]) rfl rfl f_9_97 rfl (by decide) rfl ?_
                            refine x_if_le rfl rfl (fun hc244 => absurd hc244 (by decide +kernel)) (fun _ => ?_)
                            refine x_iconstN (b := 0) rfl rfl ?_
                            exact x_retI rfl rfl rfl (by omega) rfl rfl
                          · refine x_iconstN (b := 2) rfl rfl ?_
                            refine x_goto rfl rfl ?_
                            refine x_istore rfl rfl rfl rfl ?_
                            refine x_iload rfl rfl rfl ?_
                            refine x_if_eq rfl rfl (fun _ => ?_) (fun hc245 => absurd hc245 (by decide +kernel))
                            refine x_iconst (v := -1) rfl rfl (by decide +kernel) ?_
                            refine x_istore rfl rfl rfl rfl ?_
                            refine x_aload_n rfl rfl rfl ?_
                            refine x_iload rfl rfl rfl ?_
                            refine x_if_ne rfl rfl (fun hc246 => absurd hc246 (by decide +kernel)) (fun _ => ?_)
                            refine x_iconstN (b := 1) rfl rfl ?_
                            refine x_goto rfl rfl ?_
                            refine x_putI rfl rfl f_9_97 rfl rfl (by decide) rfl ?_
                            refine x_aload_n rfl rfl rfl ?_
                            refine x_getIv (v := nI 1) (by first | rfl | simp [ui, ul]) rfl rfl f_9_97 rfl (by decide) rfl ?_
                            refine x_if_le rfl rfl (fun hc247 => absurd hc247 (by decide +kernel)) (fun _ => ?_)
                            refine x_iconstN (b := 0) rfl rfl ?_
                            exact x_retI rfl rfl rfl (by omega) rfl rfl
                        · refine x_iconstN (b := 1) rfl rfl ?_
                          refine x_goto rfl rfl ?_
                          refine x_istore rfl rfl rfl rfl ?_
                          refine x_iload rfl rfl rfl ?_
                          refine x_if_eq rfl rfl (fun _ => ?_) (fun hc248 => absurd hc248 (by decide +kernel))
                          refine x_iconst (v := -1) rfl rfl (by decide +kernel) ?_
                          refine x_istore rfl rfl rfl rfl ?_
                          refine x_aload_n rfl rfl rfl ?_
                          refine x_iload rfl rfl rfl ?_
                          refine x_if_ne rfl rfl (fun hc249 => absurd hc249 (by decide +kernel)) (fun _ => ?_)
                          refine x_iconstN (b := 1) rfl rfl ?_
                          refine x_goto rfl rfl ?_
                          refine x_putI rfl rfl f_9_97 rfl rfl (by decide) rfl ?_
                          refine x_aload_n rfl rfl rfl ?_
                          refine x_getIv (v := nI 1) (by first | rfl | simp [ui, ul]) rfl rfl f_9_97 rfl (by decide) rfl ?_
                          refine x_if_le rfl rfl (fun hc250 => absurd hc250 (by decide +kernel)) (fun _ => ?_)
                          refine x_iconstN (b := 0) rfl rfl ?_
                          exact x_retI rfl rfl rfl (by omega) rfl rfl
                      · refine x_iconstN (b := 0) rfl rfl ?_
                        refine x_goto rfl rfl ?_
                        refine x_istore rfl rfl rfl rfl ?_
                        refine x_iload rfl rfl rfl ?_
                        refine x_if_eq rfl rfl (fun _ => ?_) (fun hc251 => absurd hc251 (by decide +kernel))
                        refine x_iconst (v := -1) rfl rfl (by decide +kernel) ?_
                        refine x_istore rfl rfl rfl rfl ?_
                        refine x_aload_n rfl rfl rfl ?_
                        refine x_iload rfl rfl rfl ?_
                        refine x_if_ne rfl rfl (fun hc252 => absurd hc252 (by decide +kernel)) (fun _ => ?_)
                        refine x_iconstN (b := 1) rfl rfl ?_
                        refine x_goto rfl rfl ?_
                        refine x_putI rfl rfl f_9_97 rfl rfl (by decide) rfl ?_
                        refine x_aload_n rfl rfl rfl ?_
                        refine x_getIv (v := nI 1) (by first | rfl | simp [ui, ul]) rfl rfl f_9_97 rfl (by decide) rfl ?_
                        refine x_if_le rfl rfl (fun hc253 => absurd hc253 (by decide +kernel)) (fun _ => ?_)
                        refine x_iconstN (b := 0) rfl rfl ?_
                        exact x_retI rfl rfl rfl (by omega) rfl rfl
                    · refine x_lload rfl rfl rfl ?_
                      refine x_lconst (v := 0) rfl rfl (by decide +kernel) ?_
                      refine x_lc_eq rfl rfl rfl rfl (fun hc254 => ?_) (fun hc254 => ?_)
                      · refine x_iconstN (b := 1) rfl rfl ?_
                        refine x_goto rfl rfl ?_
                        refine x_istore rfl rfl rfl rfl ?_
                        refine x_lload rfl rfl rfl ?_
                        refine x_lconst (v := 0) rfl rfl (by decide +kernel) ?_
                        refine x_lc_ne rfl rfl rfl rfl (fun hc255 => ?_) (fun hc255 => ?_)
                        · refine x_lload rfl rfl rfl ?_
                          refine x_lconst (v := 0) rfl rfl (by decide +kernel) ?_
                          refine x_lc_ne rfl rfl rfl rfl (fun hc256 => ?_) (fun hc256 => ?_)
                          · refine x_lload rfl rfl rfl ?_
                            refine x_lconst (v := 0) rfl rfl (by decide +kernel) ?_
                            refine x_lc_ne rfl rfl rfl rfl (fun hc257 => ?_) (fun hc257 => ?_)
                            · refine x_iconstN (b := 3) rfl rfl ?_
                              refine x_istore rfl rfl rfl rfl ?_
                              refine x_iload rfl rfl rfl ?_
                              refine x_if_eq rfl rfl (fun hc258 => absurd hc258 (by decide +kernel)) (fun _ => ?_)
                              refine x_aload_n rfl rfl rfl ?_
                              refine x_lload_n rfl rfl rfl ?_
                              refine x_iload_n rfl rfl rfl ?_
                              refine x_iload rfl rfl rfl ?_
                              refine x_lload rfl rfl rfl ?_
                              refine x_lload rfl rfl rfl ?_
                              refine x_lload rfl rfl rfl ?_
                              exact absurd (by unfold cbm; simp_all) hb
                            · refine x_iconstN (b := 2) rfl rfl ?_
                              refine x_goto rfl rfl ?_
                              refine x_istore rfl rfl rfl rfl ?_
                              refine x_iload rfl rfl rfl ?_
                              refine x_if_eq rfl rfl (fun hc259 => absurd hc259 (by decide +kernel)) (fun _ => ?_)
                              refine x_aload_n rfl rfl rfl ?_
                              refine x_lload_n rfl rfl rfl ?_
                              refine x_iload_n rfl rfl rfl ?_
                              refine x_iload rfl rfl rfl ?_
                              refine x_lload rfl rfl rfl ?_
                              refine x_lload rfl rfl rfl ?_
                              refine x_lload rfl rfl rfl ?_
                              exact absurd (by unfold cbm; simp_all) hb
                          · refine x_iconstN (b := 1) rfl rfl ?_
                            refine x_goto rfl rfl ?_
                            refine x_istore rfl rfl rfl rfl ?_
                            refine x_iload rfl rfl rfl ?_
                            refine x_if_eq rfl rfl (fun hc260 => absurd hc260 (by decide +kernel)) (fun _ => ?_)
                            refine x_aload_n rfl rfl rfl ?_
                            refine x_lload_n rfl rfl rfl ?_
                            refine x_iload_n rfl rfl rfl ?_
                            refine x_iload rfl rfl rfl ?_
                            refine x_lload rfl rfl rfl ?_
                            refine x_lload rfl rfl rfl ?_
                            refine x_lload rfl rfl rfl ?_
                            exact absurd (by unfold cbm; simp_all) hb
                        · refine x_iconstN (b := 0) rfl rfl ?_
                          refine x_goto rfl rfl ?_
                          refine x_istore rfl rfl rfl rfl ?_
                          refine x_iload rfl rfl rfl ?_
                          refine x_if_eq rfl rfl (fun hc261 => absurd hc261 (by decide +kernel)) (fun _ => ?_)
                          refine x_aload_n rfl rfl rfl ?_
                          refine x_lload_n rfl rfl rfl ?_
                          refine x_iload_n rfl rfl rfl ?_
                          refine x_iload rfl rfl rfl ?_
                          refine x_lload rfl rfl rfl ?_
                          refine x_lload rfl rfl rfl ?_
                          refine x_lload rfl rfl rfl ?_
                          exact absurd (by unfold cbm; simp_all) hb
                      · refine x_lload rfl rfl rfl ?_
                        refine x_lload rfl rfl rfl ?_
                        refine x_lc_eq rfl rfl rfl rfl (fun hc262 => ?_) (fun hc262 => ?_)
                        · refine x_iconstN (b := 0) rfl rfl ?_
                          refine x_istore rfl rfl rfl rfl ?_
                          refine x_lload rfl rfl rfl ?_
                          refine x_lconst (v := 0) rfl rfl (by decide +kernel) ?_
                          refine x_lc_ne rfl rfl rfl rfl (fun hc263 => ?_) (fun hc263 => ?_)
                          · refine x_lload rfl rfl rfl ?_
                            refine x_lconst (v := 0) rfl rfl (by decide +kernel) ?_
                            refine x_lc_ne rfl rfl rfl rfl (fun hc264 => ?_) (fun hc264 => ?_)
                            · refine x_lload rfl rfl rfl ?_
                              refine x_lconst (v := 0) rfl rfl (by decide +kernel) ?_
                              refine x_lc_ne rfl rfl rfl rfl (fun hc265 => ?_) (fun hc265 => ?_)
                              · refine x_iconstN (b := 3) rfl rfl ?_
                                refine x_istore rfl rfl rfl rfl ?_
                                refine x_iload rfl rfl rfl ?_
                                refine x_if_eq rfl rfl (fun _ => ?_) (fun hc266 => absurd hc266 (by decide +kernel))
                                refine x_iconst (v := -1) rfl rfl (by decide +kernel) ?_
                                refine x_istore rfl rfl rfl rfl ?_
                                refine x_aload_n rfl rfl rfl ?_
                                refine x_iload rfl rfl rfl ?_
                                refine x_if_ne rfl rfl (fun hc267 => absurd hc267 (by decide +kernel)) (fun _ => ?_)
                                refine x_iconstN (b := 1) rfl rfl ?_
                                refine x_goto rfl rfl ?_
                                refine x_putI rfl rfl f_9_97 rfl rfl (by decide) rfl ?_
                                refine x_aload_n rfl rfl rfl ?_
                                refine x_getIv (v := nI 1) (by first | rfl | simp [ui, ul]) rfl rfl f_9_97 rfl (by decide) rfl ?_
                                refine x_if_le rfl rfl (fun hc268 => absurd hc268 (by decide +kernel)) (fun _ => ?_)
                                refine x_iconstN (b := 0) rfl rfl ?_
                                exact x_retI rfl rfl rfl (by omega) rfl rfl
                              · refine x_iconstN (b := 2) rfl rfl ?_
                                refine x_goto rfl rfl ?_
                                refine x_istore rfl rfl rfl rfl ?_
                                refine x_iload rfl rfl rfl ?_
                                refine x_if_eq rfl rfl (fun _ => ?_) (fun hc269 => absurd hc269 (by decide +kernel))
                                refine x_iconst (v := -1) rfl rfl (by decide +kernel) ?_
                                refine x_istore rfl rfl rfl rfl ?_
                                refine x_aload_n rfl rfl rfl ?_
                                refine x_iload rfl rfl rfl ?_
                                refine x_if_ne rfl rfl (fun hc270 => absurd hc270 (by decide +kernel)) (fun _ => ?_)
                                refine x_iconstN (b := 1) rfl rfl ?_
                                refine x_goto rfl rfl ?_
                                refine x_putI rfl rfl f_9_97 rfl rfl (by decide) rfl ?_
                                refine x_aload_n rfl rfl rfl ?_
                                refine x_getIv (v := nI 1) (by first | rfl | simp [ui, ul]) rfl rfl f_9_97 rfl (by decide) rfl ?_
                                refine x_if_le rfl rfl (fun hc271 => absurd hc271 (by decide +kernel)) (fun _ => ?_)
                                refine x_iconstN (b := 0) rfl rfl ?_
                                exact x_retI rfl rfl rfl (by omega) rfl rfl
                            · refine x_iconstN (b := 1) rfl rfl ?_
                              refine x_goto rfl rfl ?_
                              refine x_istore rfl rfl rfl rfl ?_
                              refine x_iload rfl rfl rfl ?_
                              refine x_if_eq rfl rfl (fun _ => ?_) (fun hc272 => absurd hc272 (by decide +kernel))
                              refine x_iconst (v := -1) rfl rfl (by decide +kernel) ?_
                              refine x_istore rfl rfl rfl rfl ?_
                              refine x_aload_n rfl rfl rfl ?_
                              refine x_iload rfl rfl rfl ?_
                              refine x_if_ne rfl rfl (fun hc273 => absurd hc273 (by decide +kernel)) (fun _ => ?_)
                              refine x_iconstN (b := 1) rfl rfl ?_
                              refine x_goto rfl rfl ?_
                              refine x_putI rfl rfl f_9_97 rfl rfl (by decide) rfl ?_
                              refine x_aload_n rfl rfl rfl ?_
                              refine x_getIv (v := nI 1) (by first | rfl | simp [ui, ul]) rfl rfl f_9_97 rfl (by decide) rfl ?_
                              refine x_if_le rfl rfl (fun hc274 => absurd hc274 (by decide +kernel)) (fun _ => ?_)
                              refine x_iconstN (b := 0) rfl rfl ?_
                              exact x_retI rfl rfl rfl (by omega) rfl rfl
                          · refine x_iconstN (b := 0) rfl rfl ?_
                            refine x_goto rfl rfl ?_
                            refine x_istore rfl rfl rfl rfl ?_
                            refine x_iload rfl rfl rfl ?_
                            refine x_if_eq rfl rfl (fun _ => ?_) (fun hc275 => absurd hc275 (by decide +kernel))
                            refine x_iconst (v := -1) rfl rfl (by decide +kernel) ?_
                            refine x_istore rfl rfl rfl rfl ?_
                            refine x_aload_n rfl rfl rfl ?_
                            refine x_iload rfl rfl rfl ?_
                            refine x_if_ne rfl rfl (fun hc276 => absurd hc276 (by decide +kernel)) (fun _ => ?_)
                            refine x_iconstN (b := 1) rfl rfl ?_
                            refine x_goto rfl rfl ?_
                            refine x_putI rfl rfl f_9_97 rfl rfl (by decide) rfl ?_
                            refine x_aload_n rfl rfl rfl ?_
                            refine x_getIv (v := nI 1) (by first | rfl | simp [ui, ul]) rfl rfl f_9_97 rfl (by decide) rfl ?_
                            refine x_if_le rfl rfl (fun hc277 => absurd hc277 (by decide +kernel)) (fun _ => ?_)
                            refine x_iconstN (b := 0) rfl rfl ?_
                            exact x_retI rfl rfl rfl (by omega) rfl rfl
                        · refine x_iconstN (b := 1) rfl rfl ?_
                          refine x_goto rfl rfl ?_
                          refine x_istore rfl rfl rfl rfl ?_
                          refine x_lload rfl rfl rfl ?_
                          refine x_lconst (v := 0) rfl rfl (by decide +kernel) ?_
                          refine x_lc_ne rfl rfl rfl rfl (fun hc278 => ?_) (fun hc278 => ?_)
                          · refine x_lload rfl rfl rfl ?_
                            refine x_lconst (v := 0) rfl rfl (by decide +kernel) ?_
                            refine x_lc_ne rfl rfl rfl rfl (fun hc279 => ?_) (fun hc279 => ?_)
                            · refine x_lload rfl rfl rfl ?_
                              refine x_lconst (v := 0) rfl rfl (by decide +kernel) ?_
                              refine x_lc_ne rfl rfl rfl rfl (fun hc280 => ?_) (fun hc280 => ?_)
                              · refine x_iconstN (b := 3) rfl rfl ?_
                                refine x_istore rfl rfl rfl rfl ?_
                                refine x_iload rfl rfl rfl ?_
                                refine x_if_eq rfl rfl (fun hc281 => absurd hc281 (by decide +kernel)) (fun _ => ?_)
                                refine x_aload_n rfl rfl rfl ?_
                                refine x_lload_n rfl rfl rfl ?_
                                refine x_iload_n rfl rfl rfl ?_
                                refine x_iload rfl rfl rfl ?_
                                refine x_lload rfl rfl rfl ?_
                                refine x_lload rfl rfl rfl ?_
                                refine x_lload rfl rfl rfl ?_
                                exact absurd (by unfold cbm; simp_all) hb
                              · refine x_iconstN (b := 2) rfl rfl ?_
                                refine x_goto rfl rfl ?_
                                refine x_istore rfl rfl rfl rfl ?_
                                refine x_iload rfl rfl rfl ?_
                                refine x_if_eq rfl rfl (fun hc282 => absurd hc282 (by decide +kernel)) (fun _ => ?_)
                                refine x_aload_n rfl rfl rfl ?_
                                refine x_lload_n rfl rfl rfl ?_
                                refine x_iload_n rfl rfl rfl ?_
                                refine x_iload rfl rfl rfl ?_
                                refine x_lload rfl rfl rfl ?_
                                refine x_lload rfl rfl rfl ?_
                                refine x_lload rfl rfl rfl ?_
                                exact absurd (by unfold cbm; simp_all) hb
                            · refine x_iconstN (b := 1) rfl rfl ?_
                              refine x_goto rfl rfl ?_
                              refine x_istore rfl rfl rfl rfl ?_
                              refine x_iload rfl rfl rfl ?_
                              refine x_if_eq rfl rfl (fun hc283 => absurd hc283 (by decide +kernel)) (fun _ => ?_)
                              refine x_aload_n rfl rfl rfl ?_
                              refine x_lload_n rfl rfl rfl ?_
                              refine x_iload_n rfl rfl rfl ?_
                              refine x_iload rfl rfl rfl ?_
                              refine x_lload rfl rfl rfl ?_
                              refine x_lload rfl rfl rfl ?_
                              refine x_lload rfl rfl rfl ?_
                              exact absurd (by unfold cbm; simp_all) hb
                          · refine x_iconstN (b := 0) rfl rfl ?_
                            refine x_goto rfl rfl ?_
                            refine x_istore rfl rfl rfl rfl ?_
                            refine x_iload rfl rfl rfl ?_
                            refine x_if_eq rfl rfl (fun hc284 => absurd hc284 (by decide +kernel)) (fun _ => ?_)
                            refine x_aload_n rfl rfl rfl ?_
                            refine x_lload_n rfl rfl rfl ?_
                            refine x_iload_n rfl rfl rfl ?_
                            refine x_iload rfl rfl rfl ?_
                            refine x_lload rfl rfl rfl ?_
                            refine x_lload rfl rfl rfl ?_
                            refine x_lload rfl rfl rfl ?_
                            exact absurd (by unfold cbm; simp_all) hb
          · refine x_lload rfl rfl rfl ?_
            refine x_lconst (v := 0) rfl rfl (by decide +kernel) ?_
            refine x_lc_ne rfl rfl rfl rfl (fun hc285 => ?_) (fun hc285 => ?_)
            · refine x_iconstN (b := 0) rfl rfl ?_
              refine x_istore rfl rfl rfl rfl ?_
              refine x_iload rfl rfl rfl ?_
              refine x_if_eq rfl rfl (fun _ => ?_) (fun hc286 => absurd hc286 (by decide +kernel))
              refine x_iconstN (b := 0) rfl rfl ?_
              refine x_istore rfl rfl rfl rfl ?_
              refine x_lload rfl rfl rfl ?_
              refine x_lconst (v := 0) rfl rfl (by decide +kernel) ?_
              refine x_lc_ne rfl rfl rfl rfl (fun hc287 => ?_) (fun hc287 => ?_)
              · refine x_lload rfl rfl rfl ?_
                refine x_lconst (v := 0) rfl rfl (by decide +kernel) ?_
                refine x_lc_ne rfl rfl rfl rfl (fun hc288 => ?_) (fun hc288 => ?_)
                · refine x_lload rfl rfl rfl ?_
                  refine x_lconst (v := 0) rfl rfl (by decide +kernel) ?_
                  refine x_lc_ne rfl rfl rfl rfl (fun hc289 => ?_) (fun hc289 => ?_)
                  · refine x_iconstN (b := 3) rfl rfl ?_
                    refine x_istore rfl rfl rfl rfl ?_
                    refine x_iload rfl rfl rfl ?_
                    refine x_if_eq rfl rfl (fun _ => ?_) (fun hc290 => absurd hc290 (by decide +kernel))
                    refine x_iconst (v := -1) rfl rfl (by decide +kernel) ?_
                    refine x_istore rfl rfl rfl rfl ?_
                    refine x_aload_n rfl rfl rfl ?_
                    refine x_iload rfl rfl rfl ?_
                    refine x_if_ne rfl rfl (fun hc291 => absurd hc291 (by decide +kernel)) (fun _ => ?_)
                    refine x_iconstN (b := 1) rfl rfl ?_
                    refine x_goto rfl rfl ?_
                    refine x_putI rfl rfl f_9_97 rfl rfl (by decide) rfl ?_
                    refine x_aload_n rfl rfl rfl ?_
                    refine x_getIv (v := nI 1) (by first | rfl | simp [ui, ul]) rfl rfl f_9_97 rfl (by decide) rfl ?_
                    refine x_if_le rfl rfl (fun hc292 => absurd hc292 (by decide +kernel)) (fun _ => ?_)
                    refine x_iconstN (b := 0) rfl rfl ?_
                    exact x_retI rfl rfl rfl (by omega) rfl rfl
                  · refine x_iconstN (b := 2) rfl rfl ?_
                    refine x_goto rfl rfl ?_
                    refine x_istore rfl rfl rfl rfl ?_
                    refine x_iload rfl rfl rfl ?_
                    refine x_if_eq rfl rfl (fun _ => ?_) (fun hc293 => absurd hc293 (by decide +kernel))
                    refine x_iconst (v := -1) rfl rfl (by decide +kernel) ?_
                    refine x_istore rfl rfl rfl rfl ?_
                    refine x_aload_n rfl rfl rfl ?_
                    refine x_iload rfl rfl rfl ?_
                    refine x_if_ne rfl rfl (fun hc294 => absurd hc294 (by decide +kernel)) (fun _ => ?_)
                    refine x_iconstN (b := 1) rfl rfl ?_
                    refine x_goto rfl rfl ?_
                    refine x_putI rfl rfl f_9_97 rfl rfl (by decide) rfl ?_
                    refine x_aload_n rfl rfl rfl ?_
                    refine x_getIv (v := nI 1) (by first | rfl | simp [ui, ul]) rfl rfl f_9_97 rfl (by decide) rfl ?_
                    refine x_if_le rfl rfl (fun hc295 => absurd hc295 (by decide +kernel)) (fun _ => ?_)
                    refine x_iconstN (b := 0) rfl rfl ?_
                    exact x_retI rfl rfl rfl (by omega) rfl rfl
                · refine x_iconstN (b := 1) rfl rfl ?_
                  refine x_goto rfl rfl ?_
                  refine x_istore rfl rfl rfl rfl ?_
                  refine x_iload rfl rfl rfl ?_
                  refine x_if_eq rfl rfl (fun _ => ?_) (fun hc296 => absurd hc296 (by decide +kernel))
                  refine x_iconst (v := -1) rfl rfl (by decide +kernel) ?_
                  refine x_istore rfl rfl rfl rfl ?_
                  refine x_aload_n rfl rfl rfl ?_
                  refine x_iload rfl rfl rfl ?_
                  refine x_if_ne rfl rfl (fun hc297 => absurd hc297 (by decide +kernel)) (fun _ => ?_)
                  refine x_iconstN (b := 1) rfl rfl ?_
                  refine x_goto rfl rfl ?_
                  refine x_putI rfl rfl f_9_97 rfl rfl (by decide) rfl ?_
                  refine x_aload_n rfl rfl rfl ?_
                  refine x_getIv (v := nI 1) (by first | rfl | simp [ui, ul]) rfl rfl f_9_97 rfl (by decide) rfl ?_
                  refine x_if_le rfl rfl (fun hc298 => absurd hc298 (by decide +kernel)) (fun _ => ?_)
                  refine x_iconstN (b := 0) rfl rfl ?_
                  exact x_retI rfl rfl rfl (by omega) rfl rfl
              · refine x_iconstN (b := 0) rfl rfl ?_
                refine x_goto rfl rfl ?_
                refine x_istore rfl rfl rfl rfl ?_
                refine x_iload rfl rfl rfl ?_
                refine x_if_eq rfl rfl (fun _ => ?_) (fun hc299 => absurd hc299 (by decide +kernel))
                refine x_iconst (v := -1) rfl rfl (by decide +kernel) ?_
                refine x_istore rfl rfl rfl rfl ?_
                refine x_aload_n rfl rfl rfl ?_
                refine x_iload rfl rfl rfl ?_
                refine x_if_ne rfl rfl (fun hc300 => absurd hc300 (by decide +kernel)) (fun _ => ?_)
                refine x_iconstN (b := 1) rfl rfl ?_
                refine x_goto rfl rfl ?_
                refine x_putI rfl rfl f_9_97 rfl rfl (by decide) rfl ?_
                refine x_aload_n rfl rfl rfl ?_
                refine x_getIv (v := nI 1) (by first | rfl | simp [ui, ul]) rfl rfl f_9_97 rfl (by decide) rfl ?_
                refine x_if_le rfl rfl (fun hc301 => absurd hc301 (by decide +kernel)) (fun _ => ?_)
                refine x_iconstN (b := 0) rfl rfl ?_
                exact x_retI rfl rfl rfl (by omega) rfl rfl
            · refine x_lload rfl rfl rfl ?_
              refine x_lconst (v := 0) rfl rfl (by decide +kernel) ?_
              refine x_lc_ne rfl rfl rfl rfl (fun hc302 => ?_) (fun hc302 => ?_)
              · refine x_iconstN (b := 1) rfl rfl ?_
                refine x_goto rfl rfl ?_
                refine x_istore rfl rfl rfl rfl ?_
                refine x_iload rfl rfl rfl ?_
                refine x_if_eq rfl rfl (fun hc303 => absurd hc303 (by decide +kernel)) (fun _ => ?_)
                refine x_lload rfl rfl rfl ?_
                refine x_lconst (v := 0) rfl rfl (by decide +kernel) ?_
                refine x_lc_eq rfl rfl rfl rfl (fun hc304 => ?_) (fun hc304 => ?_)
                · refine x_lload rfl rfl rfl ?_
                  refine x_lconst (v := 0) rfl rfl (by decide +kernel) ?_
                  refine x_lc_eq rfl rfl rfl rfl (fun hc305 => ?_) (fun hc305 => ?_)
                  · refine x_iconstN (b := 1) rfl rfl ?_
                    refine x_goto rfl rfl ?_
                    refine x_istore rfl rfl rfl rfl ?_
                    refine x_lload rfl rfl rfl ?_
                    refine x_lconst (v := 0) rfl rfl (by decide +kernel) ?_
                    refine x_lc_ne rfl rfl rfl rfl (fun hc306 => ?_) (fun hc306 => ?_)
                    · refine x_lload rfl rfl rfl ?_
                      refine x_lconst (v := 0) rfl rfl (by decide +kernel) ?_
                      refine x_lc_ne rfl rfl rfl rfl (fun hc307 => ?_) (fun hc307 => ?_)
                      · refine x_lload rfl rfl rfl ?_
                        refine x_lconst (v := 0) rfl rfl (by decide +kernel) ?_
                        refine x_lc_ne rfl rfl rfl rfl (fun hc308 => ?_) (fun hc308 => ?_)
                        · refine x_iconstN (b := 3) rfl rfl ?_
                          refine x_istore rfl rfl rfl rfl ?_
                          refine x_iload rfl rfl rfl ?_
                          refine x_if_eq rfl rfl (fun hc309 => absurd hc309 (by decide +kernel)) (fun _ => ?_)
                          refine x_aload_n rfl rfl rfl ?_
                          refine x_lload_n rfl rfl rfl ?_
                          refine x_iload_n rfl rfl rfl ?_
                          refine x_iload rfl rfl rfl ?_
                          refine x_lload rfl rfl rfl ?_
                          refine x_lload rfl rfl rfl ?_
                          refine x_lload rfl rfl rfl ?_
                          exact absurd (by unfold cbm; simp_all) hb
                        · refine x_iconstN (b := 2) rfl rfl ?_
                          refine x_goto rfl rfl ?_
                          refine x_istore rfl rfl rfl rfl ?_
                          refine x_iload rfl rfl rfl ?_
                          refine x_if_eq rfl rfl (fun hc310 => absurd hc310 (by decide +kernel)) (fun _ => ?_)
                          refine x_aload_n rfl rfl rfl ?_
                          refine x_lload_n rfl rfl rfl ?_
                          refine x_iload_n rfl rfl rfl ?_
                          refine x_iload rfl rfl rfl ?_
                          refine x_lload rfl rfl rfl ?_
                          refine x_lload rfl rfl rfl ?_
                          refine x_lload rfl rfl rfl ?_
                          exact absurd (by unfold cbm; simp_all) hb
                      · refine x_iconstN (b := 1) rfl rfl ?_
                        refine x_goto rfl rfl ?_
                        refine x_istore rfl rfl rfl rfl ?_
                        refine x_iload rfl rfl rfl ?_
                        refine x_if_eq rfl rfl (fun hc311 => absurd hc311 (by decide +kernel)) (fun _ => ?_)
                        refine x_aload_n rfl rfl rfl ?_
                        refine x_lload_n rfl rfl rfl ?_
                        refine x_iload_n rfl rfl rfl ?_
                        refine x_iload rfl rfl rfl ?_
                        refine x_lload rfl rfl rfl ?_
                        refine x_lload rfl rfl rfl ?_
                        refine x_lload rfl rfl rfl ?_
                        exact absurd (by unfold cbm; simp_all) hb
                    · refine x_iconstN (b := 0) rfl rfl ?_
                      refine x_goto rfl rfl ?_
                      refine x_istore rfl rfl rfl rfl ?_
                      refine x_iload rfl rfl rfl ?_
                      refine x_if_eq rfl rfl (fun hc312 => absurd hc312 (by decide +kernel)) (fun _ => ?_)
                      refine x_aload_n rfl rfl rfl ?_
                      refine x_lload_n rfl rfl rfl ?_
                      refine x_iload_n rfl rfl rfl ?_
                      refine x_iload rfl rfl rfl ?_
                      refine x_lload rfl rfl rfl ?_
                      refine x_lload rfl rfl rfl ?_
                      refine x_lload rfl rfl rfl ?_
                      exact absurd (by unfold cbm; simp_all) hb
                  · refine x_lload rfl rfl rfl ?_
                    refine x_lload rfl rfl rfl ?_
                    refine x_lc_eq rfl rfl rfl rfl (fun hc313 => ?_) (fun hc313 => ?_)
                    · refine x_iconstN (b := 0) rfl rfl ?_
                      refine x_istore rfl rfl rfl rfl ?_
                      refine x_lload rfl rfl rfl ?_
                      refine x_lconst (v := 0) rfl rfl (by decide +kernel) ?_
                      refine x_lc_ne rfl rfl rfl rfl (fun hc314 => ?_) (fun hc314 => ?_)
                      · refine x_lload rfl rfl rfl ?_
                        refine x_lconst (v := 0) rfl rfl (by decide +kernel) ?_
                        refine x_lc_ne rfl rfl rfl rfl (fun hc315 => ?_) (fun hc315 => ?_)
                        · refine x_lload rfl rfl rfl ?_
                          refine x_lconst (v := 0) rfl rfl (by decide +kernel) ?_
                          refine x_lc_ne rfl rfl rfl rfl (fun hc316 => ?_) (fun hc316 => ?_)
                          · refine x_iconstN (b := 3) rfl rfl ?_
                            refine x_istore rfl rfl rfl rfl ?_
                            refine x_iload rfl rfl rfl ?_
                            refine x_if_eq rfl rfl (fun _ => ?_) (fun hc317 => absurd hc317 (by decide +kernel))
                            refine x_iconst (v := -1) rfl rfl (by decide +kernel) ?_
                            refine x_istore rfl rfl rfl rfl ?_
                            refine x_aload_n rfl rfl rfl ?_
                            refine x_iload rfl rfl rfl ?_
                            refine x_if_ne rfl rfl (fun hc318 => absurd hc318 (by decide +kernel)) (fun _ => ?_)
                            refine x_iconstN (b := 1) rfl rfl ?_
                            refine x_goto rfl rfl ?_
                            refine x_putI rfl rfl f_9_97 rfl rfl (by decide) rfl ?_
                            refine x_aload_n rfl rfl rfl ?_
                            refine x_getIv (v := nI 1) (by first | rfl | simp [ui, ul]) rfl rfl f_9_97 rfl (by decide) rfl ?_
                            refine x_if_le rfl rfl (fun hc319 => absurd hc319 (by decide +kernel)) (fun _ => ?_)
                            refine x_iconstN (b := 0) rfl rfl ?_
                            exact x_retI rfl rfl rfl (by omega) rfl rfl
                          · refine x_iconstN (b := 2) rfl rfl ?_
                            refine x_goto rfl rfl ?_
                            refine x_istore rfl rfl rfl rfl ?_
                            refine x_iload rfl rfl rfl ?_
                            refine x_if_eq rfl rfl (fun _ => ?_) (fun hc320 => absurd hc320 (by decide +kernel))
                            refine x_iconst (v := -1) rfl rfl (by decide +kernel) ?_
                            refine x_istore rfl rfl rfl rfl ?_
                            refine x_aload_n rfl rfl rfl ?_
                            refine x_iload rfl rfl rfl ?_
                            refine x_if_ne rfl rfl (fun hc321 => absurd hc321 (by decide +kernel)) (fun _ => ?_)
                            refine x_iconstN (b := 1) rfl rfl ?_
                            refine x_goto rfl rfl ?_
                            refine x_putI rfl rfl f_9_97 rfl rfl (by decide) rfl ?_
                            refine x_aload_n rfl rfl rfl ?_
                            refine x_getIv (v := nI 1) (by first | rfl | simp [ui, ul]) rfl rfl f_9_97 rfl (by decide) rfl ?_
                            refine x_if_le rfl rfl (fun hc322 => absurd hc322 (by decide +kernel)) (fun _ => ?_)
                            refine x_iconstN (b := 0) rfl rfl ?_
                            exact x_retI rfl rfl rfl (by omega) rfl rfl
                        · refine x_iconstN (b := 1) rfl rfl ?_
                          refine x_goto rfl rfl ?_
                          refine x_istore rfl rfl rfl rfl ?_
                          refine x_iload rfl rfl rfl ?_
                          refine x_if_eq rfl rfl (fun _ => ?_) (fun hc323 => absurd hc323 (by decide +kernel))
                          refine x_iconst (v := -1) rfl rfl (by decide +kernel) ?_
                          refine x_istore rfl rfl rfl rfl ?_
                          refine x_aload_n rfl rfl rfl ?_
                          refine x_iload rfl rfl rfl ?_
                          refine x_if_ne rfl rfl (fun hc324 => absurd hc324 (by decide +kernel)) (fun _ => ?_)
                          refine x_iconstN (b := 1) rfl rfl ?_
                          refine x_goto rfl rfl ?_
                          refine x_putI rfl rfl f_9_97 rfl rfl (by decide) rfl ?_
                          refine x_aload_n rfl rfl rfl ?_
                          refine x_getIv (v := nI 1) (by first | rfl | simp [ui, ul]) rfl rfl f_9_97 rfl (by decide) rfl ?_
                          refine x_if_le rfl rfl (fun hc325 => absurd hc325 (by decide +kernel)) (fun _ => ?_)
                          refine x_iconstN (b := 0) rfl rfl ?_
                          exact x_retI rfl rfl rfl (by omega) rfl rfl
                      · refine x_iconstN (b := 0) rfl rfl ?_
                        refine x_goto rfl rfl ?_
                        refine x_istore rfl rfl rfl rfl ?_
                        refine x_iload rfl rfl rfl ?_
                        refine x_if_eq rfl rfl (fun _ => ?_) (fun hc326 => absurd hc326 (by decide +kernel))
                        refine x_iconst (v := -1) rfl rfl (by decide +kernel) ?_
                        refine x_istore rfl rfl rfl rfl ?_
                        refine x_aload_n rfl rfl rfl ?_
                        refine x_iload rfl rfl rfl ?_
                        refine x_if_ne rfl rfl (fun hc327 => absurd hc327 (by decide +kernel)) (fun _ => ?_)
                        refine x_iconstN (b := 1) rfl rfl ?_
                        refine x_goto rfl rfl ?_
                        refine x_putI rfl rfl f_9_97 rfl rfl (by decide) rfl ?_
                        refine x_aload_n rfl rfl rfl ?_
                        refine x_getIv (v := nI 1) (by first | rfl | simp [ui, ul]) rfl rfl f_9_97 rfl (by decide) rfl ?_
                        refine x_if_le rfl rfl (fun hc328 => absurd hc328 (by decide +kernel)) (fun _ => ?_)
                        refine x_iconstN (b := 0) rfl rfl ?_
                        exact x_retI rfl rfl rfl (by omega) rfl rfl
                    · refine x_iconstN (b := 1) rfl rfl ?_
                      refine x_goto rfl rfl ?_
                      refine x_istore rfl rfl rfl rfl ?_
                      refine x_lload rfl rfl rfl ?_
                      refine x_lconst (v := 0) rfl rfl (by decide +kernel) ?_
                      refine x_lc_ne rfl rfl rfl rfl (fun hc329 => ?_) (fun hc329 => ?_)
                      · refine x_lload rfl rfl rfl ?_
                        refine x_lconst (v := 0) rfl rfl (by decide +kernel) ?_
                        refine x_lc_ne rfl rfl rfl rfl (fun hc330 => ?_) (fun hc330 => ?_)
                        · refine x_lload rfl rfl rfl ?_
                          refine x_lconst (v := 0) rfl rfl (by decide +kernel) ?_
                          refine x_lc_ne rfl rfl rfl rfl (fun hc331 => ?_) (fun hc331 => ?_)
                          · refine x_iconstN (b := 3) rfl rfl ?_
                            refine x_istore rfl rfl rfl rfl ?_
                            refine x_iload rfl rfl rfl ?_
                            refine x_if_eq rfl rfl (fun hc332 => absurd hc332 (by decide +kernel)) (fun _ => ?_)
                            refine x_aload_n rfl rfl rfl ?_
                            refine x_lload_n rfl rfl rfl ?_
                            refine x_iload_n rfl rfl rfl ?_
                            refine x_iload rfl rfl rfl ?_
                            refine x_lload rfl rfl rfl ?_
                            refine x_lload rfl rfl rfl ?_
                            refine x_lload rfl rfl rfl ?_
                            exact absurd (by unfold cbm; simp_all) hb
                          · refine x_iconstN (b := 2) rfl rfl ?_
                            refine x_goto rfl rfl ?_
                            refine x_istore rfl rfl rfl rfl ?_
                            refine x_iload rfl rfl rfl ?_
                            refine x_if_eq rfl rfl (fun hc333 => absurd hc333 (by decide +kernel)) (fun _ => ?_)
                            refine x_aload_n rfl rfl rfl ?_
                            refine x_lload_n rfl rfl rfl ?_
                            refine x_iload_n rfl rfl rfl ?_
                            refine x_iload rfl rfl rfl ?_
                            refine x_lload rfl rfl rfl ?_
                            refine x_lload rfl rfl rfl ?_
                            refine x_lload rfl rfl rfl ?_
                            exact absurd (by unfold cbm; simp_all) hb
                        · refine x_iconstN (b := 1) rfl rfl ?_
                          refine x_goto rfl rfl ?_
                          refine x_istore rfl rfl rfl rfl ?_
                          refine x_iload rfl rfl rfl ?_
                          refine x_if_eq rfl rfl (fun hc334 => absurd hc334 (by decide +kernel)) (fun _ => ?_)
                          refine x_aload_n rfl rfl rfl ?_
                          refine x_lload_n rfl rfl rfl ?_
                          refine x_iload_n rfl rfl rfl ?_
                          refine x_iload rfl rfl rfl ?_
                          refine x_lload rfl rfl rfl ?_
                          refine x_lload rfl rfl rfl ?_
                          refine x_lload rfl rfl rfl ?_
                          exact absurd (by unfold cbm; simp_all) hb
                      · refine x_iconstN (b := 0) rfl rfl ?_
                        refine x_goto rfl rfl ?_
                        refine x_istore rfl rfl rfl rfl ?_
                        refine x_iload rfl rfl rfl ?_
                        refine x_if_eq rfl rfl (fun hc335 => absurd hc335 (by decide +kernel)) (fun _ => ?_)
                        refine x_aload_n rfl rfl rfl ?_
                        refine x_lload_n rfl rfl rfl ?_
                        refine x_iload_n rfl rfl rfl ?_
                        refine x_iload rfl rfl rfl ?_
                        refine x_lload rfl rfl rfl ?_
                        refine x_lload rfl rfl rfl ?_
                        refine x_lload rfl rfl rfl ?_
                        exact absurd (by unfold cbm; simp_all) hb
                · refine x_lload rfl rfl rfl ?_
                  refine x_lload rfl rfl rfl ?_
                  refine x_lc_eq rfl rfl rfl rfl (fun hc336 => ?_) (fun hc336 => ?_)
                  · refine x_iconstN (b := 0) rfl rfl ?_
                    refine x_istore rfl rfl rfl rfl ?_
                    refine x_lload rfl rfl rfl ?_
                    refine x_lconst (v := 0) rfl rfl (by decide +kernel) ?_
                    refine x_lc_ne rfl rfl rfl rfl (fun hc337 => ?_) (fun hc337 => ?_)
                    · refine x_lload rfl rfl rfl ?_
                      refine x_lconst (v := 0) rfl rfl (by decide +kernel) ?_
                      refine x_lc_ne rfl rfl rfl rfl (fun hc338 => ?_) (fun hc338 => ?_)
                      · refine x_lload rfl rfl rfl ?_
                        refine x_lconst (v := 0) rfl rfl (by decide +kernel) ?_
                        refine x_lc_ne rfl rfl rfl rfl (fun hc339 => ?_) (fun hc339 => ?_)
                        · refine x_iconstN (b := 3) rfl rfl ?_
                          refine x_istore rfl rfl rfl rfl ?_
                          refine x_iload rfl rfl rfl ?_
                          refine x_if_eq rfl rfl (fun _ => ?_) (fun hc340 => absurd hc340 (by decide +kernel))
                          refine x_iconst (v := -1) rfl rfl (by decide +kernel) ?_
                          refine x_istore rfl rfl rfl rfl ?_
                          refine x_aload_n rfl rfl rfl ?_
                          refine x_iload rfl rfl rfl ?_
                          refine x_if_ne rfl rfl (fun hc341 => absurd hc341 (by decide +kernel)) (fun _ => ?_)
                          refine x_iconstN (b := 1) rfl rfl ?_
                          refine x_goto rfl rfl ?_
                          refine x_putI rfl rfl f_9_97 rfl rfl (by decide) rfl ?_
                          refine x_aload_n rfl rfl rfl ?_
                          refine x_getIv (v := nI 1) (by first | rfl | simp [ui, ul]) rfl rfl f_9_97 rfl (by decide) rfl ?_
                          refine x_if_le rfl rfl (fun hc342 => absurd hc342 (by decide +kernel)) (fun _ => ?_)
                          refine x_iconstN (b := 0) rfl rfl ?_
                          exact x_retI rfl rfl rfl (by omega) rfl rfl
                        · refine x_iconstN (b := 2) rfl rfl ?_
                          refine x_goto rfl rfl ?_
                          refine x_istore rfl rfl rfl rfl ?_
                          refine x_iload rfl rfl rfl ?_
                          refine x_if_eq rfl rfl (fun _ => ?_) (fun hc343 => absurd hc343 (by decide +kernel))
                          refine x_iconst (v := -1) rfl rfl (by decide +kernel) ?_
                          refine x_istore rfl rfl rfl rfl ?_
                          refine x_aload_n rfl rfl rfl ?_
                          refine x_iload rfl rfl rfl ?_
                          refine x_if_ne rfl rfl (fun hc344 => absurd hc344 (by decide +kernel)) (fun _ => ?_)
                          refine x_iconstN (b := 1) rfl rfl ?_
                          refine x_goto rfl rfl ?_
                          refine x_putI rfl rfl f_9_97 rfl rfl (by decide) rfl ?_
                          refine x_aload_n rfl rfl rfl ?_
                          refine x_getIv (v := nI 1) (by first | rfl | simp [ui, ul]) rfl rfl f_9_97 rfl (by decide) rfl ?_
                          refine x_if_le rfl rfl (fun hc345 => absurd hc345 (by decide +kernel)) (fun _ => ?_)
                          refine x_iconstN (b := 0) rfl rfl ?_
                          exact x_retI rfl rfl rfl (by omega) rfl rfl
                      · refine x_iconstN (b := 1) rfl rfl ?_
                        refine x_goto rfl rfl ?_
                        refine x_istore rfl rfl rfl rfl ?_
                        refine x_iload rfl rfl rfl ?_
                        refine x_if_eq rfl rfl (fun _ => ?_) (fun hc346 => absurd hc346 (by decide +kernel))
                        refine x_iconst (v := -1) rfl rfl (by decide +kernel) ?_
                        refine x_istore rfl rfl rfl rfl ?_
                        refine x_aload_n rfl rfl rfl ?_
                        refine x_iload rfl rfl rfl ?_
                        refine x_if_ne rfl rfl (fun hc347 => absurd hc347 (by decide +kernel)) (fun _ => ?_)
                        refine x_iconstN (b := 1) rfl rfl ?_
                        refine x_goto rfl rfl ?_
                        refine x_putI rfl rfl f_9_97 rfl rfl (by decide) rfl ?_
                        refine x_aload_n rfl rfl rfl ?_
                        refine x_getIv (v := nI 1) (by first | rfl | simp [ui, ul]) rfl rfl f_9_97 rfl (by decide) rfl ?_
                        refine x_if_le rfl rfl (fun hc348 => absurd hc348 (by decide +kernel)) (fun _ => ?_)
                        refine x_iconstN (b := 0) rfl rfl ?_
                        exact x_retI rfl rfl rfl (by omega) rfl rfl
                    · refine x_iconstN (b := 0) rfl rfl ?_
                      refine x_goto rfl rfl ?_
                      refine x_istore rfl rfl rfl rfl ?_
                      refine x_iload rfl rfl rfl ?_
                      refine x_if_eq rfl rfl (fun _ => ?_) (fun hc349 => absurd hc349 (by decide +kernel))
                      refine x_iconst (v := -1) rfl rfl (by decide +kernel) ?_
                      refine x_istore rfl rfl rfl rfl ?_
                      refine x_aload_n rfl rfl rfl ?_
                      refine x_iload rfl rfl rfl ?_
                      refine x_if_ne rfl rfl (fun hc350 => absurd hc350 (by decide +kernel)) (fun _ => ?_)
                      refine x_iconstN (b := 1) rfl rfl ?_
                      refine x_goto rfl rfl ?_
                      refine x_putI rfl rfl f_9_97 rfl rfl (by decide) rfl ?_
                      refine x_aload_n rfl rfl rfl ?_
                      refine x_getIv (v := nI 1) (by first | rfl | simp [ui, ul]) rfl rfl f_9_97 rfl (by decide) rfl ?_
                      refine x_if_le rfl rfl (fun hc351 => absurd hc351 (by decide +kernel)) (fun _ => ?_)
                      refine x_iconstN (b := 0) rfl rfl ?_
                      exact x_retI rfl rfl rfl (by omega) rfl rfl
                  · refine x_lload rfl rfl rfl ?_
                    refine x_lload rfl rfl rfl ?_
                    refine x_lc_eq rfl rfl rfl rfl (fun hc352 => ?_) (fun hc352 => ?_)
                    · refine x_iconstN (b := 0) rfl rfl ?_
                      refine x_istore rfl rfl rfl rfl ?_
                      refine x_lload rfl rfl rfl ?_
                      refine x_lconst (v := 0) rfl rfl (by decide +kernel) ?_
                      refine x_lc_ne rfl rfl rfl rfl (fun hc353 => ?_) (fun hc353 => ?_)
                      · refine x_lload rfl rfl rfl ?_
                        refine x_lconst (v := 0) rfl rfl (by decide +kernel) ?_
                        refine x_lc_ne rfl rfl rfl rfl (fun hc354 => ?_) (fun hc354 => ?_)
                        · refine x_lload rfl rfl rfl ?_
                          refine x_lconst (v := 0) rfl rfl (by decide +kernel) ?_
                          refine x_lc_ne rfl rfl rfl rfl (fun hc355 => ?_) (fun hc355 => ?_)
                          · refine x_iconstN (b := 3) rfl rfl ?_
                            refine x_istore rfl rfl rfl rfl ?_
                            refine x_iload rfl rfl rfl ?_
                            refine x_if_eq rfl rfl (fun _ => ?_) (fun hc356 => absurd hc356 (by decide +kernel))
                            refine x_iconst (v := -1) rfl rfl (by decide +kernel) ?_
                            refine x_istore rfl rfl rfl rfl ?_
                            refine x_aload_n rfl rfl rfl ?_
                            refine x_iload rfl rfl rfl ?_
                            refine x_if_ne rfl rfl (fun hc357 => absurd hc357 (by decide +kernel)) (fun _ => ?_)
                            refine x_iconstN (b := 1) rfl rfl ?_
                            refine x_goto rfl rfl ?_
                            refine x_putI rfl rfl f_9_97 rfl rfl (by decide) rfl ?_
                            refine x_aload_n rfl rfl rfl ?_
                            refine x_getIv (v := nI 1) (by first | rfl | simp [ui, ul]) rfl rfl f_9_97 rfl (by decide) rfl ?_
                            refine x_if_le rfl rfl (fun hc358 => absurd hc358 (by decide +kernel)) (fun _ => ?_)
                            refine x_iconstN (b := 0) rfl rfl ?_
                            exact x_retI rfl rfl rfl (by omega) rfl rfl
                          · refine x_iconstN (b := 2) rfl rfl ?_
                            refine x_goto rfl rfl ?_
                            refine x_istore rfl rfl rfl rfl ?_
                            refine x_iload rfl rfl rfl ?_
                            refine x_if_eq rfl rfl (fun _ => ?_) (fun hc359 => absurd hc359 (by decide +kernel))
                            refine x_iconst (v := -1) rfl rfl (by decide +kernel) ?_
                            refine x_istore rfl rfl rfl rfl ?_
                            refine x_aload_n rfl rfl rfl ?_
                            refine x_iload rfl rfl rfl ?_
                            refine x_if_ne rfl rfl (fun hc360 => absurd hc360 (by decide +kernel)) (fun _ => ?_)
                            refine x_iconstN (b := 1) rfl rfl ?_
                            refine x_goto rfl rfl ?_
                            refine x_putI rfl rfl f_9_97 rfl rfl (by decide) rfl ?_
                            refine x_aload_n rfl rfl rfl ?_
                            refine x_getIv (v := nI 1) (by first | rfl | simp [ui, ul]) rfl rfl f_9_97 rfl (by decide) rfl ?_
                            refine x_if_le rfl rfl (fun hc361 => absurd hc361 (by decide +kernel)) (fun _ => ?_)
                            refine x_iconstN (b := 0) rfl rfl ?_
                            exact x_retI rfl rfl rfl (by omega) rfl rfl
                        · refine x_iconstN (b := 1) rfl rfl ?_
                          refine x_goto rfl rfl ?_
                          refine x_istore rfl rfl rfl rfl ?_
                          refine x_iload rfl rfl rfl ?_
                          refine x_if_eq rfl rfl (fun _ => ?_) (fun hc362 => absurd hc362 (by decide +kernel))
                          refine x_iconst (v := -1) rfl rfl (by decide +kernel) ?_
                          refine x_istore rfl rfl rfl rfl ?_
                          refine x_aload_n rfl rfl rfl ?_
                          refine x_iload rfl rfl rfl ?_
                          refine x_if_ne rfl rfl (fun hc363 => absurd hc363 (by decide +kernel)) (fun _ => ?_)
                          refine x_iconstN (b := 1) rfl rfl ?_
                          refine x_goto rfl rfl ?_
                          refine x_putI rfl rfl f_9_97 rfl rfl (by decide) rfl ?_
                          refine x_aload_n rfl rfl rfl ?_
                          refine x_getIv (v := nI 1) (by first | rfl | simp [ui, ul]) rfl rfl f_9_97 rfl (by decide) rfl ?_
                          refine x_if_le rfl rfl (fun hc364 => absurd hc364 (by decide +kernel)) (fun _ => ?_)
                          refine x_iconstN (b := 0) rfl rfl ?_
                          exact x_retI rfl rfl rfl (by omega) rfl rfl
                      · refine x_iconstN (b := 0) rfl rfl ?_
                        refine x_goto rfl rfl ?_
                        refine x_istore rfl rfl rfl rfl ?_
                        refine x_iload rfl rfl rfl ?_
                        refine x_if_eq rfl rfl (fun _ => ?_) (fun hc365 => absurd hc365 (by decide +kernel))
                        refine x_iconst (v := -1) rfl rfl (by decide +kernel) ?_
                        refine x_istore rfl rfl rfl rfl ?_
                        refine x_aload_n rfl rfl rfl ?_
                        refine x_iload rfl rfl rfl ?_
                        refine x_if_ne rfl rfl (fun hc366 => absurd hc366 (by decide +kernel)) (fun _ => ?_)
                        refine x_iconstN (b := 1) rfl rfl ?_
                        refine x_goto rfl rfl ?_
                        refine x_putI rfl rfl f_9_97 rfl rfl (by decide) rfl ?_
                        refine x_aload_n rfl rfl rfl ?_
                        refine x_getIv (v := nI 1) (by first | rfl | simp [ui, ul]) rfl rfl f_9_97 rfl (by decide) rfl ?_
                        refine x_if_le rfl rfl (fun hc367 => absurd hc367 (by decide +kernel)) (fun _ => ?_)
                        refine x_iconstN (b := 0) rfl rfl ?_
                        exact x_retI rfl rfl rfl (by omega) rfl rfl
                    · refine x_lload rfl rfl rfl ?_
                      refine x_lconst (v := 0) rfl rfl (by decide +kernel) ?_
                      refine x_lc_eq rfl rfl rfl rfl (fun hc368 => ?_) (fun hc368 => ?_)
                      · refine x_iconstN (b := 1) rfl rfl ?_
                        refine x_goto rfl rfl ?_
                        refine x_istore rfl rfl rfl rfl ?_
                        refine x_lload rfl rfl rfl ?_
                        refine x_lconst (v := 0) rfl rfl (by decide +kernel) ?_
                        refine x_lc_ne rfl rfl rfl rfl (fun hc369 => ?_) (fun hc369 => ?_)
                        · refine x_lload rfl rfl rfl ?_
                          refine x_lconst (v := 0) rfl rfl (by decide +kernel) ?_
                          refine x_lc_ne rfl rfl rfl rfl (fun hc370 => ?_) (fun hc370 => ?_)
                          · refine x_lload rfl rfl rfl ?_
                            refine x_lconst (v := 0) rfl rfl (by decide +kernel) ?_
                            refine x_lc_ne rfl rfl rfl rfl (fun hc371 => ?_) (fun hc371 => ?_)
                            · refine x_iconstN (b := 3) rfl rfl ?_
                              refine x_istore rfl rfl rfl rfl ?_
                              refine x_iload rfl rfl rfl ?_
                              refine x_if_eq rfl rfl (fun hc372 => absurd hc372 (by decide +kernel)) (fun _ => ?_)
                              refine x_aload_n rfl rfl rfl ?_
                              refine x_lload_n rfl rfl rfl ?_
                              refine x_iload_n rfl rfl rfl ?_
                              refine x_iload rfl rfl rfl ?_
                              refine x_lload rfl rfl rfl ?_
                              refine x_lload rfl rfl rfl ?_
                              refine x_lload rfl rfl rfl ?_
                              exact absurd (by unfold cbm; simp_all) hb
                            · refine x_iconstN (b := 2) rfl rfl ?_
                              refine x_goto rfl rfl ?_
                              refine x_istore rfl rfl rfl rfl ?_
                              refine x_iload rfl rfl rfl ?_
                              refine x_if_eq rfl rfl (fun hc373 => absurd hc373 (by decide +kernel)) (fun _ => ?_)
                              refine x_aload_n rfl rfl rfl ?_
                              refine x_lload_n rfl rfl rfl ?_
                              refine x_iload_n rfl rfl rfl ?_
                              refine x_iload rfl rfl rfl ?_
                              refine x_lload rfl rfl rfl ?_
                              refine x_lload rfl rfl rfl ?_
                              refine x_lload rfl rfl rfl ?_
                              exact absurd (by unfold cbm; simp_all) hb
                          · refine x_iconstN (b := 1) rfl rfl ?_
                            refine x_goto rfl rfl ?_
                            refine x_istore rfl rfl rfl rfl ?_
                            refine x_iload rfl rfl rfl ?_
                            refine x_if_eq rfl rfl (fun hc374 => absurd hc374 (by decide +kernel)) (fun _ => ?_)
                            refine x_aload_n rfl rfl rfl ?_
                            refine x_lload_n rfl rfl rfl ?_
                            refine x_iload_n rfl rfl rfl ?_
                            refine x_iload rfl rfl rfl ?_
                            refine x_lload rfl rfl rfl ?_
                            refine x_lload rfl rfl rfl ?_
                            refine x_lload rfl rfl rfl ?_
                            exact absurd (by unfold cbm; simp_all) hb
                        · refine x_iconstN (b := 0) rfl rfl ?_
                          refine x_goto rfl rfl ?_
                          refine x_istore rfl rfl rfl rfl ?_
                          refine x_iload rfl rfl rfl ?_
                          refine x_if_eq rfl rfl (fun hc375 => absurd hc375 (by decide +kernel)) (fun _ => ?_)
                          refine x_aload_n rfl rfl rfl ?_
                          refine x_lload_n rfl rfl rfl ?_
                          refine x_iload_n rfl rfl rfl ?_
                          refine x_iload rfl rfl rfl ?_
                          refine x_lload rfl rfl rfl ?_
                          refine x_lload rfl rfl rfl ?_
                          refine x_lload rfl rfl rfl ?_
                          exact absurd (by unfold cbm; simp_all) hb
                      · refine x_lload rfl rfl rfl ?_
                        refine x_lload rfl rfl rfl ?_
                        refine x_lc_eq rfl rfl rfl rfl (fun hc376 => ?_) (fun hc376 => ?_)
                        · refine x_iconstN (b := 0) rfl rfl ?_
                          refine x_istore rfl rfl rfl rfl ?_
                          refine x_lload rfl rfl rfl ?_
                          refine x_lconst (v := 0) rfl rfl (by decide +kernel) ?_
                          refine x_lc_ne rfl rfl rfl rfl (fun hc377 => ?_) (fun hc377 => ?_)
                          · refine x_lload rfl rfl rfl ?_
                            refine x_lconst (v := 0) rfl rfl (by decide +kernel) ?_
                            refine x_lc_ne rfl rfl rfl rfl (fun hc378 => ?_) (fun hc378 => ?_)
                            · refine x_lload rfl rfl rfl ?_
                              refine x_lconst (v := 0) rfl rfl (by decide +kernel) ?_
                              refine x_lc_ne rfl rfl rfl rfl (fun hc379 => ?_) (fun hc379 => ?_)
                              · refine x_iconstN (b := 3) rfl rfl ?_
                                refine x_istore rfl rfl rfl rfl ?_
                                refine x_iload rfl rfl rfl ?_
                                refine x_if_eq rfl rfl (fun _ => ?_) (fun hc380 => absurd hc380 (by decide +kernel))
                                refine x_iconst (v := -1) rfl rfl (by decide +kernel) ?_
                                refine x_istore rfl rfl rfl rfl ?_
                                refine x_aload_n rfl rfl rfl ?_
                                refine x_iload rfl rfl rfl ?_
                                refine x_if_ne rfl rfl (fun hc381 => absurd hc381 (by decide +kernel)) (fun _ => ?_)
                                refine x_iconstN (b := 1) rfl rfl ?_
                                refine x_goto rfl rfl ?_
                                refine x_putI rfl rfl f_9_97 rfl rfl (by decide) rfl ?_
                                refine x_aload_n rfl rfl rfl ?_
                                refine x_getIv (v := nI 1) (by first | rfl | simp [ui, ul]) rfl rfl f_9_97 rfl (by decide) rfl ?_
                                refine x_if_le rfl rfl (fun hc382 => absurd hc382 (by decide +kernel)) (fun _ => ?_)
                                refine x_iconstN (b := 0) rfl rfl ?_
                                exact x_retI rfl rfl rfl (by omega) rfl rfl
                              · refine x_iconstN (b := 2) rfl rfl ?_
                                refine x_goto rfl rfl ?_
                                refine x_istore rfl rfl rfl rfl ?_
                                refine x_iload rfl rfl rfl ?_
                                refine x_if_eq rfl rfl (fun _ => ?_) (fun hc383 => absurd hc383 (by decide +kernel))
                                refine x_iconst (v := -1) rfl rfl (by decide +kernel) ?_
                                refine x_istore rfl rfl rfl rfl ?_
                                refine x_aload_n rfl rfl rfl ?_
                                refine x_iload rfl rfl rfl ?_
                                refine x_if_ne rfl rfl (fun hc384 => absurd hc384 (by decide +kernel)) (fun _ => ?_)
                                refine x_iconstN (b := 1) rfl rfl ?_
                                refine x_goto rfl rfl ?_
                                refine x_putI rfl rfl f_9_97 rfl rfl (by decide) rfl ?_
                                refine x_aload_n rfl rfl rfl ?_
                                refine x_getIv (v := nI 1) (by first | rfl | simp [ui, ul]) rfl rfl f_9_97 rfl (by decide) rfl ?_
                                refine x_if_le rfl rfl (fun hc385 => absurd hc385 (by decide +kernel)) (fun _ => ?_)
                                refine x_iconstN (b := 0) rfl rfl ?_
                                exact x_retI rfl rfl rfl (by omega) rfl rfl
                            · refine x_iconstN (b := 1) rfl rfl ?_
                              refine x_goto rfl rfl ?_
                              refine x_istore rfl rfl rfl rfl ?_
                              refine x_iload rfl rfl rfl ?_
                              refine x_if_eq rfl rfl (fun _ => ?_) (fun hc386 => absurd hc386 (by decide +kernel))
                              refine x_iconst (v := -1) rfl rfl (by decide +kernel) ?_
                              refine x_istore rfl rfl rfl rfl ?_
                              refine x_aload_n rfl rfl rfl ?_
                              refine x_iload rfl rfl rfl ?_
                              refine x_if_ne rfl rfl (fun hc387 => absurd hc387 (by decide +kernel)) (fun _ => ?_)
                              refine x_iconstN (b := 1) rfl rfl ?_
                              refine x_goto rfl rfl ?_
                              refine x_putI rfl rfl f_9_97 rfl rfl (by decide) rfl ?_
                              refine x_aload_n rfl rfl rfl ?_
                              refine x_getIv (v := nI 1) (by first | rfl | simp [ui, ul]) rfl rfl f_9_97 rfl (by decide) rfl ?_
                              refine x_if_le rfl rfl (fun hc388 => absurd hc388 (by decide +kernel)) (fun _ => ?_)
                              refine x_iconstN (b := 0) rfl rfl ?_
                              exact x_retI rfl rfl rfl (by omega) rfl rfl
                          · refine x_iconstN (b := 0) rfl rfl ?_
                            refine x_goto rfl rfl ?_
                            refine x_istore rfl rfl rfl rfl ?_
                            refine x_iload rfl rfl rfl ?_
                            refine x_if_eq rfl rfl (fun _ => ?_) (fun hc389 => absurd hc389 (by decide +kernel))
                            refine x_iconst (v := -1) rfl rfl (by decide +kernel) ?_
                            refine x_istore rfl rfl rfl rfl ?_
                            refine x_aload_n rfl rfl rfl ?_
                            refine x_iload rfl rfl rfl ?_
                            refine x_if_ne rfl rfl (fun hc390 => absurd hc390 (by decide +kernel)) (fun _ => ?_)
                            refine x_iconstN (b := 1) rfl rfl ?_
                            refine x_goto rfl rfl ?_
                            refine x_putI rfl rfl f_9_97 rfl rfl (by decide) rfl ?_
                            refine x_aload_n rfl rfl rfl ?_
                            refine x_getIv (v := nI 1) (by first | rfl | simp [ui, ul]) rfl rfl f_9_97 rfl (by decide) rfl ?_
                            refine x_if_le rfl rfl (fun hc391 => absurd hc391 (by decide +kernel)) (fun _ => ?_)
                            refine x_iconstN (b := 0) rfl rfl ?_
                            exact x_retI rfl rfl rfl (by omega) rfl rfl
                        · refine x_iconstN (b := 1) rfl rfl ?_
                          refine x_goto rfl rfl ?_
                          refine x_istore rfl rfl rfl rfl ?_
                          refine x_lload rfl rfl rfl ?_
                          refine x_lconst (v := 0) rfl rfl (by decide +kernel) ?_
                          refine x_lc_ne rfl rfl rfl rfl (fun hc392 => ?_) (fun hc392 => ?_)
                          · refine x_lload rfl rfl rfl ?_
                            refine x_lconst (v := 0) rfl rfl (by decide +kernel) ?_
                            refine x_lc_ne rfl rfl rfl rfl (fun hc393 => ?_) (fun hc393 => ?_)
                            · refine x_lload rfl rfl rfl ?_
                              refine x_lconst (v := 0) rfl rfl (by decide +kernel) ?_
                              refine x_lc_ne rfl rfl rfl rfl (fun hc394 => ?_) (fun hc394 => ?_)
                              · refine x_iconstN (b := 3) rfl rfl ?_
                                refine x_istore rfl rfl rfl rfl ?_
                                refine x_iload rfl rfl rfl ?_
                                refine x_if_eq rfl rfl (fun hc395 => absurd hc395 (by decide +kernel)) (fun _ => ?_)
                                refine x_aload_n rfl rfl rfl ?_
                                refine x_lload_n rfl rfl rfl ?_
                                refine x_iload_n rfl rfl rfl ?_
                                refine x_iload rfl rfl rfl ?_
                                refine x_lload rfl rfl rfl ?_
                                refine x_lload rfl rfl rfl ?_
                                refine x_lload rfl rfl rfl ?_
                                exact absurd (by unfold cbm; simp_all) hb
                              · refine x_iconstN (b := 2) rfl rfl ?_
                                refine x_goto rfl rfl ?_
                                refine x_istore rfl rfl rfl rfl ?_
                                refine x_iload rfl rfl rfl ?_
                                refine x_if_eq rfl rfl (fun hc396 => absurd hc396 (by decide +kernel)) (fun _ => ?_)
                                refine x_aload_n rfl rfl rfl ?_
                                refine x_lload_n rfl rfl rfl ?_
                                refine x_iload_n rfl rfl rfl ?_
                                refine x_iload rfl rfl rfl ?_
                                refine x_lload rfl rfl rfl ?_
                                refine x_lload rfl rfl rfl ?_
                                refine x_lload rfl rfl rfl ?_
                                exact absurd (by unfold cbm; simp_all) hb
                            · refine x_iconstN (b := 1) rfl rfl ?_
                              refine x_goto rfl rfl ?_
                              refine x_istore rfl rfl rfl rfl ?_
                              refine x_iload rfl rfl rfl ?_
                              refine x_if_eq rfl rfl (fun hc397 => absurd hc397 (by decide +kernel)) (fun _ => ?_)
                              refine x_aload_n rfl rfl rfl ?_
                              refine x_lload_n rfl rfl rfl ?_
                              refine x_iload_n rfl rfl rfl ?_
                              refine x_iload rfl rfl rfl ?_
                              refine x_lload rfl rfl rfl ?_
                              refine x_lload rfl rfl rfl ?_
                              refine x_lload rfl rfl rfl ?_
                              exact absurd (by unfold cbm; simp_all) hb
                          · refine x_iconstN (b := 0) rfl rfl ?_
                            refine x_goto rfl rfl ?_
                            refine x_istore rfl rfl rfl rfl ?_
                            refine x_iload rfl rfl rfl ?_
                            refine x_if_eq rfl rfl (fun hc398 => absurd hc398 (by decide +kernel)) (fun _ => ?_)
                            refine x_aload_n rfl rfl rfl ?_
                            refine x_lload_n rfl rfl rfl ?_
                            refine x_iload_n rfl rfl rfl ?_
                            refine x_iload rfl rfl rfl ?_
                            refine x_lload rfl rfl rfl ?_
                            refine x_lload rfl rfl rfl ?_
                            refine x_lload rfl rfl rfl ?_
                            exact absurd (by unfold cbm; simp_all) hb
              · refine x_lload rfl rfl rfl ?_
                refine x_lconst (v := 0) rfl rfl (by decide +kernel) ?_
                refine x_lc_ne rfl rfl rfl rfl (fun hc399 => ?_) (fun hc399 => ?_)
                · refine x_iconstN (b := 0) rfl rfl ?_
                  refine x_istore rfl rfl rfl rfl ?_
                  refine x_iload rfl rfl rfl ?_
                  refine x_if_eq rfl rfl (fun _ => ?_) (fun hc400 => absurd hc400 (by decide +kernel))
                  refine x_iconstN (b := 0) rfl rfl ?_
                  refine x_istore rfl rfl rfl rfl ?_
                  refine x_lload rfl rfl rfl ?_
                  refine x_lconst (v := 0) rfl rfl (by decide +kernel) ?_
                  refine x_lc_ne rfl rfl rfl rfl (fun hc401 => ?_) (fun hc401 => ?_)
                  · refine x_lload rfl rfl rfl ?_
                    refine x_lconst (v := 0) rfl rfl (by decide +kernel) ?_
                    refine x_lc_ne rfl rfl rfl rfl (fun hc402 => ?_) (fun hc402 => ?_)
                    · refine x_lload rfl rfl rfl ?_
                      refine x_lconst (v := 0) rfl rfl (by decide +kernel) ?_
                      refine x_lc_ne rfl rfl rfl rfl (fun hc403 => ?_) (fun hc403 => ?_)
                      · refine x_iconstN (b := 3) rfl rfl ?_
                        refine x_istore rfl rfl rfl rfl ?_
                        refine x_iload rfl rfl rfl ?_
                        refine x_if_eq rfl rfl (fun _ => ?_) (fun hc404 => absurd hc404 (by decide +kernel))
                        refine x_iconst (v := -1) rfl rfl (by decide +kernel) ?_
                        refine x_istore rfl rfl rfl rfl ?_
                        refine x_aload_n rfl rfl rfl ?_
                        refine x_iload rfl rfl rfl ?_
                        refine x_if_ne rfl rfl (fun hc405 => absurd hc405 (by decide +kernel)) (fun _ => ?_)
                        refine x_iconstN (b := 1) rfl rfl ?_
                        refine x_goto rfl rfl ?_
                        refine x_putI rfl rfl f_9_97 rfl rfl (by decide) rfl ?_
                        refine x_aload_n rfl rfl rfl ?_
                        refine x_getIv (v := nI 1) (by first | rfl | simp [ui, ul]) rfl rfl f_9_97 rfl (by decide) rfl ?_
                        refine x_if_le rfl rfl (fun hc406 => absurd hc406 (by decide +kernel)) (fun _ => ?_)
                        refine x_iconstN (b := 0) rfl rfl ?_
                        exact x_retI rfl rfl rfl (by omega) rfl rfl
                      · refine x_iconstN (b := 2) rfl rfl ?_
                        refine x_goto rfl rfl ?_
                        refine x_istore rfl rfl rfl rfl ?_
                        refine x_iload rfl rfl rfl ?_
                        refine x_if_eq rfl rfl (fun _ => ?_) (fun hc407 => absurd hc407 (by decide +kernel))
                        refine x_iconst (v := -1) rfl rfl (by decide +kernel) ?_
                        refine x_istore rfl rfl rfl rfl ?_
                        refine x_aload_n rfl rfl rfl ?_
                        refine x_iload rfl rfl rfl ?_
                        refine x_if_ne rfl rfl (fun hc408 => absurd hc408 (by decide +kernel)) (fun _ => ?_)
                        refine x_iconstN (b := 1) rfl rfl ?_
                        refine x_goto rfl rfl ?_
                        refine x_putI rfl rfl f_9_97 rfl rfl (by decide) rfl ?_
                        refine x_aload_n rfl rfl rfl ?_
                        refine x_getIv (v := nI 1) (by first | rfl | simp [ui, ul]) rfl rfl f_9_97 rfl (by decide) rfl ?_
                        refine x_if_le rfl rfl (fun hc409 => absurd hc409 (by decide +kernel)) (fun _ => ?_)
                        refine x_iconstN (b := 0) rfl rfl ?_
                        exact x_retI rfl rfl rfl (by omega) rfl rfl
                    · refine x_iconstN (b := 1) rfl rfl ?_
                      refine x_goto rfl rfl ?_
                      refine x_istore rfl rfl rfl rfl ?_
                      refine x_iload rfl rfl rfl ?_
                      refine x_if_eq rfl rfl (fun _ => ?_) (fun hc410 => absurd hc410 (by decide +kernel))
                      refine x_iconst (v := -1) rfl rfl (by decide +kernel) ?_
                      refine x_istore rfl rfl rfl rfl ?_
                      refine x_aload_n rfl rfl rfl ?_
                      refine x_iload rfl rfl rfl ?_
                      refine x_if_ne rfl rfl (fun hc411 => absurd hc411 (by decide +kernel)) (fun _ => ?_)
                      refine x_iconstN (b := 1) rfl rfl ?_
                      refine x_goto rfl rfl ?_
                      refine x_putI rfl rfl f_9_97 rfl rfl (by decide) rfl ?_
                      refine x_aload_n rfl rfl rfl ?_
                      refine x_getIv (v := nI 1) (by first | rfl | simp [ui, ul]) rfl rfl f_9_97 rfl (by decide) rfl ?_
                      refine x_if_le rfl rfl (fun hc412 => absurd hc412 (by decide +kernel)) (fun _ => ?_)
                      refine x_iconstN (b := 0) rfl rfl ?_
                      exact x_retI rfl rfl rfl (by omega) rfl rfl
                  · refine x_iconstN (b := 0) rfl rfl ?_
                    refine x_goto rfl rfl ?_
                    refine x_istore rfl rfl rfl rfl ?_
                    refine x_iload rfl rfl rfl ?_
                    refine x_if_eq rfl rfl (fun _ => ?_) (fun hc413 => absurd hc413 (by decide +kernel))
                    refine x_iconst (v := -1) rfl rfl (by decide +kernel) ?_
                    refine x_istore rfl rfl rfl rfl ?_
                    refine x_aload_n rfl rfl rfl ?_
                    refine x_iload rfl rfl rfl ?_
                    refine x_if_ne rfl rfl (fun hc414 => absurd hc414 (by decide +kernel)) (fun _ => ?_)
                    refine x_iconstN (b := 1) rfl rfl ?_
                    refine x_goto rfl rfl ?_
                    refine x_putI rfl rfl f_9_97 rfl rfl (by decide) rfl ?_
                    refine x_aload_n rfl rfl rfl ?_
                    refine x_getIv (v := nI 1) (by first | rfl | simp [ui, ul]) rfl rfl f_9_97 rfl (by decide) rfl ?_
                    refine x_if_le rfl rfl (fun hc415 => absurd hc415 (by decide +kernel)) (fun _ => ?_)
                    refine x_iconstN (b := 0) rfl rfl ?_
                    exact x_retI rfl rfl rfl (by omega) rfl rfl
                · refine x_iconstN (b := 1) rfl rfl ?_
                  refine x_goto rfl rfl ?_
                  refine x_istore rfl rfl rfl rfl ?_
                  refine x_iload rfl rfl rfl ?_
                  refine x_if_eq rfl rfl (fun hc416 => absurd hc416 (by decide +kernel)) (fun _ => ?_)
                  refine x_lload rfl rfl rfl ?_
                  refine x_lconst (v := 0) rfl rfl (by decide +kernel) ?_
                  refine x_lc_eq rfl rfl rfl rfl (fun hc417 => ?_) (fun hc417 => ?_)
                  · refine x_lload rfl rfl rfl ?_
                    refine x_lconst (v := 0) rfl rfl (by decide +kernel) ?_
                    refine x_lc_eq rfl rfl rfl rfl (fun hc418 => ?_) (fun hc418 => ?_)
                    · refine x_iconstN (b := 1) rfl rfl ?_
                      refine x_goto rfl rfl ?_
                      refine x_istore rfl rfl rfl rfl ?_
                      refine x_lload rfl rfl rfl ?_
                      refine x_lconst (v := 0) rfl rfl (by decide +kernel) ?_
                      refine x_lc_ne rfl rfl rfl rfl (fun hc419 => ?_) (fun hc419 => ?_)
                      · refine x_lload rfl rfl rfl ?_
                        refine x_lconst (v := 0) rfl rfl (by decide +kernel) ?_
                        refine x_lc_ne rfl rfl rfl rfl (fun hc420 => ?_) (fun hc420 => ?_)
                        · refine x_lload rfl rfl rfl ?_
                          refine x_lconst (v := 0) rfl rfl (by decide +kernel) ?_
                          refine x_lc_ne rfl rfl rfl rfl (fun hc421 => ?_) (fun hc421 => ?_)
                          · refine x_iconstN (b := 3) rfl rfl ?_
                            refine x_istore rfl rfl rfl rfl ?_
                            refine x_iload rfl rfl rfl ?_
                            refine x_if_eq rfl rfl (fun hc422 => absurd hc422 (by decide +kernel)) (fun _ => ?_)
                            refine x_aload_n rfl rfl rfl ?_
                            refine x_lload_n rfl rfl rfl ?_
                            refine x_iload_n rfl rfl rfl ?_
                            refine x_iload rfl rfl rfl ?_
                            refine x_lload rfl rfl rfl ?_
                            refine x_lload rfl rfl rfl ?_
                            refine x_lload rfl rfl rfl ?_
                            exact absurd (by unfold cbm; simp_all) hb
                          · refine x_iconstN (b := 2) rfl rfl ?_
                            refine x_goto rfl rfl ?_
                            refine x_istore rfl rfl rfl rfl ?_
                            refine x_iload rfl rfl rfl ?_
                            refine x_if_eq rfl rfl (fun hc423 => absurd hc423 (by decide +kernel)) (fun _ => ?_)
                            refine x_aload_n rfl rfl rfl ?_
                            refine x_lload_n rfl rfl rfl ?_
                            refine x_iload_n rfl rfl rfl ?_
                            refine x_iload rfl rfl rfl ?_
                            refine x_lload rfl rfl rfl ?_
                            refine x_lload rfl rfl rfl ?_
                            refine x_lload rfl rfl rfl ?_
                            exact absurd (by unfold cbm; simp_all) hb
                        · refine x_iconstN (b := 1) rfl rfl ?_
                          refine x_goto rfl rfl ?_
                          refine x_istore rfl rfl rfl rfl ?_
                          refine x_iload rfl rfl rfl ?_
                          refine x_if_eq rfl rfl (fun hc424 => absurd hc424 (by decide +kernel)) (fun _ => ?_)
                          refine x_aload_n rfl rfl rfl ?_
                          refine x_lload_n rfl rfl rfl ?_
                          refine x_iload_n rfl rfl rfl ?_
                          refine x_iload rfl rfl rfl ?_
                          refine x_lload rfl rfl rfl ?_
                          refine x_lload rfl rfl rfl ?_
                          refine x_lload rfl rfl rfl ?_
                          exact absurd (by unfold cbm; simp_all) hb
                      · refine x_iconstN (b := 0) rfl rfl ?_
                        refine x_goto rfl rfl ?_
                        refine x_istore rfl rfl rfl rfl ?_
                        refine x_iload rfl rfl rfl ?_
                        refine x_if_eq rfl rfl (fun hc425 => absurd hc425 (by decide +kernel)) (fun _ => ?_)
                        refine x_aload_n rfl rfl rfl ?_
                        refine x_lload_n rfl rfl rfl ?_
                        refine x_iload_n rfl rfl rfl ?_
                        refine x_iload rfl rfl rfl ?_
                        refine x_lload rfl rfl rfl ?_
                        refine x_lload rfl rfl rfl ?_
                        refine x_lload rfl rfl rfl ?_
                        exact absurd (by unfold cbm; simp_all) hb
                    · refine x_lload rfl rfl rfl ?_
                      refine x_lload rfl rfl rfl ?_
                      refine x_lc_eq rfl rfl rfl rfl (fun hc426 => ?_) (fun hc426 => ?_)
                      · refine x_iconstN (b := 0) rfl rfl ?_
                        refine x_istore rfl rfl rfl rfl ?_
                        refine x_lload rfl rfl rfl ?_
                        refine x_lconst (v := 0) rfl rfl (by decide +kernel) ?_
                        refine x_lc_ne rfl rfl rfl rfl (fun hc427 => ?_) (fun hc427 => ?_)
                        · refine x_lload rfl rfl rfl ?_
                          refine x_lconst (v := 0) rfl rfl (by decide +kernel) ?_
                          refine x_lc_ne rfl rfl rfl rfl (fun hc428 => ?_) (fun hc428 => ?_)
                          · refine x_lload rfl rfl rfl ?_
                            refine x_lconst (v := 0) rfl rfl (by decide +kernel) ?_
                            refine x_lc_ne rfl rfl rfl rfl (fun hc429 => ?_) (fun hc429 => ?_)
                            · refine x_iconstN (b := 3) rfl rfl ?_
                              refine x_istore rfl rfl rfl rfl ?_
                              refine x_iload rfl rfl rfl ?_
                              refine x_if_eq rfl rfl (fun _ => ?_) (fun hc430 => absurd hc430 (by decide +kernel))
                              refine x_iconst (v := -1) rfl rfl (by decide +kernel) ?_
                              refine x_istore rfl rfl rfl rfl ?_
                              refine x_aload_n rfl rfl rfl ?_
                              refine x_iload rfl rfl rfl ?_
                              refine x_if_ne rfl rfl (fun hc431 => absurd hc431 (by decide +kernel)) (fun _ => ?_)
                              refine x_iconstN (b := 1) rfl rfl ?_
                              refine x_goto rfl rfl ?_
                              refine x_putI rfl rfl f_9_97 rfl rfl (by decide) rfl ?_
                              refine x_aload_n rfl rfl rfl ?_
                              refine x_getIv (v := nI 1) (by first | rfl | simp [ui, ul]) rfl rfl f_9_97 rfl (by decide) rfl ?_
                              refine x_if_le rfl rfl (fun hc432 => absurd hc432 (by decide +kernel)) (fun _ => ?_)
                              refine x_iconstN (b := 0) rfl rfl ?_
                              exact x_retI rfl rfl rfl (by omega) rfl rfl
                            · refine x_iconstN (b := 2) rfl rfl ?_
                              refine x_goto rfl rfl ?_
                              refine x_istore rfl rfl rfl rfl ?_
                              refine x_iload rfl rfl rfl ?_
                              refine x_if_eq rfl rfl (fun _ => ?_) (fun hc433 => absurd hc433 (by decide +kernel))
                              refine x_iconst (v := -1) rfl rfl (by decide +kernel) ?_
                              refine x_istore rfl rfl rfl rfl ?_
                              refine x_aload_n rfl rfl rfl ?_
                              refine x_iload rfl rfl rfl ?_
                              refine x_if_ne rfl rfl (fun hc434 => absurd hc434 (by decide +kernel)) (fun _ => ?_)
                              refine x_iconstN (b := 1) rfl rfl ?_
                              refine x_goto rfl rfl ?_
                              refine x_putI rfl rfl f_9_97 rfl rfl (by decide) rfl ?_
                              refine x_aload_n rfl rfl rfl ?_
                              refine x_getIv (v := nI 1) (by first | rfl | simp [ui, ul]) rfl rfl f_9_97 rfl (by decide) rfl ?_
                              refine x_if_le rfl rfl (fun hc435 => absurd hc435 (by decide +kernel)) (fun _ => ?_)
                              refine x_iconstN (b := 0) rfl rfl ?_
                              exact x_retI rfl rfl rfl (by omega) rfl rfl
                          · refine x_iconstN (b := 1) rfl rfl ?_
                            refine x_goto rfl rfl ?_
                            refine x_istore rfl rfl rfl rfl ?_
                            refine x_iload rfl rfl rfl ?_
                            refine x_if_eq rfl rfl (fun _ => ?_) (fun hc436 => absurd hc436 (by decide +kernel))
                            refine x_iconst (v := -1) rfl rfl (by decide +kernel) ?_
                            refine x_istore rfl rfl rfl rfl ?_
                            refine x_aload_n rfl rfl rfl ?_
                            refine x_iload rfl rfl rfl ?_
                            refine x_if_ne rfl rfl (fun hc437 => absurd hc437 (by decide +kernel)) (fun _ => ?_)
                            refine x_iconstN (b := 1) rfl rfl ?_
                            refine x_goto rfl rfl ?_
                            refine x_putI rfl rfl f_9_97 rfl rfl (by decide) rfl ?_
                            refine x_aload_n rfl rfl rfl ?_
                            refine x_getIv (v := nI 1) (by first | rfl | simp [ui, ul]) rfl rfl f_9_97 rfl (by decide) rfl ?_
                            refine x_if_le rfl rfl (fun hc438 => absurd hc438 (by decide +kernel)) (fun _ => ?_)
                            refine x_iconstN (b := 0) rfl rfl ?_
                            exact x_retI rfl rfl rfl (by omega) rfl rfl
                        · refine x_iconstN (b := 0) rfl rfl ?_
                          refine x_goto rfl rfl ?_
                          refine x_istore rfl rfl rfl rfl ?_
                          refine x_iload rfl rfl rfl ?_
                          refine x_if_eq rfl rfl (fun _ => ?_) (fun hc439 => absurd hc439 (by decide +kernel))
                          refine x_iconst (v := -1) rfl rfl (by decide +kernel) ?_
                          refine x_istore rfl rfl rfl rfl ?_
                          refine x_aload_n rfl rfl rfl ?_
                          refine x_iload rfl rfl rfl ?_
                          refine x_if_ne rfl rfl (fun hc440 => absurd hc440 (by decide +kernel)) (fun _ => ?_)
                          refine x_iconstN (b := 1) rfl rfl ?_
                          refine x_goto rfl rfl ?_
                          refine x_putI rfl rfl f_9_97 rfl rfl (by decide) rfl ?_
                          refine x_aload_n rfl rfl rfl ?_
                          refine x_getIv (v := nI 1) (by first | rfl | simp [ui, ul]) rfl rfl f_9_97 rfl (by decide) rfl ?_
                          refine x_if_le rfl rfl (fun hc441 => absurd hc441 (by decide +kernel)) (fun _ => ?_)
                          refine x_iconstN (b := 0) rfl rfl ?_
                          exact x_retI rfl rfl rfl (by omega) rfl rfl
                      · refine x_iconstN (b := 1) rfl rfl ?_
                        refine x_goto rfl rfl ?_
                        refine x_istore rfl rfl rfl rfl ?_
                        refine x_lload rfl rfl rfl ?_
                        refine x_lconst (v := 0) rfl rfl (by decide +kernel) ?_
                        refine x_lc_ne rfl rfl rfl rfl (fun hc442 => ?_) (fun hc442 => ?_)
                        · refine x_lload rfl rfl rfl ?_
                          refine x_lconst (v := 0) rfl rfl (by decide +kernel) ?_
                          refine x_lc_ne rfl rfl rfl rfl (fun hc443 => ?_) (fun hc443 => ?_)
                          · refine x_lload rfl rfl rfl ?_
                            refine x_lconst (v := 0) rfl rfl (by decide +kernel) ?_
                            refine x_lc_ne rfl rfl rfl rfl (fun hc444 => ?_) (fun hc444 => ?_)
                            · refine x_iconstN (b := 3) rfl rfl ?_
                              refine x_istore rfl rfl rfl rfl ?_
                              refine x_iload rfl rfl rfl ?_
                              refine x_if_eq rfl rfl (fun hc445 => absurd hc445 (by decide +kernel)) (fun _ => ?_)
                              refine x_aload_n rfl rfl rfl ?_
                              refine x_lload_n rfl rfl rfl ?_
                              refine x_iload_n rfl rfl rfl ?_
                              refine x_iload rfl rfl rfl ?_
                              refine x_lload rfl rfl rfl ?_
                              refine x_lload rfl rfl rfl ?_
                              refine x_lload rfl rfl rfl ?_
                              exact absurd (by unfold cbm; simp_all) hb
                            · refine x_iconstN (b := 2) rfl rfl ?_
                              refine x_goto rfl rfl ?_
                              refine x_istore rfl rfl rfl rfl ?_
                              refine x_iload rfl rfl rfl ?_
                              refine x_if_eq rfl rfl (fun hc446 => absurd hc446 (by decide +kernel)) (fun _ => ?_)
                              refine x_aload_n rfl rfl rfl ?_
                              refine x_lload_n rfl rfl rfl ?_
                              refine x_iload_n rfl rfl rfl ?_
                              refine x_iload rfl rfl rfl ?_
                              refine x_lload rfl rfl rfl ?_
                              refine x_lload rfl rfl rfl ?_
                              refine x_lload rfl rfl rfl ?_
                              exact absurd (by unfold cbm; simp_all) hb
                          · refine x_iconstN (b := 1) rfl rfl ?_
                            refine x_goto rfl rfl ?_
                            refine x_istore rfl rfl rfl rfl ?_
                            refine x_iload rfl rfl rfl ?_
                            refine x_if_eq rfl rfl (fun hc447 => absurd hc447 (by decide +kernel)) (fun _ => ?_)
                            refine x_aload_n rfl rfl rfl ?_
                            refine x_lload_n rfl rfl rfl ?_
                            refine x_iload_n rfl rfl rfl ?_
                            refine x_iload rfl rfl rfl ?_
                            refine x_lload rfl rfl rfl ?_
                            refine x_lload rfl rfl rfl ?_
                            refine x_lload rfl rfl rfl ?_
                            exact absurd (by unfold cbm; simp_all) hb
                        · refine x_iconstN (b := 0) rfl rfl ?_
                          refine x_goto rfl rfl ?_
                          refine x_istore rfl rfl rfl rfl ?_
                          refine x_iload rfl rfl rfl ?_
                          refine x_if_eq rfl rfl (fun hc448 => absurd hc448 (by decide +kernel)) (fun _ => ?_)
                          refine x_aload_n rfl rfl rfl ?_
                          refine x_lload_n rfl rfl rfl ?_
                          refine x_iload_n rfl rfl rfl ?_
                          refine x_iload rfl rfl rfl ?_
                          refine x_lload rfl rfl rfl ?_
                          refine x_lload rfl rfl rfl ?_
                          refine x_lload rfl rfl rfl ?_
                          exact absurd (by unfold cbm; simp_all) hb
                  · refine x_lload rfl rfl rfl ?_
                    refine x_lload rfl rfl rfl ?_
                    refine x_lc_eq rfl rfl rfl rfl (fun hc449 => ?_) (fun hc449 => ?_)
                    · refine x_iconstN (b := 0) rfl rfl ?_
                      refine x_istore rfl rfl rfl rfl ?_
                      refine x_lload rfl rfl rfl ?_
                      refine x_lconst (v := 0) rfl rfl (by decide +kernel) ?_
                      refine x_lc_ne rfl rfl rfl rfl (fun hc450 => ?_) (fun hc450 => ?_)
                      · refine x_lload rfl rfl rfl ?_
                        refine x_lconst (v := 0) rfl rfl (by decide +kernel) ?_
                        refine x_lc_ne rfl rfl rfl rfl (fun hc451 => ?_) (fun hc451 => ?_)
                        · refine x_lload rfl rfl rfl ?_
                          refine x_lconst (v := 0) rfl rfl (by decide +kernel) ?_
                          refine x_lc_ne rfl rfl rfl rfl (fun hc452 => ?_) (fun hc452 => ?_)
                          · refine x_iconstN (b := 3) rfl rfl ?_
                            refine x_istore rfl rfl rfl rfl ?_
                            refine x_iload rfl rfl rfl ?_
                            refine x_if_eq rfl rfl (fun _ => ?_) (fun hc453 => absurd hc453 (by decide +kernel))
                            refine x_iconst (v := -1) rfl rfl (by decide +kernel) ?_
                            refine x_istore rfl rfl rfl rfl ?_
                            refine x_aload_n rfl rfl rfl ?_
                            refine x_iload rfl rfl rfl ?_
                            refine x_if_ne rfl rfl (fun hc454 => absurd hc454 (by decide +kernel)) (fun _ => ?_)
                            refine x_iconstN (b := 1) rfl rfl ?_
                            refine x_goto rfl rfl ?_
                            refine x_putI rfl rfl f_9_97 rfl rfl (by decide) rfl ?_
                            refine x_aload_n rfl rfl rfl ?_
                            refine x_getIv (v := nI 1) (by first | rfl | simp [ui, ul]) rfl rfl f_9_97 rfl (by decide) rfl ?_
                            refine x_if_le rfl rfl (fun hc455 => absurd hc455 (by decide +kernel)) (fun _ => ?_)
                            refine x_iconstN (b := 0) rfl rfl ?_
                            exact x_retI rfl rfl rfl (by omega) rfl rfl
                          · refine x_iconstN (b := 2) rfl rfl ?_
                            refine x_goto rfl rfl ?_
                            refine x_istore rfl rfl rfl rfl ?_
                            refine x_iload rfl rfl rfl ?_
                            refine x_if_eq rfl rfl (fun _ => ?_) (fun hc456 => absurd hc456 (by decide +kernel))
                            refine x_iconst (v := -1) rfl rfl (by decide +kernel) ?_
                            refine x_istore rfl rfl rfl rfl ?_
                            refine x_aload_n rfl rfl rfl ?_
                            refine x_iload rfl rfl rfl ?_
                            refine x_if_ne rfl rfl (fun hc457 => absurd hc457 (by decide +kernel)) (fun _ => ?_)
                            refine x_iconstN (b := 1) rfl rfl ?_
                            refine x_goto rfl rfl ?_
                            refine x_putI rfl rfl f_9_97 rfl rfl (by decide) rfl ?_
                            refine x_aload_n rfl rfl rfl ?_
                            refine x_getIv (v := nI 1) (by first | rfl | simp [ui, ul]) rfl rfl f_9_97 rfl (by decide) rfl ?_
                            refine x_if_le rfl rfl (fun hc458 => absurd hc458 (by decide +kernel)) (fun _ => ?_)
                            refine x_iconstN (b := 0) rfl rfl ?_
                            exact x_retI rfl rfl rfl (by omega) rfl rfl
                        · refine x_iconstN (b := 1) rfl rfl ?_
                          refine x_goto rfl rfl ?_
                          refine x_istore rfl rfl rfl rfl ?_
                          refine x_iload rfl rfl rfl ?_
                          refine x_if_eq rfl rfl (fun _ => ?_) (fun hc459 => absurd hc459 (by decide +kernel))
                          refine x_iconst (v := -1) rfl rfl (by decide +kernel) ?_
                          refine x_istore rfl rfl rfl rfl ?_
                          refine x_aload_n rfl rfl rfl ?_
                          refine x_iload rfl rfl rfl ?_
                          refine x_if_ne rfl rfl (fun hc460 => absurd hc460 (by decide +kernel)) (fun _ => ?_)
                          refine x_iconstN (b := 1) rfl rfl ?_
                          refine x_goto rfl rfl ?_
                          refine x_putI rfl rfl f_9_97 rfl rfl (by decide) rfl ?_
                          refine x_aload_n rfl rfl rfl ?_
                          refine x_getIv (v := nI 1) (by first | rfl | simp [ui, ul]) rfl rfl f_9_97 rfl (by decide) rfl ?_
                          refine x_if_le rfl rfl (fun hc461 => absurd hc461 (by decide +kernel)) (fun _ => ?_)
                          refine x_iconstN (b := 0) rfl rfl ?_
                          exact x_retI rfl rfl rfl (by omega) rfl rfl
                      · refine x_iconstN (b := 0) rfl rfl ?_
                        refine x_goto rfl rfl ?_
                        refine x_istore rfl rfl rfl rfl ?_
                        refine x_iload rfl rfl rfl ?_
                        refine x_if_eq rfl rfl (fun _ => ?_) (fun hc462 => absurd hc462 (by decide +kernel))
                        refine x_iconst (v := -1) rfl rfl (by decide +kernel) ?_
                        refine x_istore rfl rfl rfl rfl ?_
                        refine x_aload_n rfl rfl rfl ?_
                        refine x_iload rfl rfl rfl ?_
                        refine x_if_ne rfl rfl (fun hc463 => absurd hc463 (by decide +kernel)) (fun _ => ?_)
                        refine x_iconstN (b := 1) rfl rfl ?_
                        refine x_goto rfl rfl ?_
                        refine x_putI rfl rfl f_9_97 rfl rfl (by decide) rfl ?_
                        refine x_aload_n rfl rfl rfl ?_
                        refine x_getIv (v := nI 1) (by first | rfl | simp [ui, ul]) rfl rfl f_9_97 rfl (by decide) rfl ?_
                        refine x_if_le rfl rfl (fun hc464 => absurd hc464 (by decide +kernel)) (fun _ => ?_)
                        refine x_iconstN (b := 0) rfl rfl ?_
                        exact x_retI rfl rfl rfl (by omega) rfl rfl
                    · refine x_lload rfl rfl rfl ?_
                      refine x_lload rfl rfl rfl ?_
                      refine x_lc_eq rfl rfl rfl rfl (fun hc465 => ?_) (fun hc465 => ?_)
                      · refine x_iconstN (b := 0) rfl rfl ?_
                        refine x_istore rfl rfl rfl rfl ?_
                        refine x_lload rfl rfl rfl ?_
                        refine x_lconst (v := 0) rfl rfl (by decide +kernel) ?_
                        refine x_lc_ne rfl rfl rfl rfl (fun hc466 => ?_) (fun hc466 => ?_)
                        · refine x_lload rfl rfl rfl ?_
                          refine x_lconst (v := 0) rfl rfl (by decide +kernel) ?_
                          refine x_lc_ne rfl rfl rfl rfl (fun hc467 => ?_) (fun hc467 => ?_)
                          · refine x_lload rfl rfl rfl ?_
                            refine x_lconst (v := 0) rfl rfl (by decide +kernel) ?_
                            refine x_lc_ne rfl rfl rfl rfl (fun hc468 => ?_) (fun hc468 => ?_)
                            · refine x_iconstN (b := 3) rfl rfl ?_
                              refine x_istore rfl rfl rfl rfl ?_
                              refine x_iload rfl rfl rfl ?_
                              refine x_if_eq rfl rfl (fun _ => ?_) (fun hc469 => absurd hc469 (by decide +kernel))
                              refine x_iconst (v := -1) rfl rfl (by decide +kernel) ?_
                              refine x_istore rfl rfl rfl rfl ?_
                              refine x_aload_n rfl rfl rfl ?_
                              refine x_iload rfl rfl rfl ?_
                              refine x_if_ne rfl rfl (fun hc470 => absurd hc470 (by decide +kernel)) (fun _ => ?_)
                              refine x_iconstN (b := 1) rfl rfl ?_
                              refine x_goto rfl rfl ?_
                              refine x_putI rfl rfl f_9_97 rfl rfl (by decide) rfl ?_
                              refine x_aload_n rfl rfl rfl ?_
                              refine x_getIv (v := nI 1) (by first | rfl | simp [ui, ul]) rfl rfl f_9_97 rfl (by decide) rfl ?_
                              refine x_if_le rfl rfl (fun hc471 => absurd hc471 (by decide +kernel)) (fun _ => ?_)
                              refine x_iconstN (b := 0) rfl rfl ?_
                              exact x_retI rfl rfl rfl (by omega) rfl rfl
                            · refine x_iconstN (b := 2) rfl rfl ?_
                              refine x_goto rfl rfl ?_
                              refine x_istore rfl rfl rfl rfl ?_
                              refine x_iload rfl rfl rfl ?_
                              refine x_if_eq rfl rfl (fun _ => ?_) (fun hc472 => absurd hc472 (by decide +kernel))
                              refine x_iconst (v := -1) rfl rfl (by decide +kernel) ?_
                              refine x_istore rfl rfl rfl rfl ?_
                              refine x_aload_n rfl rfl rfl ?_
                              refine x_iload rfl rfl rfl ?_
                              refine x_if_ne rfl rfl (fun hc473 => absurd hc473 (by decide +kernel)) (fun _ => ?_)
                              refine x_iconstN (b := 1) rfl rfl ?_
                              refine x_goto rfl rfl ?_
                              refine x_putI rfl rfl f_9_97 rfl rfl (by decide) rfl ?_
                              refine x_aload_n rfl rfl rfl ?_
                              refine x_getIv (v := nI 1) (by first | rfl | simp [ui, ul]) rfl rfl f_9_97 rfl (by decide) rfl ?_
                              refine x_if_le rfl rfl (fun hc474 => absurd hc474 (by decide +kernel)) (fun _ => ?_)
                              refine x_iconstN (b := 0) rfl rfl ?_
                              exact x_retI rfl rfl rfl (by omega) rfl rfl
                          · refine x_iconstN (b := 1) rfl rfl ?_
                            refine x_goto rfl rfl ?_
                            refine x_istore rfl rfl rfl rfl ?_
                            refine x_iload rfl rfl rfl ?_
                            refine x_if_eq rfl rfl (fun _ => ?_) (fun hc475 => absurd hc475 (by decide +kernel))
                            refine x_iconst (v := -1) rfl rfl (by decide +kernel) ?_
                            refine x_istore rfl rfl rfl rfl ?_
                            refine x_aload_n rfl rfl rfl ?_
                            refine x_iload rfl rfl rfl ?_
                            refine x_if_ne rfl rfl (fun hc476 => absurd hc476 (by decide +kernel)) (fun _ => ?_)
                            refine x_iconstN (b := 1) rfl rfl ?_
                            refine x_goto rfl rfl ?_
                            refine x_putI rfl rfl f_9_97 rfl rfl (by decide) rfl ?_
                            refine x_aload_n rfl rfl rfl ?_
                            refine x_getIv (v := nI 1) (by first | rfl | simp [ui, ul]) rfl rfl f_9_97 rfl (by decide) rfl ?_
                            refine x_if_le rfl rfl (fun hc477 => absurd hc477 (by decide +kernel)) (fun _ => ?_)
                            refine x_iconstN (b := 0) rfl rfl ?_
                            exact x_retI rfl rfl rfl (by omega) rfl rfl
                        · refine x_iconstN (b := 0) rfl rfl ?_
                          refine x_goto rfl rfl ?_
                          refine x_istore rfl rfl rfl rfl ?_
                          refine x_iload rfl rfl rfl ?_
                          refine x_if_eq rfl rfl (fun _ => ?_) (fun hc478 => absurd hc478 (by decide +kernel))
                          refine x_iconst (v := -1) rfl rfl (by decide +kernel) ?_
                          refine x_istore rfl rfl rfl rfl ?_
                          refine x_aload_n rfl rfl rfl ?_
                          refine x_iload rfl rfl rfl ?_
                          refine x_if_ne rfl rfl (fun hc479 => absurd hc479 (by decide +kernel)) (fun _ => ?_)
                          refine x_iconstN (b := 1) rfl rfl ?_
                          refine x_goto rfl rfl ?_
                          refine x_putI rfl rfl f_9_97 rfl rfl (by decide) rfl ?_
                          refine x_aload_n rfl rfl rfl ?_
                          refine x_getIv (v := nI 1) (by first | rfl | simp [ui, ul]) rfl rfl f_9_97 rfl (by decide) rfl ?_
                          refine x_if_le rfl rfl (fun hc480 => absurd hc480 (by decide +kernel)) (fun _ => ?_)
                          refine x_iconstN (b := 0) rfl rfl ?_
                          exact x_retI rfl rfl rfl (by omega) rfl rfl
                      · refine x_lload rfl rfl rfl ?_
                        refine x_lconst (v := 0) rfl rfl (by decide +kernel) ?_
                        refine x_lc_eq rfl rfl rfl rfl (fun hc481 => ?_) (fun hc481 => ?_)
                        · refine x_iconstN (b := 1) rfl rfl ?_
                          refine x_goto rfl rfl ?_
                          refine x_istore rfl rfl rfl rfl ?_
                          refine x_lload rfl rfl rfl ?_
                          refine x_lconst (v := 0) rfl rfl (by decide +kernel) ?_
                          refine x_lc_ne rfl rfl rfl rfl (fun hc482 => ?_) (fun hc482 => ?_)
                          · refine x_lload rfl rfl rfl ?_
                            refine x_lconst (v := 0) rfl rfl (by decide +kernel) ?_
                            refine x_lc_ne rfl rfl rfl rfl (fun hc483 => ?_) (fun hc483 => ?_)
                            · refine x_lload rfl rfl rfl ?_
                              refine x_lconst (v := 0) rfl rfl (by decide +kernel) ?_
                              refine x_lc_ne rfl rfl rfl rfl (fun hc484 => ?_) (fun hc484 => ?_)
                              · refine x_iconstN (b := 3) rfl rfl ?_
                                refine x_istore rfl rfl rfl rfl ?_
                                refine x_iload rfl rfl rfl ?_
                                refine x_if_eq rfl rfl (fun hc485 => absurd hc485 (by decide +kernel)) (fun _ => ?_)
                                refine x_aload_n rfl rfl rfl ?_
                                refine x_lload_n rfl rfl rfl ?_
                                refine x_iload_n rfl rfl rfl ?_
                                refine x_iload rfl rfl rfl ?_
                                refine x_lload rfl rfl rfl ?_
                                refine x_lload rfl rfl rfl ?_
                                refine x_lload rfl rfl rfl ?_
                                exact absurd (by unfold cbm; simp_all) hb
                              · refine x_iconstN (b := 2) rfl rfl ?_
                                refine x_goto rfl rfl ?_
                                refine x_istore rfl rfl rfl rfl ?_
                                refine x_iload rfl rfl rfl ?_
                                refine x_if_eq rfl rfl (fun hc486 => absurd hc486 (by decide +kernel)) (fun _ => ?_)
                                refine x_aload_n rfl rfl rfl ?_
                                refine x_lload_n rfl rfl rfl ?_
                                refine x_iload_n rfl rfl rfl ?_
                                refine x_iload rfl rfl rfl ?_
                                refine x_lload rfl rfl rfl ?_
                                refine x_lload rfl rfl rfl ?_
                                refine x_lload rfl rfl rfl ?_
                                exact absurd (by unfold cbm; simp_all) hb
                            · refine x_iconstN (b := 1) rfl rfl ?_
                              refine x_goto rfl rfl ?_
                              refine x_istore rfl rfl rfl rfl ?_
                              refine x_iload rfl rfl rfl ?_
                              refine x_if_eq rfl rfl (fun hc487 => absurd hc487 (by decide +kernel)) (fun _ => ?_)
                              refine x_aload_n rfl rfl rfl ?_
                              refine x_lload_n rfl rfl rfl ?_
                              refine x_iload_n rfl rfl rfl ?_
                              refine x_iload rfl rfl rfl ?_
                              refine x_lload rfl rfl rfl ?_
                              refine x_lload rfl rfl rfl ?_
                              refine x_lload rfl rfl rfl ?_
                              exact absurd (by unfold cbm; simp_all) hb
                          · refine x_iconstN (b := 0) rfl rfl ?_
                            refine x_goto rfl rfl ?_
                            refine x_istore rfl rfl rfl rfl ?_
                            refine x_iload rfl rfl rfl ?_
                            refine x_if_eq rfl rfl (fun hc488 => absurd hc488 (by decide +kernel)) (fun _ => ?_)
                            refine x_aload_n rfl rfl rfl ?_
                            refine x_lload_n rfl rfl rfl ?_
                            refine x_iload_n rfl rfl rfl ?_
                            refine x_iload rfl rfl rfl ?_
                            refine x_lload rfl rfl rfl ?_
                            refine x_lload rfl rfl rfl ?_
                            refine x_lload rfl rfl rfl ?_
                            exact absurd (by unfold cbm; simp_all) hb
                        · refine x_lload rfl rfl rfl ?_
                          refine x_lload rfl rfl rfl ?_
                          refine x_lc_eq rfl rfl rfl rfl (fun hc489 => ?_) (fun hc489 => ?_)
                          · refine x_iconstN (b := 0) rfl rfl ?_
                            refine x_istore rfl rfl rfl rfl ?_
                            refine x_lload rfl rfl rfl ?_
                            refine x_lconst (v := 0) rfl rfl (by decide +kernel) ?_
                            refine x_lc_ne rfl rfl rfl rfl (fun hc490 => ?_) (fun hc490 => ?_)
                            · refine x_lload rfl rfl rfl ?_
                              refine x_lconst (v := 0) rfl rfl (by decide +kernel) ?_
                              refine x_lc_ne rfl rfl rfl rfl (fun hc491 => ?_) (fun hc491 => ?_)
                              · refine x_lload rfl rfl rfl ?_
                                refine x_lconst (v := 0) rfl rfl (by decide +kernel) ?_
                                refine x_lc_ne rfl rfl rfl rfl (fun hc492 => ?_) (fun hc492 => ?_)
                                · refine x_iconstN (b := 3) rfl rfl ?_
                                  refine x_istore rfl rfl rfl rfl ?_
                                  refine x_iload rfl rfl rfl ?_
                                  refine x_if_eq rfl rfl (fun _ => ?_) (fun hc493 => absurd hc493 (by decide +kernel))
                                  refine x_iconst (v := -1) rfl rfl (by decide +kernel) ?_
                                  refine x_istore rfl rfl rfl rfl ?_
                                  refine x_aload_n rfl rfl rfl ?_
                                  refine x_iload rfl rfl rfl ?_
                                  refine x_if_ne rfl rfl (fun hc494 => absurd hc494 (by decide +kernel)) (fun _ => ?_)
                                  refine x_iconstN (b := 1) rfl rfl ?_
                                  refine x_goto rfl rfl ?_
                                  refine x_putI rfl rfl f_9_97 rfl rfl (by decide) rfl ?_
                                  refine x_aload_n rfl rfl rfl ?_
                                  refine x_getIv (v := nI 1) (by first | rfl | simp [ui, ul]) rfl rfl f_9_97 rfl (by decide) rfl ?_
                                  refine x_if_le rfl rfl (fun hc495 => absurd hc495 (by decide +kernel)) (fun _ => ?_)
                                  refine x_iconstN (b := 0) rfl rfl ?_
                                  exact x_retI rfl rfl rfl (by omega) rfl rfl
                                · refine x_iconstN (b := 2) rfl rfl ?_
                                  refine x_goto rfl rfl ?_
                                  refine x_istore rfl rfl rfl rfl ?_
                                  refine x_iload rfl rfl rfl ?_
                                  refine x_if_eq rfl rfl (fun _ => ?_) (fun hc496 => absurd hc496 (by decide +kernel))
                                  refine x_iconst (v := -1) rfl rfl (by decide +kernel) ?_
                                  refine x_istore rfl rfl rfl rfl ?_
                                  refine x_aload_n rfl rfl rfl ?_
                                  refine x_iload rfl rfl rfl ?_
                                  refine x_if_ne rfl rfl (fun hc497 => absurd hc497 (by decide +kernel)) (fun _ => ?_)
                                  refine x_iconstN (b := 1) rfl rfl ?_
                                  refine x_goto rfl rfl ?_
                                  refine x_putI rfl rfl f_9_97 rfl rfl (by decide) rfl ?_
                                  refine x_aload_n rfl rfl rfl ?_
                                  refine x_getIv (v := nI 1) (by first | rfl | simp [ui, ul]) rfl rfl f_9_97 rfl (by decide) rfl ?_
                                  refine x_if_le rfl rfl (fun hc498 => absurd hc498 (by decide +kernel)) (fun _ => ?_)
                                  refine x_iconstN (b := 0) rfl rfl ?_
                                  exact x_retI rfl rfl rfl (by omega) rfl rfl
                              · refine x_iconstN (b := 1) rfl rfl ?_
                                refine x_goto rfl rfl ?_
                                refine x_istore rfl rfl rfl rfl ?_
                                refine x_iload rfl rfl rfl ?_
                                refine x_if_eq rfl rfl (fun _ => ?_) (fun hc499 => absurd hc499 (by decide +kernel))
                                refine x_iconst (v := -1) rfl rfl (by decide +kernel) ?_
                                refine x_istore rfl rfl rfl rfl ?_
                                refine x_aload_n rfl rfl rfl ?_
                                refine x_iload rfl rfl rfl ?_
                                refine x_if_ne rfl rfl (fun hc500 => absurd hc500 (by decide +kernel)) (fun _ => ?_)
                                refine x_iconstN (b := 1) rfl rfl ?_
                                refine x_goto rfl rfl ?_
                                refine x_putI rfl rfl f_9_97 rfl rfl (by decide) rfl ?_
                                refine x_aload_n rfl rfl rfl ?_
                                refine x_getIv (v := nI 1) (by first | rfl | simp [ui, ul]) rfl rfl f_9_97 rfl (by decide) rfl ?_
                                refine x_if_le rfl rfl (fun hc501 => absurd hc501 (by decide +kernel)) (fun _ => ?_)
                                refine x_iconstN (b := 0) rfl rfl ?_
                                exact x_retI rfl rfl rfl (by omega) rfl rfl
                            · refine x_iconstN (b := 0) rfl rfl ?_
                              refine x_goto rfl rfl ?_
                              refine x_istore rfl rfl rfl rfl ?_
                              refine x_iload rfl rfl rfl ?_
                              refine x_if_eq rfl rfl (fun _ => ?_) (fun hc502 => absurd hc502 (by decide +kernel))
                              refine x_iconst (v := -1) rfl rfl (by decide +kernel) ?_
                              refine x_istore rfl rfl rfl rfl ?_
                              refine x_aload_n rfl rfl rfl ?_
                              refine x_iload rfl rfl rfl ?_
                              refine x_if_ne rfl rfl (fun hc503 => absurd hc503 (by decide +kernel)) (fun _ => ?_)
                              refine x_iconstN (b := 1) rfl rfl ?_
                              refine x_goto rfl rfl ?_
                              refine x_putI rfl rfl f_9_97 rfl rfl (by decide) rfl ?_
                              refine x_aload_n rfl rfl rfl ?_
                              refine x_getIv (v := nI 1) (by first | rfl | simp [ui, ul]) rfl rfl f_9_97 rfl (by decide) rfl ?_
                              refine x_if_le rfl rfl (fun hc504 => absurd hc504 (by decide +kernel)) (fun _ => ?_)
                              refine x_iconstN (b := 0) rfl rfl ?_
                              exact x_retI rfl rfl rfl (by omega) rfl rfl
                          · refine x_iconstN (b := 1) rfl rfl ?_
                            refine x_goto rfl rfl ?_
                            refine x_istore rfl rfl rfl rfl ?_
                            refine x_lload rfl rfl rfl ?_
                            refine x_lconst (v := 0) rfl rfl (by decide +kernel) ?_
                            refine x_lc_ne rfl rfl rfl rfl (fun hc505 => ?_) (fun hc505 => ?_)
                            · refine x_lload rfl rfl rfl ?_
                              refine x_lconst (v := 0) rfl rfl (by decide +kernel) ?_
                              refine x_lc_ne rfl rfl rfl rfl (fun hc506 => ?_) (fun hc506 => ?_)
                              · refine x_lload rfl rfl rfl ?_
                                refine x_lconst (v := 0) rfl rfl (by decide +kernel) ?_
                                refine x_lc_ne rfl rfl rfl rfl (fun hc507 => ?_) (fun hc507 => ?_)
                                · refine x_iconstN (b := 3) rfl rfl ?_
                                  refine x_istore rfl rfl rfl rfl ?_
                                  refine x_iload rfl rfl rfl ?_
                                  refine x_if_eq rfl rfl (fun hc508 => absurd hc508 (by decide +kernel)) (fun _ => ?_)
                                  refine x_aload_n rfl rfl rfl ?_
                                  refine x_lload_n rfl rfl rfl ?_
                                  refine x_iload_n rfl rfl rfl ?_
                                  refine x_iload rfl rfl rfl ?_
                                  refine x_lload rfl rfl rfl ?_
                                  refine x_lload rfl rfl rfl ?_
                                  refine x_lload rfl rfl rfl ?_
                                  exact absurd (by unfold cbm; simp_all) hb
                                · refine x_iconstN (b := 2) rfl rfl ?_
                                  refine x_goto rfl rfl ?_
                                  refine x_istore rfl rfl rfl rfl ?_
                                  refine x_iload rfl rfl rfl ?_
                                  refine x_if_eq rfl rfl (fun hc509 => absurd hc509 (by decide +kernel)) (fun _ => ?_)
                                  refine x_aload_n rfl rfl rfl ?_
                                  refine x_lload_n rfl rfl rfl ?_
                                  refine x_iload_n rfl rfl rfl ?_
                                  refine x_iload rfl rfl rfl ?_
                                  refine x_lload rfl rfl rfl ?_
                                  refine x_lload rfl rfl rfl ?_
                                  refine x_lload rfl rfl rfl ?_
                                  exact absurd (by unfold cbm; simp_all) hb
                              · refine x_iconstN (b := 1) rfl rfl ?_
                                refine x_goto rfl rfl ?_
                                refine x_istore rfl rfl rfl rfl ?_
                                refine x_iload rfl rfl rfl ?_
                                refine x_if_eq rfl rfl (fun hc510 => absurd hc510 (by decide +kernel)) (fun _ => ?_)
                                refine x_aload_n rfl rfl rfl ?_
                                refine x_lload_n rfl rfl rfl ?_
                                refine x_iload_n rfl rfl rfl ?_
                                refine x_iload rfl rfl rfl ?_
                                refine x_lload rfl rfl rfl ?_
                                refine x_lload rfl rfl rfl ?_
                                refine x_lload rfl rfl rfl ?_
                                exact absurd (by unfold cbm; simp_all) hb
                            · refine x_iconstN (b := 0) rfl rfl ?_
                              refine x_goto rfl rfl ?_
                              refine x_istore rfl rfl rfl rfl ?_
                              refine x_iload rfl rfl rfl ?_
                              refine x_if_eq rfl rfl (fun hc511 => absurd hc511 (by decide +kernel)) (fun _ => ?_)
                              refine x_aload_n rfl rfl rfl ?_
                              refine x_lload_n rfl rfl rfl ?_
                              refine x_iload_n rfl rfl rfl ?_
                              refine x_iload rfl rfl rfl ?_
                              refine x_lload rfl rfl rfl ?_
                              refine x_lload rfl rfl rfl ?_
                              refine x_lload rfl rfl rfl ?_
                              exact absurd (by unfold cbm; simp_all) hb
end E2
