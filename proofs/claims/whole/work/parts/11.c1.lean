theorem lk_6 {i : Nat} (h : i < 13) : LLk (6, i) (7, i) 3 := ⟨rfl, h, rfl, rfl, h, by decide⟩
theorem lk_9 {i : Nat} (h : i < 40) : LLk (9, i) (10, i) 8 := ⟨rfl, h, rfl, rfl, h, by decide⟩
theorem lk_11 {i : Nat} (h : i < 40) : LLk (11, i) (12, i) 6 := ⟨rfl, h, rfl, rfl, h, by decide⟩
theorem lk_13 {i : Nat} (h : i < 40) : LLk (13, i) (14, i) 6 := ⟨rfl, h, rfl, rfl, h, by decide⟩
theorem lk_17 {i : Nat} (h : i < 1) : LLk (17, i) (18, i) 6 := ⟨rfl, h, by cases i with | zero => rfl | succ i => omega, rfl, h, by decide⟩
theorem lk_20 {i : Nat} (h : i < 1) : LLk (20, i) (21, i) 300 := ⟨rfl, h, by cases i with | zero => rfl | succ i => omega, rfl, h, by decide⟩
theorem lk_22 {i : Nat} (h : i < 1) : LLk (22, i) (23, i) 40 := ⟨rfl, h, by cases i with | zero => rfl | succ i => omega, rfl, h, by decide⟩
theorem lk_24 {i : Nat} (h : i < 1) : LLk (24, i) (25, i) 12 := ⟨rfl, h, by cases i with | zero => rfl | succ i => omega, rfl, h, by decide⟩
theorem lk_28 {i : Nat} (h : i < 1) : LLk (28, i) (29, i) 300 := ⟨rfl, h, by cases i with | zero => rfl | succ i => omega, rfl, h, by decide⟩
theorem lk_30 {i : Nat} (h : i < 1) : LLk (30, i) (31, i) 40 := ⟨rfl, h, by cases i with | zero => rfl | succ i => omega, rfl, h, by decide⟩
theorem lk_32 {i : Nat} (h : i < 1) : LLk (32, i) (33, i) 40 := ⟨rfl, h, by cases i with | zero => rfl | succ i => omega, rfl, h, by decide⟩
section C1
variable {G : Gd} {d : Nat} {q q' q2 q2' : Ky} {N len N2 len2 : Nat} {M : Mm}
theorem fx_lt {f : Nat → Int64} {e : Int64} : ∀ {n i j : Nat}, fx f e i n = some j → i ≤ j ∧ j < i + n
  | 0, i, j, h => by cases h
  | n + 1, i, j, h => by
    unfold fx at h
    by_cases hf : f i = e
    · rw [if_pos hf] at h
      cases h
      omega
    · rw [if_neg hf] at h
      have := fx_lt h
      omega
theorem ixv_none {f : Nat → Int64} {e : Int64} {n : Nat} (hn : n < 2 ^ 31) (h : ixv (fx f e 0 n) = -1) : fx f e 0 n = none := by
  cases hx : fx f e 0 n with
  | none => rfl
  | some j =>
    rw [hx] at h
    have hj := fx_lt hx
    have : (nI j).toInt = (-1 : Int32).toInt := by rw [show nI j = -1 from h]
    rw [nI_toInt (by omega)] at this
    have h2 : (-1 : Int32).toInt = -1 := by decide +kernel
    omega
set_option maxHeartbeats 4000000 in
set_option maxRecDepth 20000 in
theorem c_LL_has (hG : Gok G) (h : LLk q q' N) (e : Int64) (hl : M.1 q 1 = nI len) (hle : len ≤ N) (hN : N ≤ 1000) (hd : 1 ≤ d) : Ct G mX0_has d [.ref (ga G q), .long (e)] M (.inl (some (.int (bI (fx (M.2 q') e 0 len ≠ none))))) M 0 := by
  refine ct_of hG okX0_has (by decide +kernel) rfl (Nat.le_of_ble_eq_true rfl) ?_
  refine x_aload_n rfl rfl rfl ?_
  refine x_lload_n rfl rfl rfl ?_
  refine x_callVi (d2 := 0) (c_LL_placeOf hG h e hl hle) rfl rfl v_0_21 h.1 rfl h.2.1 rfl rfl (Nat.le_of_ble_eq_true rfl) (by omega) (by omega) ?_
  refine x_iconst (v := -1) rfl rfl (by decide +kernel) ?_
  refine x_icmp_eq rfl rfl (fun hc1 => ?_) (fun hc1 => ?_)
  · refine x_iconstN (b := 0) rfl rfl ?_
    exact x_retZ rfl rfl rfl (by first | exact Or.inl rfl | exact Or.inr rfl) (by omega) (by rw [bI_f (fun z => z (ixv_none (by omega) hc1))]) rfl
  · refine x_iconstN (b := 1) rfl rfl ?_
    refine x_goto rfl rfl ?_
    exact x_retZ rfl rfl rfl (by first | exact Or.inl rfl | exact Or.inr rfl) (by omega) (by rw [bI_t (fun z => hc1 (by rw [z]; rfl))]) rfl
set_option maxHeartbeats 4000000 in
theorem l_LL_isLike (h : LLk q q' N) (g : LLk q2 q2' N2) (hl : M.1 q 1 = nI len) (hle : len ≤ N) (hle2 : len ≤ N2) : ∀ n i : Nat, i + n = len → (∀ k, k < i → M.2 q' k = M.2 q2' k) → Fr G mX0_isLike d 0 (Zm G (.inl (some (.int (bI (∀ k, k < len → M.2 q' k = M.2 q2' k))))) M 0) 0 15 [(0, .ref (ga G q)), (1, .ref (ga G q2)), (2, .int (nI i))] [] M := by
  obtain ⟨h1, h2, h3, h4, h5, h6⟩ := h
  obtain ⟨g1, g2, g3, g4, g5, g6⟩ := g
  intro n
  induction n with
  | zero =>
    intro i hi hk
    refine x_iload_n rfl rfl rfl ?_
    refine x_aload_n rfl rfl rfl ?_
    refine x_getIv (v := nI len) hl rfl rfl f_0_15 h1 h2 rfl ?_
    refine x_icmpN_ge (by omega) (by omega) rfl rfl (fun hc1 => ?_) (fun hc1 => absurd hc1 (by omega))
    refine x_iconstN (b := 1) rfl rfl ?_
    exact x_retZ rfl rfl rfl (Or.inr rfl) (by omega) (by rw [bI_t (fun k hk9 => hk k (by omega))]) rfl
  | succ n ih =>
    intro i hi hk
    refine x_iload_n rfl rfl rfl ?_
    refine x_aload_n rfl rfl rfl ?_
    refine x_getIv (v := nI len) hl rfl rfl f_0_15 h1 h2 rfl ?_
    refine x_icmpN_ge (by omega) (by omega) rfl rfl (fun hc1 => absurd hc1 (by omega)) (fun hc1 => ?_)
    refine x_aload_n rfl rfl rfl ?_
    refine x_getR rfl rfl f_0_9 h1 h2 rfl h3 ?_
    refine x_iload_n rfl rfl rfl ?_
    refine x_lald (a := i) rfl rfl h4 h5 (by omega) (by omega) ?_
    refine x_aload_n rfl rfl rfl ?_
    refine x_getR rfl rfl f_0_9 g1 g2 rfl g3 ?_
    refine x_iload_n rfl rfl rfl ?_
    refine x_lald (a := i) rfl rfl g4 g5 (by omega) (by omega) ?_
    refine x_lc_eq rfl rfl rfl rfl (fun hc2 => ?_) (fun hc2 => ?_)
    · refine x_iincN (a := i) (b := 1) rfl rfl rfl rfl rfl ?_
      refine x_goto rfl rfl ?_
      exact ih (i + 1) (by omega) (fun k hk9 => by rcases Nat.lt_or_ge k i with z | z; exact hk k z; rw [show k = i by omega]; exact hc2)
    · refine x_iconstN (b := 0) rfl rfl ?_
      exact x_retZ rfl rfl rfl (Or.inl rfl) (by omega) (by rw [bI_f (fun z => hc2 (z i (by omega)))]) rfl
set_option maxHeartbeats 4000000 in
set_option maxRecDepth 20000 in
theorem c_LL_isLike (hG : Gok G) (h : LLk q q' N) (g : LLk q2 q2' N2) (hl : M.1 q 1 = nI len) (hle : len ≤ N) (hl2 : M.1 q2 1 = nI len2) (hle2 : len2 ≤ N2) : Ct G mX0_isLike d [.ref (ga G q), .ref (ga G q2)] M (.inl (some (.int (bI (len = len2 ∧ ∀ k, k < len → M.2 q' k = M.2 q2' k))))) M 0 := by
  obtain ⟨h1, h2, h3, h4, h5, h6⟩ := id h
  obtain ⟨g1, g2, g3, g4, g5, g6⟩ := id g
  refine ct_of hG okX0_isLike (by decide +kernel) rfl (Nat.le_of_ble_eq_true rfl) ?_
  refine x_aload_n rfl rfl rfl ?_
  refine x_getIv (v := nI len) hl rfl rfl f_0_15 h1 h2 rfl ?_
  refine x_aload_n rfl rfl rfl ?_
  refine x_getIv (v := nI len2) hl2 rfl rfl f_0_15 g1 g2 rfl ?_
  refine x_icmpN_eq (by omega) (by omega) rfl rfl (fun hc1 => ?_) (fun hc1 => ?_)
  · refine x_iconstN (b := 0) rfl rfl ?_
    refine x_istore_n rfl rfl rfl rfl ?_
    rw [bI_iff (show (len = len2 ∧ ∀ k, k < len → M.2 q' k = M.2 q2' k) ↔ (∀ k, k < len → M.2 q' k = M.2 q2' k) from ⟨fun z => z.2, fun z => ⟨by omega, z⟩⟩)]
    exact l_LL_isLike h g hl hle (by omega) len 0 (by omega) (fun k hk => by omega)
  · refine x_iconstN (b := 0) rfl rfl ?_
    exact x_retZ rfl rfl rfl (Or.inl rfl) (by omega) (by rw [bI_f (fun z => by omega)]) rfl
end C1
section C2
variable {G : Gd} {d : Nat} {M : Mm}
set_option maxHeartbeats 4000000 in
set_option maxRecDepth 20000 in
theorem c_Tr_become (hG : Gok G) (hd : 1 ≤ d) {t : Nat} (ht : t < 13) (nm : Int64) (dy : Prop) : Ct G mX6_become d [.ref (ga G (5, t)), .long (nm), .int (bI (dy))] M (.inl none) (ui (ui (ul M (5, t) 1 nm) (5, t) 2 (bI dy)) (6, t) 1 (nI 0)) 0 := by
  refine ct_of hG okX6_become (by decide +kernel) rfl (Nat.le_of_ble_eq_true rfl) ?_
  refine x_aload_n rfl rfl rfl ?_
  refine x_lload_n rfl rfl rfl ?_
  refine x_putL rfl rfl f_6_20 rfl rfl (by show _ < 13; omega) rfl ?_
  refine x_aload_n rfl rfl rfl ?_
  refine x_iload_n rfl rfl rfl ?_
  refine x_putZ rfl rfl f_6_24 rfl rfl (by show _ < 13; omega) rfl (by first | exact Or.inl rfl | exact Or.inr rfl | exact bI_01 _ | assumption) ?_
  refine x_aload_n rfl rfl rfl ?_
  refine x_getRi rfl rfl f_6_14 rfl (by show _ < 13; omega) rfl rfl ?_
  refine x_callVv (d2 := 0) (c_LL_empty hG (lk_6 (by omega))) rfl rfl v_6_28 rfl rfl (by show _ < 13; omega) rfl rfl (Nat.le_of_ble_eq_true rfl) (by omega) (by omega) ?_
  exact x_retV rfl rfl rfl (by omega) rfl rfl
set_option maxHeartbeats 4000000 in
set_option maxRecDepth 20000 in
theorem c_Th_become (hG : Gok G) (hd : 1 ≤ d) {i : Nat} (hi : i < 40) (kd : Int32) : Ct G mX5_become d [.ref (ga G (8, i)), .int (kd)] M (.inl none) (ui (ui (ui (ul (ui (ui M (8, i) 3 kd) (8, i) 4 (-1)) (8, i) 5 0) (9, i) 1 (nI 0)) (11, i) 1 (nI 0)) (13, i) 1 (nI 0)) 0 := by
  refine ct_of hG okX5_become (by decide +kernel) rfl (Nat.le_of_ble_eq_true rfl) ?_
  refine x_aload_n rfl rfl rfl ?_
  refine x_iload_n rfl rfl rfl ?_
  refine x_putI rfl rfl f_5_26 rfl rfl (by show _ < 40; omega) rfl ?_
  refine x_aload_n rfl rfl rfl ?_
  refine x_iconst (v := -1) rfl rfl (by decide +kernel) ?_
  refine x_putI rfl rfl f_5_30 rfl rfl (by show _ < 40; omega) rfl ?_
  refine x_aload_n rfl rfl rfl ?_
  refine x_lconst (v := 0) rfl rfl (by decide +kernel) ?_
  refine x_putL rfl rfl f_5_33 rfl rfl (by show _ < 40; omega) rfl ?_
  refine x_aload_n rfl rfl rfl ?_
  refine x_getRi rfl rfl f_5_14 rfl (by show _ < 40; omega) rfl rfl ?_
  refine x_callVv (d2 := 0) (c_LL_empty hG (lk_9 (by omega))) rfl rfl v_5_37 rfl rfl (by show _ < 40; omega) rfl rfl (Nat.le_of_ble_eq_true rfl) (by omega) (by omega) ?_
  refine x_aload_n rfl rfl rfl ?_
  refine x_getRi rfl rfl f_5_20 rfl (by show _ < 40; omega) rfl rfl ?_
  refine x_callVv (d2 := 0) (c_LL_empty hG (lk_11 (by omega))) rfl rfl v_5_37 rfl rfl (by show _ < 40; omega) rfl rfl (Nat.le_of_ble_eq_true rfl) (by omega) (by omega) ?_
  refine x_aload_n rfl rfl rfl ?_
  refine x_getRi rfl rfl f_5_23 rfl (by show _ < 40; omega) rfl rfl ?_
  refine x_callVv (d2 := 0) (c_LL_empty hG (lk_13 (by omega))) rfl rfl v_5_37 rfl rfl (by show _ < 40; omega) rfl rfl (Nat.le_of_ble_eq_true rfl) (by omega) (by omega) ?_
  exact x_retV rfl rfl rfl (by omega) rfl rfl
set_option maxHeartbeats 4000000 in
set_option maxRecDepth 20000 in
theorem c_St_keepOnly (hG : Gok G) (a b c : Int32) : Ct G mX4_keepOnly d [.ref (ga G (1, 0)), .int (a), .int (b), .int (c)] M (.inl none) (ui (ui (ui M (1, 0) 3 a) (1, 0) 4 b) (1, 0) 5 c) 0 := by
  refine ct_of hG okX4_keepOnly (by decide +kernel) rfl (Nat.le_of_ble_eq_true rfl) ?_
  refine x_aload_n rfl rfl rfl ?_
  refine x_iload_n rfl rfl rfl ?_
  refine x_putI rfl rfl f_4_29 rfl rfl (by decide) rfl ?_
  refine x_aload_n rfl rfl rfl ?_
  refine x_iload_n rfl rfl rfl ?_
  refine x_putI rfl rfl f_4_33 rfl rfl (by decide) rfl ?_
  refine x_aload_n rfl rfl rfl ?_
  refine x_iload_n rfl rfl rfl ?_
  refine x_putI rfl rfl f_4_36 rfl rfl (by decide) rfl ?_
  exact x_retV rfl rfl rfl (by omega) rfl rfl
set_option maxHeartbeats 4000000 in
set_option maxRecDepth 20000 in
theorem c_valueOf (hG : Gok G) (kd : Int32) (ab : Int64) : Ct G mX8_valueOf d [.int (kd), .long (ab)] M (.inl (some (.long (16 * ab + kd.toInt64)))) M 0 := by
  refine ct_of hG okX8_valueOf (by decide +kernel) rfl (Nat.le_of_ble_eq_true rfl) ?_
  refine x_ldc2 (v := 16) rfl rfl k_8_244 ?_
  refine x_lload_n rfl rfl rfl ?_
  refine x_lmul rfl rfl ?_
  refine x_iload_n rfl rfl rfl ?_
  refine x_i2l rfl rfl ?_
  refine x_ladd rfl rfl ?_
  exact x_retL rfl rfl rfl (by omega) rfl rfl
set_option maxHeartbeats 4000000 in
set_option maxRecDepth 20000 in
theorem c_kindOf (hG : Gok G) (v : Int64) : Ct G mX8_kindOf d [.long (v)] M (.inl (some (.int ((v &&& 15).toInt32)))) M 0 := by
  refine ct_of hG okX8_kindOf (by decide +kernel) rfl (Nat.le_of_ble_eq_true rfl) ?_
  refine x_lload_n rfl rfl rfl ?_
  refine x_ldc2 (v := 15) rfl rfl k_8_246 ?_
  refine x_land rfl rfl ?_
  refine x_l2i rfl rfl ?_
  exact x_retI rfl rfl rfl (by omega) rfl rfl
set_option maxHeartbeats 4000000 in
set_option maxRecDepth 20000 in
theorem c_aboveKind (hG : Gok G) (v : Int64) : Ct G mX8_aboveKind d [.long (v)] M (.inl (some (.long (v >>> ((nI 4).toInt64 &&& 63))))) M 0 := by
  refine ct_of hG okX8_aboveKind (by decide +kernel) rfl (Nat.le_of_ble_eq_true rfl) ?_
  refine x_lload_n rfl rfl rfl ?_
  refine x_iconstN (b := 4) rfl rfl ?_
  refine x_lshr rfl rfl ?_
  exact x_retL rfl rfl rfl (by omega) rfl rfl
end C2
