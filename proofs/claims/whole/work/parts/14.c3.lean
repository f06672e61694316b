section C5
variable {G : Gd} {d : Nat} {M : Mm}
theorem inTh {i n : Nat} (h : i < n) (hn : n ≤ 40) : ¬ lN i < 0 ∧ lN i < lN n :=
  ⟨fun z => absurd ((lN_lt (a := i) (b := 0) (by omega) (by decide)).mp z) (Nat.not_lt_zero _), (lN_lt (by omega) (by omega)).mpr h⟩
theorem i2l_toInt (x : Int32) : x.toInt64.toInt = x.toInt := Int32.toInt_toInt64 x
theorem outTh {th : Int32} {n : Nat} (h : ∀ i, i < n → th ≠ nI i) (hn : n ≤ 40) : ¬ (¬ th.toInt64 < 0 ∧ th.toInt64 < lN n) := by
  rintro ⟨h1, h2⟩
  rw [Int64.lt_iff_toInt_lt, i2l_toInt] at h1 h2
  rw [lN_toInt (by omega)] at h2
  have h0 : (0 : Int64).toInt = 0 := by decide +kernel
  rw [h0] at h1
  have h3 : ¬ th < 0 := by
    rw [Int32.lt_iff_toInt_lt]
    have : (0 : Int32).toInt = 0 := by decide +kernel
    omega
  obtain ⟨j, hj, rfl⟩ := nI_of h3
  rw [nI_toInt hj] at h2
  exact h j (by omega) rfl
set_option maxHeartbeats 4000000 in
set_option maxRecDepth 20000 in
theorem c_chp9 (hG : Gok G) {i : Nat} (hi : i < 40) (hk : M.1 (8, i) 3 = nI 9) : Ct G mX4_canHavePairs d [.ref (ga G (1, 0)), .ref (ga G (8, i))] M (.inl (some (.int (nI 1)))) M 0 := by
  refine ct_of hG okX4_canHavePairs (by decide +kernel) rfl (Nat.le_of_ble_eq_true rfl) ?_
  refine x_aload_n rfl rfl rfl ?_
  refine x_getIv (v := nI 9) hk rfl rfl f_4_84 rfl (by show _ < 40; omega) rfl ?_
  refine x_bipush (v := nI 9) rfl rfl (by decide +kernel) ?_
  refine x_icmpN_eq (by omega) (by omega) rfl rfl (fun hc1 => ?_) (fun hc1 => absurd hc1 (by omega))
  refine x_iconstN (b := 1) rfl rfl ?_
  refine x_goto rfl rfl ?_
  exact x_retZ rfl rfl rfl (Or.inr rfl) (by omega) rfl rfl
set_option maxHeartbeats 4000000 in
set_option maxRecDepth 20000 in
theorem c_chp10 (hG : Gok G) {i t : Nat} (hi : i < 40) (ht : t < 13) (dy : Prop) (hk : M.1 (8, i) 3 = nI 10) (htr : M.1 (8, i) 4 = nI t) (hdy : M.1 (5, t) 2 = bI dy) : Ct G mX4_canHavePairs d [.ref (ga G (1, 0)), .ref (ga G (8, i))] M (.inl (some (.int (bI dy)))) M 0 := by
  refine ct_of hG okX4_canHavePairs (by decide +kernel) rfl (Nat.le_of_ble_eq_true rfl) ?_
  refine x_aload_n rfl rfl rfl ?_
  refine x_getIv (v := nI 10) hk rfl rfl f_4_84 rfl (by show _ < 40; omega) rfl ?_
  refine x_bipush (v := nI 9) rfl rfl (by decide +kernel) ?_
  refine x_icmpN_eq (by omega) (by omega) rfl rfl (fun hc1 => absurd hc1 (by omega)) (fun hc1 => ?_)
  refine x_aload_n rfl rfl rfl ?_
  refine x_getIv (v := nI 10) hk rfl rfl f_4_84 rfl (by show _ < 40; omega) rfl ?_
  refine x_bipush (v := nI 10) rfl rfl (by decide +kernel) ?_
  refine x_icmpN_ne (by omega) (by omega) rfl rfl (fun hc2 => absurd hc2 (by omega)) (fun hc2 => ?_)
  refine x_aload_n rfl rfl rfl ?_
  refine x_getR0 rfl rfl f_4_17 rfl (by decide) rfl rfl ?_
  refine x_aload_n rfl rfl rfl ?_
  refine x_getIv (v := nI t) htr rfl rfl f_4_62 rfl (by show _ < 40; omega) rfl ?_
  refine x_aaldi (a := t) rfl rfl rfl (by decide) (by decide) (by omega) (by decide) rfl ?_
  refine x_getZv (v := bI (dy)) hdy rfl rfl f_4_87 rfl (by show _ < 13; omega) rfl ?_
  refine x_ifB_eq rfl rfl (fun hc3 => ?_) (fun hc3 => ?_)
  · refine x_iconstN (b := 0) rfl rfl ?_
    exact x_retZ rfl rfl rfl (by first | exact Or.inl rfl | exact Or.inr rfl) (by omega) (oB_f hc3) rfl
  · refine x_iconstN (b := 1) rfl rfl ?_
    refine x_goto rfl rfl ?_
    exact x_retZ rfl rfl rfl (by first | exact Or.inl rfl | exact Or.inr rfl) (by omega) (oB_t hc3) rfl
set_option maxHeartbeats 4000000 in
set_option maxRecDepth 20000 in
theorem c_chpO (hG : Gok G) {i kd : Nat} (hi : i < 40) (hkd : kd < 16) (hk : M.1 (8, i) 3 = nI kd) (h9 : kd ≠ 9) (h10 : kd ≠ 10) : Ct G mX4_canHavePairs d [.ref (ga G (1, 0)), .ref (ga G (8, i))] M (.inl (some (.int (nI 0)))) M 0 := by
  refine ct_of hG okX4_canHavePairs (by decide +kernel) rfl (Nat.le_of_ble_eq_true rfl) ?_
  refine x_aload_n rfl rfl rfl ?_
  refine x_getIv (v := nI kd) hk rfl rfl f_4_84 rfl (by show _ < 40; omega) rfl ?_
  refine x_bipush (v := nI 9) rfl rfl (by decide +kernel) ?_
  refine x_icmpN_eq (by omega) (by omega) rfl rfl (fun hc1 => absurd hc1 (by omega)) (fun hc1 => ?_)
  refine x_aload_n rfl rfl rfl ?_
  refine x_getIv (v := nI kd) hk rfl rfl f_4_84 rfl (by show _ < 40; omega) rfl ?_
  refine x_bipush (v := nI 10) rfl rfl (by decide +kernel) ?_
  refine x_icmpN_ne (by omega) (by omega) rfl rfl (fun hc2 => ?_) (fun hc2 => absurd hc2 (by omega))
  refine x_iconstN (b := 0) rfl rfl ?_
  exact x_retZ rfl rfl rfl (Or.inl rfl) (by omega) rfl rfl
set_option maxHeartbeats 4000000 in
set_option maxRecDepth 20000 in
theorem c_isMember10 (hG : Gok G) (hd : 2 ≤ d) {i t m : Nat} (hi : i < 40) (ht : t < 13) (e : Int64) (hk : M.1 (8, i) 3 = nI 10) (htr : M.1 (8, i) 4 = nI t) (hm : M.1 (6, t) 1 = nI m) (hm2 : m ≤ 3) : Ct G mX4_isMember d [.ref (ga G (1, 0)), .ref (ga G (8, i)), .long (e)] M (.inl (some (.int (bI (fx (M.2 (7, t)) e 0 m ≠ none))))) M 0 := by
  refine ct_of hG okX4_isMember (by decide +kernel) rfl (Nat.le_of_ble_eq_true rfl) ?_
  refine x_aload_n rfl rfl rfl ?_
  refine x_getIv (v := nI 10) hk rfl rfl f_4_84 rfl (by show _ < 40; omega) rfl ?_
  refine x_bipush (v := nI 10) rfl rfl (by decide +kernel) ?_
  refine x_icmpN_ne (by omega) (by omega) rfl rfl (fun hc1 => absurd hc1 (by omega)) (fun hc1 => ?_)
  refine x_aload_n rfl rfl rfl ?_
  refine x_getR0 rfl rfl f_4_17 rfl (by decide) rfl rfl ?_
  refine x_aload_n rfl rfl rfl ?_
  refine x_getIv (v := nI t) htr rfl rfl f_4_62 rfl (by show _ < 40; omega) rfl ?_
  refine x_aaldi (a := t) rfl rfl rfl (by decide) (by decide) (by omega) (by decide) rfl ?_
  refine x_getRi rfl rfl f_4_64 rfl (by show _ < 13; omega) rfl rfl ?_
  refine x_lload_n rfl rfl rfl ?_
  refine x_callVi (d2 := 1) (c_LL_has (len := m) hG (lk_6 (by omega)) (e) hm (by omega) (by decide) (Nat.le_refl 1)) rfl rfl v_4_91 rfl rfl (by show _ < 13; omega) rfl rfl (Nat.le_of_ble_eq_true rfl) (by omega) (by omega) ?_
  refine x_ifB_eq rfl rfl (fun hc2 => ?_) (fun hc2 => ?_)
  · refine x_iconstN (b := 0) rfl rfl ?_
    exact x_retZ rfl rfl rfl (by first | exact Or.inl rfl | exact Or.inr rfl) (by omega) (oB_f hc2) rfl
  · refine x_iconstN (b := 1) rfl rfl ?_
    refine x_goto rfl rfl ?_
    exact x_retZ rfl rfl rfl (by first | exact Or.inl rfl | exact Or.inr rfl) (by omega) (oB_t hc2) rfl
set_option maxHeartbeats 4000000 in
set_option maxRecDepth 20000 in
theorem c_isMemberO (hG : Gok G) {i kd : Nat} (hi : i < 40) (hkd : kd < 16) (e : Int64) (hk : M.1 (8, i) 3 = nI kd) (h10 : kd ≠ 10) : Ct G mX4_isMember d [.ref (ga G (1, 0)), .ref (ga G (8, i)), .long (e)] M (.inl (some (.int (nI 0)))) M 0 := by
  refine ct_of hG okX4_isMember (by decide +kernel) rfl (Nat.le_of_ble_eq_true rfl) ?_
  refine x_aload_n rfl rfl rfl ?_
  refine x_getIv (v := nI kd) hk rfl rfl f_4_84 rfl (by show _ < 40; omega) rfl ?_
  refine x_bipush (v := nI 10) rfl rfl (by decide +kernel) ?_
  refine x_icmpN_ne (by omega) (by omega) rfl rfl (fun hc1 => ?_) (fun hc1 => absurd hc1 (by omega))
  refine x_iconstN (b := 0) rfl rfl ?_
  exact x_retZ rfl rfl rfl (Or.inl rfl) (by omega) rfl rfl
/-- traits that are alike in all -/
def alk (M : Mm) (a b la lb : Nat) : Prop := M.2 (5, a) 1 = M.2 (5, b) 1 ∧ M.1 (5, a) 2 = M.1 (5, b) 2 ∧ la = lb ∧ ∀ k, k < la → M.2 (7, a) k = M.2 (7, b) k
set_option maxHeartbeats 4000000 in
set_option maxRecDepth 20000 in
theorem c_isAlike (hG : Gok G) (hd : 1 ≤ d) {a b la lb : Nat} (ha : a < 13) (hb : b < 13) (hla : M.1 (6, a) 1 = nI la) (hla2 : la ≤ 3) (hlb : M.1 (6, b) 1 = nI lb) (hlb2 : lb ≤ 3) : Ct G mX6_isAlike d [.ref (ga G (5, a)), .ref (ga G (5, b))] M (.inl (some (.int (bI (alk M a b la lb))))) M 0 := by
  refine ct_of hG okX6_isAlike (by decide +kernel) rfl (Nat.le_of_ble_eq_true rfl) ?_
  refine x_aload_n rfl rfl rfl ?_
  refine x_getL rfl rfl f_6_20 rfl (by show _ < 13; omega) rfl ?_
  refine x_aload_n rfl rfl rfl ?_
  refine x_getL rfl rfl f_6_20 rfl (by show _ < 13; omega) rfl ?_
  refine x_lc_ne rfl rfl rfl rfl (fun hc1 => ?_) (fun hc1 => ?_)
  · refine x_iconstN (b := 0) rfl rfl ?_
    exact x_retZ rfl rfl rfl (by first | exact Or.inl rfl | exact Or.inr rfl) (by omega) (oB_f (fun z => hc1 z.1)) rfl
  · refine x_aload_n rfl rfl rfl ?_
    refine x_getZ rfl rfl f_6_24 rfl (by show _ < 13; omega) rfl ?_
    refine x_aload_n rfl rfl rfl ?_
    refine x_getZ rfl rfl f_6_24 rfl (by show _ < 13; omega) rfl ?_
    refine x_icmp_ne rfl rfl (fun hc2 => ?_) (fun hc2 => ?_)
    · refine x_iconstN (b := 0) rfl rfl ?_
      exact x_retZ rfl rfl rfl (by first | exact Or.inl rfl | exact Or.inr rfl) (by omega) (oB_f (fun z => hc2 z.2.1)) rfl
    · refine x_aload_n rfl rfl rfl ?_
      refine x_getRi rfl rfl f_6_14 rfl (by show _ < 13; omega) rfl rfl ?_
      refine x_aload_n rfl rfl rfl ?_
      refine x_getRi rfl rfl f_6_14 rfl (by show _ < 13; omega) rfl rfl ?_
      refine x_callVi (d2 := 0) (c_LL_isLike (len := la) (len2 := lb) hG (lk_6 (by omega)) (lk_6 (by omega)) hla (by omega) hlb (by omega)) rfl rfl v_6_31 rfl rfl (by show _ < 13; omega) rfl rfl (Nat.le_of_ble_eq_true rfl) (by omega) (by omega) ?_
      refine x_ifB_eq rfl rfl (fun hc3 => ?_) (fun hc3 => ?_)
      · refine x_iconstN (b := 0) rfl rfl ?_
        exact x_retZ rfl rfl rfl (by first | exact Or.inl rfl | exact Or.inr rfl) (by omega) (oB_f (fun z => hc3 z.2.2)) rfl
      · refine x_iconstN (b := 1) rfl rfl ?_
        refine x_goto rfl rfl ?_
        exact x_retZ rfl rfl rfl (by first | exact Or.inl rfl | exact Or.inr rfl) (by omega) (oB_t ⟨hc1, hc2, hc3⟩) rfl
set_option maxHeartbeats 4000000 in
set_option maxRecDepth 20000 in
theorem c_addMember0 (hG : Gok G) {t : Nat} (ht : t < 13) : Ct G mX8_addMember d [.ref (ga G (5, t)), .long (0)] M (.inl none) M 0 := by
  refine ct_of hG okX8_addMember (by decide +kernel) rfl (Nat.le_of_ble_eq_true rfl) ?_
  refine x_lload_n rfl rfl rfl ?_
  refine x_lconst (v := 0) rfl rfl (by decide +kernel) ?_
  refine x_lc_eq rfl rfl rfl rfl (fun hc1 => ?_) (fun hc1 => absurd rfl hc1)
  exact x_retV rfl rfl rfl (by omega) rfl rfl
set_option maxHeartbeats 4000000 in
set_option maxRecDepth 20000 in
theorem c_addMember1 (hG : Gok G) (hd : 1 ≤ d) {t m : Nat} (ht : t < 13) (e : Int64) (he : e ≠ 0) (hm : M.1 (6, t) 1 = nI m) (hm2 : m < 3) : Ct G mX8_addMember d [.ref (ga G (5, t)), .long (e)] M (.inl none) (ui (ul M (7, t) m e) (6, t) 1 (nI (m + 1))) 0 := by
  refine ct_of hG okX8_addMember (by decide +kernel) rfl (Nat.le_of_ble_eq_true rfl) ?_
  refine x_lload_n rfl rfl rfl ?_
  refine x_lconst (v := 0) rfl rfl (by decide +kernel) ?_
  refine x_lc_eq rfl rfl rfl rfl (fun hc1 => absurd hc1 he) (fun hc1 => ?_)
  refine x_aload_n rfl rfl rfl ?_
  refine x_getRi rfl rfl f_8_239 rfl (by show _ < 13; omega) rfl rfl ?_
  refine x_lload_n rfl rfl rfl ?_
  refine x_callVv (d2 := 0) (c_LL_add (len := m) hG (lk_6 (by omega)) (e) hm (by omega)) rfl rfl v_8_97 rfl rfl (by show _ < 13; omega) rfl rfl (Nat.le_of_ble_eq_true rfl) (by omega) (by omega) ?_
  exact x_retV rfl rfl rfl (by omega) rfl rfl
def cbm (a b c : Int64) : Prop := (isTx a ∧ isTx b ∧ isTx c) ∧ ((a = 0 ∧ b = 0 ∧ c = 0) ∨ (a ≠ 0 ∧ b = 0 ∧ c = 0) ∨ (a ≠ 0 ∧ b ≠ 0 ∧ a ≠ b ∧ a ≠ c ∧ b ≠ c))
set_option maxHeartbeats 4000000 in
set_option maxRecDepth 20000 in
theorem c_canBeMembers (hG : Gok G) (hd : 1 ≤ d) (a b c : Int64) : Ct G mX8_canBeMembers d [.long (a), .long (b), .long (c)] M (.inl (some (.int (bI (cbm a b c))))) M 0 := by
  refine ct_of hG okX8_canBeMembers (by decide +kernel) rfl (Nat.le_of_ble_eq_true rfl) ?_
  refine x_lload_n rfl rfl rfl ?_
  refine x_callSi (d2 := 0) (c_isText hG (a)) rfl rfl s_8_101 rfl rfl (Nat.le_of_ble_eq_true rfl) (by omega) (by omega) ?_
  refine x_ifB_eq rfl rfl (fun hc1 => ?_) (fun hc1 => ?_)
  · refine x_iconstN (b := 0) rfl rfl ?_
    exact x_retZ rfl rfl rfl (by first | exact Or.inl rfl | exact Or.inr rfl) (by omega) (oB_f (by unfold cbm; simp_all)) rfl
  · refine x_lload_n rfl rfl rfl ?_
    refine x_callSi (d2 := 0) (c_isText hG (b)) rfl rfl s_8_101 rfl rfl (Nat.le_of_ble_eq_true rfl) (by omega) (by omega) ?_
    refine x_ifB_eq rfl rfl (fun hc2 => ?_) (fun hc2 => ?_)
    · refine x_iconstN (b := 0) rfl rfl ?_
      exact x_retZ rfl rfl rfl (by first | exact Or.inl rfl | exact Or.inr rfl) (by omega) (oB_f (by unfold cbm; simp_all)) rfl
    · refine x_lload rfl rfl rfl ?_
      refine x_callSi (d2 := 0) (c_isText hG (c)) rfl rfl s_8_101 rfl rfl (Nat.le_of_ble_eq_true rfl) (by omega) (by omega) ?_
      refine x_ifB_ne rfl rfl (fun hc3 => ?_) (fun hc3 => ?_)
      · refine x_lload_n rfl rfl rfl ?_
        refine x_lconst (v := 0) rfl rfl (by decide +kernel) ?_
        refine x_lc_ne rfl rfl rfl rfl (fun hc4 => ?_) (fun hc4 => ?_)
        · refine x_lload_n rfl rfl rfl ?_
          refine x_lconst (v := 0) rfl rfl (by decide +kernel) ?_
          refine x_lc_ne rfl rfl rfl rfl (fun hc5 => ?_) (fun hc5 => ?_)
          · refine x_lload_n rfl rfl rfl ?_
            refine x_lload_n rfl rfl rfl ?_
            refine x_lc_eq rfl rfl rfl rfl (fun hc6 => ?_) (fun hc6 => ?_)
            · refine x_iconstN (b := 0) rfl rfl ?_
              exact x_retZ rfl rfl rfl (by first | exact Or.inl rfl | exact Or.inr rfl) (by omega) (oB_f (by unfold cbm; simp_all)) rfl
            · refine x_lload_n rfl rfl rfl ?_
              refine x_lload rfl rfl rfl ?_
              refine x_lc_eq rfl rfl rfl rfl (fun hc7 => ?_) (fun hc7 => ?_)
              · refine x_iconstN (b := 0) rfl rfl ?_
                exact x_retZ rfl rfl rfl (by first | exact Or.inl rfl | exact Or.inr rfl) (by omega) (oB_f (by unfold cbm; simp_all)) rfl
              · refine x_lload_n rfl rfl rfl ?_
                refine x_lload rfl rfl rfl ?_
                refine x_lc_eq rfl rfl rfl rfl (fun hc8 => ?_) (fun hc8 => ?_)
                · refine x_iconstN (b := 0) rfl rfl ?_
                  exact x_retZ rfl rfl rfl (by first | exact Or.inl rfl | exact Or.inr rfl) (by omega) (oB_f (by unfold cbm; simp_all)) rfl
                · refine x_iconstN (b := 1) rfl rfl ?_
                  refine x_goto rfl rfl ?_
                  exact x_retZ rfl rfl rfl (by first | exact Or.inl rfl | exact Or.inr rfl) (by omega) (oB_t (by unfold cbm; simp_all)) rfl
          · refine x_lload rfl rfl rfl ?_
            refine x_lconst (v := 0) rfl rfl (by decide +kernel) ?_
            refine x_lc_ne rfl rfl rfl rfl (fun hc9 => ?_) (fun hc9 => ?_)
            · refine x_iconstN (b := 0) rfl rfl ?_
              exact x_retZ rfl rfl rfl (by first | exact Or.inl rfl | exact Or.inr rfl) (by omega) (oB_f (by unfold cbm; simp_all)) rfl
            · refine x_iconstN (b := 1) rfl rfl ?_
              refine x_goto rfl rfl ?_
              exact x_retZ rfl rfl rfl (by first | exact Or.inl rfl | exact Or.inr rfl) (by omega) (oB_t (by unfold cbm; simp_all)) rfl
        · refine x_lload_n rfl rfl rfl ?_
          refine x_lconst (v := 0) rfl rfl (by decide +kernel) ?_
          refine x_lc_ne rfl rfl rfl rfl (fun hc10 => ?_) (fun hc10 => ?_)
          · refine x_iconstN (b := 0) rfl rfl ?_
            exact x_retZ rfl rfl rfl (by first | exact Or.inl rfl | exact Or.inr rfl) (by omega) (oB_f (by unfold cbm; simp_all)) rfl
          · refine x_lload rfl rfl rfl ?_
            refine x_lconst (v := 0) rfl rfl (by decide +kernel) ?_
            refine x_lc_ne rfl rfl rfl rfl (fun hc11 => ?_) (fun hc11 => ?_)
            · refine x_iconstN (b := 0) rfl rfl ?_
              exact x_retZ rfl rfl rfl (by first | exact Or.inl rfl | exact Or.inr rfl) (by omega) (oB_f (by unfold cbm; simp_all)) rfl
            · refine x_iconstN (b := 1) rfl rfl ?_
              refine x_goto rfl rfl ?_
              exact x_retZ rfl rfl rfl (by first | exact Or.inl rfl | exact Or.inr rfl) (by omega) (oB_t (by unfold cbm; simp_all)) rfl
      · refine x_iconstN (b := 0) rfl rfl ?_
        exact x_retZ rfl rfl rfl (by first | exact Or.inl rfl | exact Or.inr rfl) (by omega) (oB_f (by unfold cbm; simp_all)) rfl
/-- how many of n bytes from i on aren't 0 -/
def cz (u : Nat) : Nat → Nat → Nat
  | _, 0 => 0
  | i, n + 1 => (if u / 2 ^ (8 * i) % 256 = 0 then 0 else 1) + cz u (i + 1) n
theorem cz_s (u i n : Nat) : cz u i (n + 1) = (if u / 2 ^ (8 * i) % 256 = 0 then 0 else 1) + cz u (i + 1) n := rfl
theorem cz_le (u : Nat) : ∀ i n, cz u i n ≤ n
  | _, 0 => Nat.le_refl 0
  | i, n + 1 => by
    have := cz_le u (i + 1) n
    unfold cz
    split <;> omega
theorem sb_0 (t : Int64) {i : Nat} (h : i < 7) : ((t >>> ((nI (8 * i)).toInt64 &&& 63)) &&& 255) = 0 ↔ uN t / 2 ^ (8 * i) % 256 = 0 := by rw [uN_eq0, uN_sbyte t (by omega)]
set_option maxHeartbeats 4000000 in
theorem l_textSize (t : Int64) : ∀ (n i a : Nat), i + n = 7 → a ≤ i → Fr G mX8_textSize d 0 (Zm G (.inl (some (.int (nI (a + cz (uN t) i n))))) M 0) 0 4 [(0, .long (t)), (2, .int (nI a)), (3, .int (nI i))] [] M := by
  intro n
  induction n with
  | zero =>
    intro i a hi ha
    refine x_iload_n rfl rfl rfl ?_
    refine x_bipush (v := nI 7) rfl rfl (by decide +kernel) ?_
    refine x_icmpN_ge (by omega) (by omega) rfl rfl (fun hc1 => ?_) (fun hc1 => absurd hc1 (by omega))
    refine x_iload_n rfl rfl rfl ?_
    exact x_retI rfl rfl rfl (by omega) rfl rfl
  | succ n ih =>
    intro i a hi ha
    refine x_iload_n rfl rfl rfl ?_
    refine x_bipush (v := nI 7) rfl rfl (by decide +kernel) ?_
    refine x_icmpN_ge (by omega) (by omega) rfl rfl (fun hc1 => absurd hc1 (by omega)) (fun hc1 => ?_)
    refine x_iload_n rfl rfl rfl ?_
    refine x_lload_n rfl rfl rfl ?_
    refine x_bipush (v := nI 8) rfl rfl (by decide +kernel) ?_
    refine x_iload_n rfl rfl rfl ?_
    refine x_imulN (a := 8) (b := i) rfl rfl ?_
    refine x_lshr rfl rfl ?_
    refine x_ldc2 (v := 255) rfl rfl k_8_95 ?_
    refine x_land rfl rfl ?_
    refine x_lconst (v := 0) rfl rfl (by decide +kernel) ?_
    refine x_lc_eq rfl rfl rfl rfl (fun hc2 => ?_) (fun hc2 => ?_)
    · refine x_iconstN (b := 0) rfl rfl ?_
      refine x_iaddN (a := a) (b := 0) rfl rfl ?_
      refine x_istore_n rfl rfl rfl rfl ?_
      refine x_iincN (a := i) (b := 1) rfl rfl rfl rfl rfl ?_
      refine x_goto rfl rfl ?_
      (have hz := ih (i + 1) (a + 0) (by omega) (by omega); rw [show a + 0 + cz (uN t) (i + 1) n = a + cz (uN t) i (n + 1) by rw [cz_s, if_pos ((sb_0 t (by omega)).mp hc2)]; omega] at hz; exact hz)
    · refine x_iconstN (b := 1) rfl rfl ?_
      refine x_goto rfl rfl ?_
      refine x_iaddN (a := a) (b := 1) rfl rfl ?_
      refine x_istore_n rfl rfl rfl rfl ?_
      refine x_iincN (a := i) (b := 1) rfl rfl rfl rfl rfl ?_
      refine x_goto rfl rfl ?_
      (have hz := ih (i + 1) (a + 1) (by omega) (by omega); rw [show a + 1 + cz (uN t) (i + 1) n = a + cz (uN t) i (n + 1) by rw [cz_s, if_neg (fun z => hc2 ((sb_0 t (by omega)).mpr z))]; omega] at hz; exact hz)
set_option maxHeartbeats 4000000 in
set_option maxRecDepth 20000 in
theorem c_textSize (hG : Gok G) (t : Int64) : Ct G mX8_textSize d [.long (t)] M (.inl (some (.int (nI (cz (uN t) 0 7))))) M 0 := by
  refine ct_of hG okX8_textSize (by decide +kernel) rfl (Nat.le_of_ble_eq_true rfl) ?_
  refine x_iconstN (b := 0) rfl rfl ?_
  refine x_istore_n rfl rfl rfl rfl ?_
  refine x_iconstN (b := 0) rfl rfl ?_
  refine x_istore_n rfl rfl rfl rfl ?_
  (have hz := l_textSize (G := G) (d := d) (M := M) t 7 0 0 (by omega) (by omega); rw [Nat.zero_add] at hz; exact hz)
end C5
