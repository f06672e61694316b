/-- the least i of i .. i + n with nothing from byte i on -/
def nl (u : Nat) : Nat → Nat → Nat
  | i, 0 => i
  | i, n + 1 => if u / 2 ^ (8 * i) = 0 then i else nl u (i + 1) n
theorem nl_s (u i n : Nat) : nl u i (n + 1) = if u / 2 ^ (8 * i) = 0 then i else nl u (i + 1) n := rfl
theorem nl_le (u : Nat) : ∀ n i, i ≤ nl u i n ∧ nl u i n ≤ i + n
  | 0, i => ⟨Nat.le_refl _, Nat.le_refl _⟩
  | n + 1, i => by
    have := nl_le u n (i + 1)
    rw [nl_s]
    split <;> omega
/-- a letter of a text -/
def okL (u k : Nat) : Prop := 1 ≤ u / 2 ^ (8 * k) % 256 ∧ u / 2 ^ (8 * k) % 256 ≤ 126
theorem div_step (u i : Nat) : u / 2 ^ (8 * i) / 256 = u / 2 ^ (8 * (i + 1)) := by
  rw [Nat.div_div_eq_div_mul, show 2 ^ (8 * (i + 1)) = 2 ^ (8 * i) * 256 by rw [show 8 * (i + 1) = 8 * i + 8 by omega, Nat.pow_add]]
theorem nl_tx (u : Nat) : ∀ n i, (nl u i (n + 1) < i + n + 1 ∧ ∀ k, i ≤ k → k < nl u i (n + 1) → okL u k) ↔ txN n (u / 2 ^ (8 * i))
  | 0, i => by
    rw [nl_s]
    show _ ↔ u / 2 ^ (8 * i) = 0
    by_cases h : u / 2 ^ (8 * i) = 0
    · rw [if_pos h]
      exact ⟨fun _ => h, fun _ => ⟨by omega, fun k h1 h2 => by omega⟩⟩
    · rw [if_neg h]
      exact ⟨fun z => absurd z.1 (by show ¬ i + 1 < _; omega), fun z => absurd z h⟩
  | n + 1, i => by
    have ih := nl_tx u n (i + 1)
    rw [nl_s]
    show _ ↔ (u / 2 ^ (8 * i) = 0 ∨ ((u / 2 ^ (8 * i) % 256 ≠ 0 ∧ u / 2 ^ (8 * i) % 256 ≤ 126) ∧ txN n (u / 2 ^ (8 * i) / 256)))
    rw [div_step, ← ih]
    by_cases h : u / 2 ^ (8 * i) = 0
    · rw [if_pos h]
      exact ⟨fun _ => Or.inl h, fun _ => ⟨by omega, fun k h1 h2 => by omega⟩⟩
    · rw [if_neg h]
      have hb := nl_le u (n + 1) (i + 1)
      constructor
      · rintro ⟨z1, z2⟩
        have hi := z2 i (Nat.le_refl _) (by omega)
        exact Or.inr ⟨⟨by unfold okL at hi; omega, hi.2⟩, by omega, fun k h1 h2 => z2 k (by omega) h2⟩
      · rintro (z | ⟨⟨z1, z2⟩, z3, z4⟩)
        · exact absurd z h
        · refine ⟨by omega, fun k h1 h2 => ?_⟩
          rcases Nat.lt_or_ge i k with q | q
          · exact z4 k (by omega) h2
          · rw [show k = i by omega]
            exact ⟨by omega, z2⟩
theorem isTx_iff (t : Int64) : (nl (uN t) 0 8 < 8 ∧ ∀ k, k < nl (uN t) 0 8 → okL (uN t) k) ↔ isTx t := by
  have h := nl_tx (uN t) 7 0
  rw [show uN t / 2 ^ (8 * 0) = uN t by simp] at h
  unfold isTx
  rw [← h]
  exact ⟨fun z => ⟨z.1, fun k _ h2 => z.2 k h2⟩, fun z => ⟨z.1, fun k h2 => z.2 k (Nat.zero_le _) h2⟩⟩
theorem txN_lt : ∀ n u, txN n u → u < 256 ^ n
  | 0, u, h => by have : u = 0 := h; omega
  | n + 1, u, h => by
    rcases h with h | ⟨-, h⟩
    · have : 0 < 256 ^ (n + 1) := Nat.pow_pos (by decide)
      omega
    · have := txN_lt n _ h
      rw [Nat.pow_succ]
      omega
theorem isTx_pos {t : Int64} (h : isTx t) : ¬ t < 0 := by
  have h1 := txN_lt 7 _ h
  have h2 : uN t < 9223372036854775808 := by
    have : (256 : Nat) ^ 7 = 72057594037927936 := by decide
    omega
  rw [lt_small h2 (by decide +kernel)]
  exact Nat.not_lt_zero _
theorem ub_1 (t : Int64) {k : Nat} (h : k < 8) : ¬ (((t.toUInt64 >>> ((nI (8 * k)).toInt64.toUInt64 &&& Int64.toUInt64 63)).toInt64 &&& 255) < 1) ↔ 1 ≤ uN t / 2 ^ (8 * k) % 256 := by
  rw [lt_small (by rw [uN_255]; omega) (by decide +kernel), uN_255, uN_sk t (by omega), show uN 1 = 1 from by decide +kernel]
  omega
theorem ub_126 (t : Int64) {k : Nat} (h : k < 8) : (((t.toUInt64 >>> ((nI (8 * k)).toInt64.toUInt64 &&& Int64.toUInt64 63)).toInt64 &&& 255) ≤ 126) ↔ uN t / 2 ^ (8 * k) % 256 ≤ 126 := by
  rw [le_small (by rw [uN_255]; omega) (by decide +kernel), uN_255, uN_sk t (by omega), show uN 126 = 126 from by decide +kernel]
theorem us_0 (t : Int64) {k : Nat} (h : k < 8) : (t.toUInt64 >>> ((nI (8 * k)).toInt64.toUInt64 &&& Int64.toUInt64 63)).toInt64 = 0 ↔ uN t / 2 ^ (8 * k) = 0 := by
  rw [uN_eq0, uN_sk t (by omega)]
section D1
variable {G : Gd} {d : Nat} {M : Mm}
theorem okL_step {Q : Prop} {u i m : Nat} (h : i < m) : (Q ∧ ∀ k, i ≤ k → k < m → okL u k) ↔ ((Q ∧ okL u i) ∧ ∀ k, i + 1 ≤ k → k < m → okL u k) :=
  ⟨fun z => ⟨⟨z.1, z.2 i (Nat.le_refl _) h⟩, fun k h1 h2 => z.2 k (by omega) h2⟩, fun z => ⟨z.1.1, fun k h1 h2 => by
    rcases Nat.lt_or_ge i k with q | q
    · exact z.2 k (by omega) h2
    · rw [show k = i by omega]; exact z.1.2⟩⟩
set_option maxHeartbeats 4000000 in
theorem l_letters (t : Int64) : ∀ (n i : Nat), i + n = 8 → Fr G mX9_letters d 0 (Zm G (.inl (some (.int (nI (nl (uN t) i n))))) M 0) 0 2 [(0, .long (t)), (2, .int (nI i))] [] M := by
  intro n
  induction n with
  | zero =>
    intro i hi
    refine x_iload_n rfl rfl rfl ?_
    refine x_bipush (v := nI 8) rfl rfl (by decide +kernel) ?_
    refine x_icmpN_ge (by omega) (by omega) rfl rfl (fun hc1 => ?_) (fun hc1 => absurd hc1 (by omega))
    refine x_iload_n rfl rfl rfl ?_
    exact x_retI rfl rfl rfl (by omega) rfl rfl
  | succ n ih =>
    intro i hi
    refine x_iload_n rfl rfl rfl ?_
    refine x_bipush (v := nI 8) rfl rfl (by decide +kernel) ?_
    refine x_icmpN_ge (by omega) (by omega) rfl rfl (fun hc1 => absurd hc1 (by omega)) (fun hc1 => ?_)
    refine x_lload_n rfl rfl rfl ?_
    refine x_bipush (v := nI 8) rfl rfl (by decide +kernel) ?_
    refine x_iload_n rfl rfl rfl ?_
    refine x_imulN (a := 8) (b := i) rfl rfl ?_
    refine x_lushr rfl rfl ?_
    refine x_lconst (v := 0) rfl rfl (by decide +kernel) ?_
    refine x_lc_eq rfl rfl rfl rfl (fun hc2 => ?_) (fun hc2 => ?_)
    · refine x_iload_n rfl rfl rfl ?_
      (rw [nl_s, if_pos ((us_0 t (by omega)).mp hc2)]; exact x_retI rfl rfl rfl (by omega) rfl rfl)
    · refine x_iincN (a := i) (b := 1) rfl rfl rfl rfl rfl ?_
      refine x_goto rfl rfl ?_
      (have hz := ih (i + 1) (by omega); rw [nl_s, if_neg (fun z => hc2 ((us_0 t (by omega)).mpr z))]; exact hz)
set_option maxHeartbeats 4000000 in
set_option maxRecDepth 20000 in
theorem c_letters (hG : Gok G) (t : Int64) : Ct G mX9_letters d [.long (t)] M (.inl (some (.int (nI (nl (uN t) 0 8))))) M 0 := by
  refine ct_of hG okX9_letters (by decide +kernel) rfl (Nat.le_of_ble_eq_true rfl) ?_
  refine x_iconstN (b := 0) rfl rfl ?_
  refine x_istore_n rfl rfl rfl rfl ?_
  exact l_letters t 8 0 (by omega)
set_option maxHeartbeats 4000000 in
theorem l_misText (t : Int64) (m : Nat) (hm : m ≤ 8) : ∀ (n i : Nat) (Q : Prop), i + n = m → Fr G mX9_isText d 0 (Zm G (.inl (some (.int (bI (Q ∧ ∀ k, i ≤ k → k < m → okL (uN t) k))))) M 0) 0 20 [(0, .long (t)), (2, .int (nI m)), (3, .int (bI (Q))), (4, .int (nI i))] [] M := by
  intro n
  induction n with
  | zero =>
    intro i Q hi
    refine x_iload rfl rfl rfl ?_
    refine x_iload_n rfl rfl rfl ?_
    refine x_icmpN_ge (by omega) (by omega) rfl rfl (fun hc1 => ?_) (fun hc1 => absurd hc1 (by omega))
    refine x_iload_n rfl rfl rfl ?_
    (rw [bI_iff (show (Q ∧ ∀ k, i ≤ k → k < m → okL (uN t) k) ↔ Q from ⟨fun z => z.1, fun z => ⟨z, fun k h1 h2 => by omega⟩⟩)]; exact x_retZ rfl rfl rfl (bI_01 _) (by omega) rfl rfl)
  | succ n ih =>
    intro i Q hi
    refine x_iload rfl rfl rfl ?_
    refine x_iload_n rfl rfl rfl ?_
    refine x_icmpN_ge (by omega) (by omega) rfl rfl (fun hc1 => absurd hc1 (by omega)) (fun hc1 => ?_)
    refine x_lload_n rfl rfl rfl ?_
    refine x_bipush (v := nI 8) rfl rfl (by decide +kernel) ?_
    refine x_iload rfl rfl rfl ?_
    refine x_imulN (a := 8) (b := i) rfl rfl ?_
    refine x_lushr rfl rfl ?_
    refine x_ldc2 (v := 255) rfl rfl k_9_104 ?_
    refine x_land rfl rfl ?_
    refine x_lstore rfl rfl rfl rfl ?_
    refine x_iload_n rfl rfl rfl ?_
    refine x_ifB_eq rfl rfl (fun hc2 => ?_) (fun hc2 => ?_)
    · refine x_iconstN (b := 0) rfl rfl ?_
      refine x_istore_n rfl rfl rfl rfl ?_
      refine x_iincN (a := i) (b := 1) rfl rfl rfl rfl rfl ?_
      refine x_goto rfl rfl ?_
      refine x_pick [0, 1, 2, 3] rfl ?_
      (rw [bI_iff (show (Q ∧ ∀ k, i ≤ k → k < m → okL (uN t) k) ↔ ((Q ∧ okL (uN t) i) ∧ ∀ k, i + 1 ≤ k → k < m → okL (uN t) k) from okL_step (by omega))]; exact x_eq (ih (i + 1) (Q ∧ okL (uN t) i) (by omega)) (by rw [bI_f (fun z => hc2 z.1)] <;> rfl) rfl rfl)
    · refine x_lload rfl rfl rfl ?_
      refine x_lconst (v := 1) rfl rfl (by decide +kernel) ?_
      refine x_lc_lt rfl rfl rfl rfl (fun hc3 => ?_) (fun hc3 => ?_)
      · refine x_iconstN (b := 0) rfl rfl ?_
        refine x_istore_n rfl rfl rfl rfl ?_
        refine x_iincN (a := i) (b := 1) rfl rfl rfl rfl rfl ?_
        refine x_goto rfl rfl ?_
        refine x_pick [0, 1, 2, 3] rfl ?_
        (rw [bI_iff (show (Q ∧ ∀ k, i ≤ k → k < m → okL (uN t) k) ↔ ((Q ∧ okL (uN t) i) ∧ ∀ k, i + 1 ≤ k → k < m → okL (uN t) k) from okL_step (by omega))]; exact x_eq (ih (i + 1) (Q ∧ okL (uN t) i) (by omega)) (by rw [bI_f (fun z => (ub_1 t (by omega)).mpr z.2.1 hc3)] <;> rfl) rfl rfl)
      · refine x_lload rfl rfl rfl ?_
        refine x_ldc2 (v := 126) rfl rfl k_9_106 ?_
        refine x_lc_gt rfl rfl rfl rfl (fun hc4 => ?_) (fun hc4 => ?_)
        · refine x_iconstN (b := 0) rfl rfl ?_
          refine x_istore_n rfl rfl rfl rfl ?_
          refine x_iincN (a := i) (b := 1) rfl rfl rfl rfl rfl ?_
          refine x_goto rfl rfl ?_
          refine x_pick [0, 1, 2, 3] rfl ?_
          (rw [bI_iff (show (Q ∧ ∀ k, i ≤ k → k < m → okL (uN t) k) ↔ ((Q ∧ okL (uN t) i) ∧ ∀ k, i + 1 ≤ k → k < m → okL (uN t) k) from okL_step (by omega))]; exact x_eq (ih (i + 1) (Q ∧ okL (uN t) i) (by omega)) (by rw [bI_f (fun z => hc4 ((ub_126 t (by omega)).mpr z.2.2))] <;> rfl) rfl rfl)
        · refine x_iconstN (b := 1) rfl rfl ?_
          refine x_goto rfl rfl ?_
          refine x_istore_n rfl rfl rfl rfl ?_
          refine x_iincN (a := i) (b := 1) rfl rfl rfl rfl rfl ?_
          refine x_goto rfl rfl ?_
          refine x_pick [0, 1, 2, 3] rfl ?_
          (rw [bI_iff (show (Q ∧ ∀ k, i ≤ k → k < m → okL (uN t) k) ↔ ((Q ∧ okL (uN t) i) ∧ ∀ k, i + 1 ≤ k → k < m → okL (uN t) k) from okL_step (by omega))]; exact x_eq (ih (i + 1) (Q ∧ okL (uN t) i) (by omega)) (by rw [bI_t ⟨hc2, (ub_1 t (by omega)).mp hc3, (ub_126 t (by omega)).mp hc4⟩] <;> rfl) rfl rfl)
set_option maxHeartbeats 4000000 in
set_option maxRecDepth 20000 in
theorem c_misText (hG : Gok G) (hd : 1 ≤ d) (t : Int64) : Ct G mX9_isText d [.long (t)] M (.inl (some (.int (bI (isTx t))))) M 0 := by
  have hb8 := nl_le (uN t) 8 0
  refine ct_of hG okX9_isText (by decide +kernel) rfl (Nat.le_of_ble_eq_true rfl) ?_
  refine x_lload_n rfl rfl rfl ?_
  refine x_callSi (d2 := 0) (c_letters hG (t)) rfl rfl s_9_100 rfl rfl (Nat.le_of_ble_eq_true rfl) (by omega) (by omega) ?_
  refine x_istore_n rfl rfl rfl rfl ?_
  refine x_iload_n rfl rfl rfl ?_
  refine x_bipush (v := nI 8) rfl rfl (by decide +kernel) ?_
  refine x_icmpN_ge (by omega) (by omega) rfl rfl (fun hc1 => ?_) (fun hc1 => ?_)
  · refine x_iconstN (b := 0) rfl rfl ?_
    refine x_istore_n rfl rfl rfl rfl ?_
    refine x_iconstN (b := 0) rfl rfl ?_
    refine x_istore rfl rfl rfl rfl ?_
    (have hz := l_misText (G := G) (d := d) (M := M) t (nl (uN t) 0 8) (by have := nl_le (uN t) 8 0; omega) (nl (uN t) 0 8) 0 (nl (uN t) 0 8 < 8) (by omega); rw [bI_iff (show isTx t ↔ (nl (uN t) 0 8 < 8 ∧ ∀ k, 0 ≤ k → k < nl (uN t) 0 8 → okL (uN t) k) from by rw [← isTx_iff]; simp)]; exact x_eq hz (by rw [bI_f (by omega)] <;> rfl) rfl rfl)
  · refine x_iconstN (b := 1) rfl rfl ?_
    refine x_goto rfl rfl ?_
    refine x_istore_n rfl rfl rfl rfl ?_
    refine x_iconstN (b := 0) rfl rfl ?_
    refine x_istore rfl rfl rfl rfl ?_
    (have hz := l_misText (G := G) (d := d) (M := M) t (nl (uN t) 0 8) (by have := nl_le (uN t) 8 0; omega) (nl (uN t) 0 8) 0 (nl (uN t) 0 8 < 8) (by omega); rw [bI_iff (show isTx t ↔ (nl (uN t) 0 8 < 8 ∧ ∀ k, 0 ≤ k → k < nl (uN t) 0 8 → okL (uN t) k) from by rw [← isTx_iff]; simp)]; exact x_eq hz (by rw [bI_t hc1] <;> rfl) rfl rfl)
end D1
