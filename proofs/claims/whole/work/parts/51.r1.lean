theorem orN {a b k : Nat} (hb : b < 2 ^ k) : nI (a * 2 ^ k) ||| nI b = nI (a * 2 ^ k + b) := by
  have e : a * 2 ^ k + b = a * 2 ^ k ||| b := by
    rw [Nat.mul_comm]; exact Nat.two_pow_add_eq_or_of_lt hb a
  rw [e]
  apply Int32.toBitVec_inj.mp
  show BitVec.ofNat 32 _ ||| BitVec.ofNat 32 _ = BitVec.ofNat 32 _
  apply BitVec.eq_of_toNat_eq
  rw [BitVec.toNat_or, BitVec.toNat_ofNat, BitVec.toNat_ofNat, BitVec.toNat_ofNat, Nat.or_mod_two_pow]
theorem rByte_inr {row : List Nat} {s s1 : RS} {b : Nat} (h : rByte row s = .inr (b, s1)) : s1 = (s.1 + 1, s.2) ∧ row[s.1]? = some b := by
  unfold rByte at h
  cases hr : row[s.1]? with
  | none => rw [hr] at h; cases h
  | some c => rw [hr] at h; cases h; exact ⟨rfl, rfl⟩
theorem b256 {row : List Nat} {al : List Int64} {s s1 s2 : RS} {b : Nat} {M : Mm} (hw : RdC row al s2 M) (h : rByte row s = .inr (b, s1)) : b < 256 := hw.2.2.2.2.2.2.2.1 b (at_mem (rByte_inr h).2)
theorem ll_map {M : Mm} {q q' : Ky} {l : List Nat} (h : LL M q q' (l.map lN)) : M.1 q 1 = nI l.length := by have := h.1; rwa [List.length_map] at this
theorem tx_m1 {t : Int64} (h : isTx t) : ¬ t = -1 := fun e => isTx_pos h (by rw [e]; decide +kernel)
section R1
variable {G : Gd} {d : Nat} {M : Mm}
set_option maxHeartbeats 4000000 in
set_option maxRecDepth 20000 in
theorem c_stopAt (hG : Gok G) (hd : 6 ≤ d) (p : Int32) : Ct G mX2_stopAt d [.ref (ga G (27, 0)), .int (p)] M (.inr IAE) (ui M (27, 0) 10 p) 1 := by
  refine ct_of hG okX2_stopAt (by decide +kernel) rfl (Nat.le_of_ble_eq_true rfl) ?_
  refine x_aload_n rfl rfl rfl ?_
  refine x_iload_n rfl rfl rfl ?_
  refine x_putI rfl rfl f_2_26 rfl rfl (by decide) rfl ?_
  exact x_throw rfl rfl rfl rfl rfl rfl rfl rfl th_2_213_215 (Nat.le_of_ble_eq_true rfl) (by omega) (by omega)
set_option maxHeartbeats 4000000 in
set_option maxRecDepth 20000 in
theorem c_readByteO (hG : Gok G) {a n b : Nat} (ha : M.1 (27, 0) 9 = nI a) (hn : M.1 (15, 0) 1 = nI n) (hn6 : n ≤ 600) (hlt : a < n) (hb : M.1 (16, 0) a = nI b) : Ct G mX2_readByte d [.ref (ga G (27, 0))] M (.inl (some (.int (nI b)))) (ui M (27, 0) 9 (nI (a + 1))) 0 := by
  refine ct_of hG okX2_readByte (by decide +kernel) rfl (Nat.le_of_ble_eq_true rfl) ?_
  refine x_aload_n rfl rfl rfl ?_
  refine x_getIv (v := nI a) ha rfl rfl f_2_58 rfl (by decide) rfl ?_
  refine x_aload_n rfl rfl rfl ?_
  refine x_getR0 rfl rfl f_2_34 rfl (by decide) rfl rfl ?_
  refine x_getIv (v := nI n) hn rfl rfl f_2_210 rfl (by decide) rfl ?_
  refine x_icmpN_lt (by omega) (by omega) rfl rfl (fun hc1 => ?_) (fun hc1 => absurd hc1 (by omega))
  refine x_aload_n rfl rfl rfl ?_
  refine x_dup rfl rfl rfl ?_
  refine x_getIv (v := nI a) ha rfl rfl f_2_58 rfl (by decide) rfl ?_
  refine x_iconstN (b := 1) rfl rfl ?_
  refine x_iaddN (a := a) (b := 1) rfl rfl ?_
  refine x_putI rfl rfl f_2_58 rfl rfl (by decide) rfl ?_
  refine x_aload_n rfl rfl rfl ?_
  refine x_getR0 rfl rfl f_2_34 rfl (by decide) rfl rfl ?_
  refine x_getR0 rfl rfl f_2_216 rfl (by decide) rfl rfl ?_
  refine x_aload_n rfl rfl rfl ?_
  refine x_getIv (v := nI (a + 1)) (by first | rfl | simp [ui, ul]) rfl rfl f_2_58 rfl (by decide) rfl ?_
  refine x_iconstN (b := 1) rfl rfl ?_
  refine x_isubN (a := a + 1) (b := 1) (by omega) rfl rfl ?_
  refine x_ialdv (a := a) (v := nI b) (by first | exact hb | (rw [← hb]; rfl) | simp [ui, ul, hb]) rfl rfl rfl (by decide) (by omega) (by decide) ?_
  exact x_retI rfl rfl rfl (by omega) rfl rfl
set_option maxHeartbeats 4000000 in
set_option maxRecDepth 20000 in
theorem c_readByteX (hG : Gok G) (hd : 6 ≤ d) {a n : Nat} (ha : M.1 (27, 0) 9 = nI a) (hn : M.1 (15, 0) 1 = nI n) (hn6 : n ≤ 600) (hlt : a = n) : Ct G mX2_readByte d [.ref (ga G (27, 0))] M (.inr "java/lang/IllegalArgumentException") (ui M (27, 0) 10 (nI n)) 1 := by
  refine ct_of hG okX2_readByte (by decide +kernel) rfl (Nat.le_of_ble_eq_true rfl) ?_
  refine x_aload_n rfl rfl rfl ?_
  refine x_getIv (v := nI a) ha rfl rfl f_2_58 rfl (by decide) rfl ?_
  refine x_aload_n rfl rfl rfl ?_
  refine x_getR0 rfl rfl f_2_34 rfl (by decide) rfl rfl ?_
  refine x_getIv (v := nI n) hn rfl rfl f_2_210 rfl (by decide) rfl ?_
  refine x_icmpN_lt (by omega) (by omega) rfl rfl (fun hc1 => absurd hc1 (by omega)) (fun hc1 => ?_)
  refine x_aload_n rfl rfl rfl ?_
  refine x_aload_n rfl rfl rfl ?_
  refine x_getR0 rfl rfl f_2_34 rfl (by decide) rfl rfl ?_
  refine x_getIv (v := nI n) hn rfl rfl f_2_210 rfl (by decide) rfl ?_
  refine x_putI rfl rfl f_2_26 rfl rfl (by decide) rfl ?_
  exact x_throw rfl rfl rfl rfl rfl rfl rfl rfl th_2_213_215 (Nat.le_of_ble_eq_true rfl) (by omega) (by omega)
theorem c_readByte (hG : Gok G) (hd : 6 ≤ d) {row : List Nat} {al : List Int64} {s0 : RS} (hw0 : RdC row al s0 M) : CR G mX2_readByte d [.ref (ga G (27, 0))] M onA (RdC row al) vInt (rByte row s0) := by
  obtain ⟨ha, hb, hk, hi, hr⟩ := id hw0
  cases hq : row[s0.1]? with
  | some b =>
    have e : rByte row s0 = .inr (b, s0.1 + 1, s0.2) := by unfold rByte; rw [hq]
    rw [e]
    have hS : EqF onA M (ui M (27, 0) 9 (nI (s0.1 + 1))) := EqF.rf.ui (by simp [onA])
    refine Ct.e (c_readByteO hG ha.1 hr.1 hr.2.2.1 (at_lt hq) (hr.2.1 _ _ hq)) ⟨hS, hw0.eqA hS ⟨by simp [ui], ?_⟩ ⟨at_lt hq, by have := hb.2.1; show 2 * (pX s0).length ≤ s0.1 + 1; omega, hb.2.2⟩ rfl⟩
    exact ha.2.eqF (on := fun k _ => k.1 ≠ 27) (EqF.rf.ui (by simp)) (by simp) (fun j => by simp)
  | none =>
    have e : rByte row s0 = .inl row.length := by unfold rByte; rw [hq]
    rw [e]
    have hle := List.getElem?_eq_none_iff.mp hq
    have hA := hb.1
    exact Ct.e (c_readByteX hG hd ha.1 hr.1 hr.2.2.1 (by omega)) ⟨EqF.rf.ui (by simp [fq]), by simp [ui]⟩
set_option maxHeartbeats 4000000 in
theorem l_rn3 (hG : Gok G) (hd : 7 ≤ d) {row : List Nat} {al : List Int64} {M9 : Mm} (a : Nat) (ha : a < 2097152) (s0 : RS) (M : Mm) (hw0 : RdC row al s0 M) (hS0 : EqF onA M9 M) : FR G mX2_readNumber d M9 onA (RdC row al) vInt (rNumF row 0 a s0) 4 [(0, .ref (ga G (27, 0))), (1, .int (nI a)), (2, .int (nI 3))] [] M := by
  unfold rNumF
  refine x_iload_n rfl rfl rfl ?_
  refine x_iconstN (b := 3) rfl rfl ?_
  refine x_icmpN_ge (by omega) (by omega) rfl rfl (fun hc1 => ?_) (fun hc1 => absurd hc1 (by omega))
  refine x_iload_n rfl rfl rfl ?_
  refine x_bipush (v := nI 8) rfl rfl (by decide +kernel) ?_
  refine x_ishl rfl rfl ?_
  refine x_topI (v := nI (a * 256)) (pk_shlN _ 8 (by decide +kernel) (by omega)) ?_
  refine x_aload_n rfl rfl rfl ?_
  refine r_callV (d2 := 6) (c_readByte hG (by omega) hw0 ) hS0 (fun _ _ z => z) rfl rfl v_2_65 rfl rfl (by decide) rfl rfl (Nat.le_of_ble_eq_true rfl) (by omega) (fun b1 s1 M1 e1 hw1 hE1 hS1 => ?_)
  have hb1 := b256 hw1 e1
  refine x_ior rfl rfl ?_
  refine x_topI (v := nI (a * 256 + b1)) (orN (k := 8) (by omega)) ?_
  exact r_retI rfl hS1 hw1 rfl rfl rfl
set_option maxHeartbeats 4000000 in
theorem l_rn2 (hG : Gok G) (hd : 7 ≤ d) {row : List Nat} {al : List Int64} {M9 : Mm} (a : Nat) (ha : a < 16384) (s0 : RS) (M : Mm) (hw0 : RdC row al s0 M) (hS0 : EqF onA M9 M) : FR G mX2_readNumber d M9 onA (RdC row al) vInt (rNumF row 1 a s0) 4 [(0, .ref (ga G (27, 0))), (1, .int (nI a)), (2, .int (nI 2))] [] M := by
  rw [show rNumF row 1 a s0 = rb (rByte row s0) (fun q => if q.1 < 128 then .inr (a * 128 + q.1 % 128, q.2) else rNumF row 0 (a * 128 + q.1 % 128) q.2) from rfl]
  refine x_iload_n rfl rfl rfl ?_
  refine x_iconstN (b := 3) rfl rfl ?_
  refine x_icmpN_ge (by omega) (by omega) rfl rfl (fun hc1 => absurd hc1 (by omega)) (fun hc1 => ?_)
  refine x_aload_n rfl rfl rfl ?_
  refine r_callV (d2 := 6) (c_readByte hG (by omega) hw0 ) hS0 (fun _ _ z => z) rfl rfl v_2_65 rfl rfl (by decide) rfl rfl (Nat.le_of_ble_eq_true rfl) (by omega) (fun b1 s1 M1 e1 hw1 hE1 hS1 => ?_)
  have hb1 := b256 hw1 e1
  refine x_istore_n rfl rfl rfl rfl ?_
  refine x_iload_n rfl rfl rfl ?_
  refine x_bipush (v := nI 7) rfl rfl (by decide +kernel) ?_
  refine x_ishl rfl rfl ?_
  refine x_topI (v := nI (a * 128)) (pk_shlN _ 7 (by decide +kernel) (by omega)) ?_
  refine x_iload_n rfl rfl rfl ?_
  refine x_bipush (v := nI 127) rfl rfl (by decide +kernel) ?_
  refine x_iand rfl rfl ?_
  refine x_topI (v := nI (b1 % 128)) (pk_andN (by omega) 7 (by decide +kernel)) ?_
  refine x_ior rfl rfl ?_
  refine x_topI (v := nI (a * 128 + b1 % 128)) (orN (k := 7) (by omega)) ?_
  refine x_istore_n rfl rfl rfl rfl ?_
  refine x_iload_n rfl rfl rfl ?_
  refine x_sipush (v := nI 128) rfl rfl (by decide +kernel) ?_
  refine x_icmpN_ge (by omega) (by omega) rfl rfl (fun hc2 => ?_) (fun hc2 => ?_)
  · refine x_iincN (a := 2) (b := 1) rfl rfl rfl rfl rfl ?_
    refine x_goto rfl rfl ?_
    dsimp only
    rw [if_neg (by omega)]
    exact (x_pick [0, 1, 2] rfl (l_rn3 hG hd _ (by omega) s1 M1 hw1 hS1))
  · refine x_iload_n rfl rfl rfl ?_
    (dsimp only; rw [if_pos (by omega)]; exact r_retI rfl hS1 hw1 rfl rfl rfl)
set_option maxHeartbeats 4000000 in
theorem l_rn1 (hG : Gok G) (hd : 7 ≤ d) {row : List Nat} {al : List Int64} {M9 : Mm} (a : Nat) (ha : a < 128) (s0 : RS) (M : Mm) (hw0 : RdC row al s0 M) (hS0 : EqF onA M9 M) : FR G mX2_readNumber d M9 onA (RdC row al) vInt (rNumF row 2 a s0) 4 [(0, .ref (ga G (27, 0))), (1, .int (nI a)), (2, .int (nI 1))] [] M := by
  rw [show rNumF row 2 a s0 = rb (rByte row s0) (fun q => if q.1 < 128 then .inr (a * 128 + q.1 % 128, q.2) else rNumF row 1 (a * 128 + q.1 % 128) q.2) from rfl]
  refine x_iload_n rfl rfl rfl ?_
  refine x_iconstN (b := 3) rfl rfl ?_
  refine x_icmpN_ge (by omega) (by omega) rfl rfl (fun hc1 => absurd hc1 (by omega)) (fun hc1 => ?_)
  refine x_aload_n rfl rfl rfl ?_
  refine r_callV (d2 := 6) (c_readByte hG (by omega) hw0 ) hS0 (fun _ _ z => z) rfl rfl v_2_65 rfl rfl (by decide) rfl rfl (Nat.le_of_ble_eq_true rfl) (by omega) (fun b1 s1 M1 e1 hw1 hE1 hS1 => ?_)
  have hb1 := b256 hw1 e1
  refine x_istore_n rfl rfl rfl rfl ?_
  refine x_iload_n rfl rfl rfl ?_
  refine x_bipush (v := nI 7) rfl rfl (by decide +kernel) ?_
  refine x_ishl rfl rfl ?_
  refine x_topI (v := nI (a * 128)) (pk_shlN _ 7 (by decide +kernel) (by omega)) ?_
  refine x_iload_n rfl rfl rfl ?_
  refine x_bipush (v := nI 127) rfl rfl (by decide +kernel) ?_
  refine x_iand rfl rfl ?_
  refine x_topI (v := nI (b1 % 128)) (pk_andN (by omega) 7 (by decide +kernel)) ?_
  refine x_ior rfl rfl ?_
  refine x_topI (v := nI (a * 128 + b1 % 128)) (orN (k := 7) (by omega)) ?_
  refine x_istore_n rfl rfl rfl rfl ?_
  refine x_iload_n rfl rfl rfl ?_
  refine x_sipush (v := nI 128) rfl rfl (by decide +kernel) ?_
  refine x_icmpN_ge (by omega) (by omega) rfl rfl (fun hc2 => ?_) (fun hc2 => ?_)
  · refine x_iincN (a := 1) (b := 1) rfl rfl rfl rfl rfl ?_
    refine x_goto rfl rfl ?_
    dsimp only
    rw [if_neg (by omega)]
    exact (x_pick [0, 1, 2] rfl (l_rn2 hG hd _ (by omega) s1 M1 hw1 hS1))
  · refine x_iload_n rfl rfl rfl ?_
    (dsimp only; rw [if_pos (by omega)]; exact r_retI rfl hS1 hw1 rfl rfl rfl)
set_option maxHeartbeats 4000000 in
theorem l_rn0 (hG : Gok G) (hd : 7 ≤ d) {row : List Nat} {al : List Int64} {M9 : Mm} (a : Nat) (ha : a < 1) (s0 : RS) (M : Mm) (hw0 : RdC row al s0 M) (hS0 : EqF onA M9 M) : FR G mX2_readNumber d M9 onA (RdC row al) vInt (rNumF row 3 a s0) 4 [(0, .ref (ga G (27, 0))), (1, .int (nI a)), (2, .int (nI 0))] [] M := by
  rw [show rNumF row 3 a s0 = rb (rByte row s0) (fun q => if q.1 < 128 then .inr (a * 128 + q.1 % 128, q.2) else rNumF row 2 (a * 128 + q.1 % 128) q.2) from rfl]
  refine x_iload_n rfl rfl rfl ?_
  refine x_iconstN (b := 3) rfl rfl ?_
  refine x_icmpN_ge (by omega) (by omega) rfl rfl (fun hc1 => absurd hc1 (by omega)) (fun hc1 => ?_)
  refine x_aload_n rfl rfl rfl ?_
  refine r_callV (d2 := 6) (c_readByte hG (by omega) hw0 ) hS0 (fun _ _ z => z) rfl rfl v_2_65 rfl rfl (by decide) rfl rfl (Nat.le_of_ble_eq_true rfl) (by omega) (fun b1 s1 M1 e1 hw1 hE1 hS1 => ?_)
  have hb1 := b256 hw1 e1
  refine x_istore_n rfl rfl rfl rfl ?_
  refine x_iload_n rfl rfl rfl ?_
  refine x_bipush (v := nI 7) rfl rfl (by decide +kernel) ?_
  refine x_ishl rfl rfl ?_
  refine x_topI (v := nI (a * 128)) (pk_shlN _ 7 (by decide +kernel) (by omega)) ?_
  refine x_iload_n rfl rfl rfl ?_
  refine x_bipush (v := nI 127) rfl rfl (by decide +kernel) ?_
  refine x_iand rfl rfl ?_
  refine x_topI (v := nI (b1 % 128)) (pk_andN (by omega) 7 (by decide +kernel)) ?_
  refine x_ior rfl rfl ?_
  refine x_topI (v := nI (a * 128 + b1 % 128)) (orN (k := 7) (by omega)) ?_
  refine x_istore_n rfl rfl rfl rfl ?_
  refine x_iload_n rfl rfl rfl ?_
  refine x_sipush (v := nI 128) rfl rfl (by decide +kernel) ?_
  refine x_icmpN_ge (by omega) (by omega) rfl rfl (fun hc2 => ?_) (fun hc2 => ?_)
  · refine x_iincN (a := 0) (b := 1) rfl rfl rfl rfl rfl ?_
    refine x_goto rfl rfl ?_
    dsimp only
    rw [if_neg (by omega)]
    exact (x_pick [0, 1, 2] rfl (l_rn1 hG hd _ (by omega) s1 M1 hw1 hS1))
  · refine x_iload_n rfl rfl rfl ?_
    (dsimp only; rw [if_pos (by omega)]; exact r_retI rfl hS1 hw1 rfl rfl rfl)
set_option maxHeartbeats 4000000 in
set_option maxRecDepth 20000 in
theorem c_readNumber (hG : Gok G) (hd : 7 ≤ d) {row : List Nat} {al : List Int64} {s0 : RS} (hw0 : RdC row al s0 M) : CR G mX2_readNumber d [.ref (ga G (27, 0))] M onA (RdC row al) vInt (rNum row s0) := by
  have hS0 : EqF onA M M := EqF.rf
  have hA0 := hw0.2.1.1
  have hL6 := hw0.2.2.2.2.2.2.1
  unfold rNum
  refine r_of hG okX2_readNumber (by decide +kernel) rfl (Nat.le_of_ble_eq_true rfl) ?_
  refine x_iconstN (b := 0) rfl rfl ?_
  refine x_istore_n rfl rfl rfl rfl ?_
  refine x_iconstN (b := 0) rfl rfl ?_
  refine x_istore_n rfl rfl rfl rfl ?_
  exact l_rn0 hG hd 0 (by decide) s0 M hw0 hS0
theorem rNumF_lt {row : List Nat} (hrow : ∀ b ∈ row, b < 256) : ∀ {k a : Nat} {s s1 : RS} {n : Nat}, rNumF row k a s = .inr (n, s1) → n < (a + 1) * 128 ^ k * 256
  | 0, a, s, s1, n, h => by
    unfold rNumF at h
    cases hb : rByte row s with
    | inl e => rw [hb] at h; cases h
    | inr q =>
      rw [hb] at h
      cases h
      have := hrow _ (at_mem (rByte_inr (b := q.1) (s1 := q.2) hb).2)
      simp; omega
  | k + 1, a, s, s1, n, h => by
    unfold rNumF at h
    cases hb : rByte row s with
    | inl e => rw [hb] at h; cases h
    | inr q =>
      rw [hb] at h
      dsimp only [rb] at h
      have e1 : (a * 128 + q.1 % 128 + 1) * 128 ^ k * 256 ≤ (a + 1) * 128 ^ (k + 1) * 256 := by
        rw [Nat.pow_succ, ← Nat.mul_assoc, Nat.mul_right_comm (a + 1)]
        exact Nat.mul_le_mul_right _ (Nat.mul_le_mul_right _ (by omega))
      by_cases hq : q.1 < 128
      · rw [if_pos hq] at h
        cases h
        have e2 : a * 128 + q.1 % 128 + 1 ≤ (a * 128 + q.1 % 128 + 1) * 128 ^ k * 256 := by
          rw [Nat.mul_assoc]
          exact Nat.le_mul_of_pos_right _ (Nat.mul_pos (Nat.pow_pos (by decide)) (by decide))
        omega
      · rw [if_neg hq] at h
        exact Nat.lt_of_lt_of_le (rNumF_lt hrow h) e1
theorem rNum_lt {row : List Nat} (hrow : ∀ b ∈ row, b < 256) {s s1 : RS} {n : Nat} (h : rNum row s = .inr (n, s1)) : n < 536870912 := rNumF_lt hrow h
set_option maxHeartbeats 4000000 in
theorem l_re (hG : Gok G) (hd : 7 ≤ d) {row : List Nat} {al : List Int64} {M9 : Mm} : ∀ (n i : Nat), i + n = 8 → ∀ (a : Int64) (s0 : RS) (M : Mm), RdC row al s0 M → EqF onA M9 M → FR G mX2_readEight d M9 onA (RdC row al) vLng (rEightF row n a s0) 4 [(0, .ref (ga G (27, 0))), (1, .long (a)), (3, .int (nI i))] [] M := by
  intro n
  induction n with
  | zero =>
    intro i hi a s0 M hw0 hS0
    refine x_iload_n rfl rfl rfl ?_
    refine x_bipush (v := nI 8) rfl rfl (by decide +kernel) ?_
    refine x_icmpN_ge (by omega) (by omega) rfl rfl (fun hc1 => ?_) (fun hc1 => absurd hc1 (by omega))
    refine x_lload_n rfl rfl rfl ?_
    exact r_retL rfl hS0 hw0 rfl rfl rfl
  | succ n ih =>
    intro i hi a s0 M hw0 hS0
    rw [show rEightF row (n + 1) a s0 = rb (rByte row s0) (fun q => rEightF row n (sh8 a q.1) q.2) from rfl]
    refine x_iload_n rfl rfl rfl ?_
    refine x_bipush (v := nI 8) rfl rfl (by decide +kernel) ?_
    refine x_icmpN_ge (by omega) (by omega) rfl rfl (fun hc1 => absurd hc1 (by omega)) (fun hc1 => ?_)
    refine x_lload_n rfl rfl rfl ?_
    refine x_bipush (v := nI 8) rfl rfl (by decide +kernel) ?_
    refine x_lshl rfl rfl ?_
    refine x_aload_n rfl rfl rfl ?_
    refine r_callV (d2 := 6) (c_readByte hG (by omega) hw0 ) hS0 (fun _ _ z => z) rfl rfl v_2_65 rfl rfl (by decide) rfl rfl (Nat.le_of_ble_eq_true rfl) (by omega) (fun b1 s1 M1 e1 hw1 hE1 hS1 => ?_)
    have hb1 := b256 hw1 e1
    refine x_i2lN (a := b1) (by omega) rfl rfl ?_
    refine x_lor rfl rfl ?_
    refine x_topL (v := sh8 a b1) rfl ?_
    refine x_lstore_n rfl rfl rfl rfl ?_
    refine x_iincN (a := i) (b := 1) rfl rfl rfl rfl rfl ?_
    refine x_goto rfl rfl ?_
    exact ih (i + 1) (by omega) _ s1 M1 hw1 hS1
set_option maxHeartbeats 4000000 in
set_option maxRecDepth 20000 in
theorem c_readEight (hG : Gok G) (hd : 7 ≤ d) {row : List Nat} {al : List Int64} {s0 : RS} (hw0 : RdC row al s0 M) : CR G mX2_readEight d [.ref (ga G (27, 0))] M onA (RdC row al) vLng (rEight row s0) := by
  have hS0 : EqF onA M M := EqF.rf
  have hA0 := hw0.2.1.1
  have hL6 := hw0.2.2.2.2.2.2.1
  unfold rEight
  refine r_of hG okX2_readEight (by decide +kernel) rfl (Nat.le_of_ble_eq_true rfl) ?_
  refine x_lconst (v := 0) rfl rfl (by decide +kernel) ?_
  refine x_lstore_n rfl rfl rfl rfl ?_
  refine x_iconstN (b := 0) rfl rfl ?_
  refine x_istore_n rfl rfl rfl rfl ?_
  exact l_re hG hd 8 0 rfl 0 s0 M hw0 hS0
set_option maxHeartbeats 4000000 in
set_option maxRecDepth 20000 in
theorem c_knownTextK (hG : Gok G) (hd : 7 ≤ d) {row : List Nat} {al : List Int64} {s0 : RS} (hw0 : RdC row al s0 M) {j pl : Nat} {t : Int64} (hj : (pX s0)[j]? = some t) : CR G mX2_knownText d [.ref (ga G (27, 0)), .int (nI j), .int (nI pl)] M onA (RdC row al) vLng (.inr (t, s0)) := by
  have hS0 : EqF onA M M := EqF.rf
  have hA0 := hw0.2.1.1
  have hL6 := hw0.2.2.2.2.2.2.1
  have hX := hw0.2.1.2.1
  have hjl := at_lt hj
  refine r_of hG okX2_knownText (by decide +kernel) rfl (Nat.le_of_ble_eq_true rfl) ?_
  refine x_aload_n rfl rfl rfl ?_
  refine x_getR0 rfl rfl f_2_14 rfl (by decide) rfl rfl ?_
  refine x_iload_n rfl rfl rfl ?_
  refine x_callVl (d2 := 0) (c_LL_at (len := (pX s0).length) hG (lk_28 (by decide)) j hw0.1.2.1 (by omega) (by omega)) rfl rfl v_2_132 rfl rfl (by decide) rfl rfl (Nat.le_of_ble_eq_true rfl) (by omega) (by omega) ?_
  refine x_topL (v := t) (hw0.1.2.2 _ _ hj) ?_
  refine x_lstore_n rfl rfl rfl rfl ?_
  refine x_lload_n rfl rfl rfl ?_
  refine x_ldc2 (v := -1) rfl rfl k_2_134 ?_
  refine x_lc_ne rfl rfl rfl rfl (fun hc1 => ?_) (fun hc1 => absurd hc1 (tx_m1 (hw0.2.1.2.2 t (at_mem hj)).1))
  refine x_lload_n rfl rfl rfl ?_
  exact r_retL rfl hS0 hw0 rfl rfl rfl
set_option maxHeartbeats 4000000 in
set_option maxRecDepth 20000 in
theorem c_knownTextO (hG : Gok G) (hd : 7 ≤ d) {row : List Nat} {al : List Int64} {s0 : RS} (hw0 : RdC row al s0 M) {j pl : Nat} (hj : (pX s0)[j]? = none) (hj2 : j < 2 ^ 31) : CR G mX2_knownText d [.ref (ga G (27, 0)), .int (nI j), .int (nI pl)] M onA (RdC row al) vLng ((.inl pl : Nat ⊕ (Int64 × RS))) := by
  have hS0 : EqF onA M M := EqF.rf
  have hA0 := hw0.2.1.1
  have hL6 := hw0.2.2.2.2.2.2.1
  have hX := hw0.2.1.2.1
  have hjl := List.getElem?_eq_none_iff.mp hj
  refine r_of hG okX2_knownText (by decide +kernel) rfl (Nat.le_of_ble_eq_true rfl) ?_
  refine x_aload_n rfl rfl rfl ?_
  refine x_getR0 rfl rfl f_2_14 rfl (by decide) rfl rfl ?_
  refine x_iload_n rfl rfl rfl ?_
  refine x_callVl (d2 := 0) (c_LL_atO (len := (pX s0).length) hG (lk_28 (by decide)) j hw0.1.2.1 (by omega) (by omega) (by omega)) rfl rfl v_2_132 rfl rfl (by decide) rfl rfl (Nat.le_of_ble_eq_true rfl) (by omega) (by omega) ?_
  refine x_lstore_n rfl rfl rfl rfl ?_
  refine x_lload_n rfl rfl rfl ?_
  refine x_ldc2 (v := -1) rfl rfl k_2_134 ?_
  refine x_lc_ne rfl rfl rfl rfl (fun hc1 => absurd rfl hc1) (fun hc1 => ?_)
  refine x_aload_n rfl rfl rfl ?_
  refine x_iload_n rfl rfl rfl ?_
  exact r_stop (f := pl) (rfl) (c_stopAt hG (Nat.le_refl 6) _) (hS0.fo.ui (by simp [fq])) (by simp [ui]) rfl rfl v_2_88 rfl rfl (by decide) rfl rfl (Nat.le_of_ble_eq_true rfl) (by omega)
end R1
