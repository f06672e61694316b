def uN (x : Int64) : Nat := x.toUInt64.toNat
theorem uN_lt (x : Int64) : uN x < 18446744073709551616 := x.toUInt64.toNat_lt
theorem uN_inj {x y : Int64} (h : uN x = uN y) : x = y := congrArg UInt64.toInt64 (UInt64.toNat_inj.mp h)
theorem uN_add (x y : Int64) : uN (x + y) = (uN x + uN y) % 18446744073709551616 := by
  show (x.toUInt64 + y.toUInt64).toNat = _
  exact UInt64.toNat_add _ _
theorem uN_mul (x y : Int64) : uN (x * y) = (uN x * uN y) % 18446744073709551616 := by
  show (x.toUInt64 * y.toUInt64).toNat = _
  exact UInt64.toNat_mul _ _
theorem uN_shl (x : Int64) : uN (x <<< ((1 : Int32).toInt64 &&& 63)) = (2 * uN x) % 18446744073709551616 := by
  have h : (((1 : Int32).toInt64 &&& 63).toBitVec.smod 64).toNat = 1 := by decide
  show (x.toBitVec <<< (((1 : Int32).toInt64 &&& 63).toBitVec.smod 64).toNat).toNat = _
  rw [h, BitVec.toNat_shiftLeft, Nat.shiftLeft_eq, Nat.mul_comm]
  rfl
theorem uN_shr (x : Int64) (s : UInt64) : uN (x.toUInt64 >>> s).toInt64 = uN x / 2 ^ (s.toNat % 64) := by
  show (x.toUInt64 >>> s).toNat = _
  rw [UInt64.toNat_shiftRight, Nat.shiftRight_eq_div_pow]
  rfl
theorem uN_s32 (x : Int64) : uN (x.toUInt64 >>> ((32 : Int32).toInt64.toUInt64 &&& Int64.toUInt64 63)).toInt64 = uN x / 4294967296 := by
  have h : ((32 : Int32).toInt64.toUInt64 &&& Int64.toUInt64 63).toNat % 64 = 32 := by decide
  rw [uN_shr, h]
theorem uN_s63 (x : Int64) : uN (x.toUInt64 >>> ((63 : Int32).toInt64.toUInt64 &&& Int64.toUInt64 63)).toInt64 = uN x / 9223372036854775808 := by
  have h : ((63 : Int32).toInt64.toUInt64 &&& Int64.toUInt64 63).toNat % 64 = 63 := by decide
  rw [uN_shr, h]
theorem uN_lo (x : Int64) : uN (x &&& 4294967295) = uN x % 4294967296 := by
  show (x.toUInt64 &&& Int64.toUInt64 4294967295).toNat = _
  rw [UInt64.toNat_and]
  exact Nat.and_two_pow_sub_one_eq_mod _ 32
theorem uN_bit (x : Int64) : (x &&& 1) = 0 ↔ uN x % 2 = 0 := by
  have h : uN (x &&& 1) = uN x % 2 := by
    show (x.toUInt64 &&& Int64.toUInt64 1).toNat = _
    rw [UInt64.toNat_and]
    exact Nat.and_two_pow_sub_one_eq_mod _ 1
  rw [← h]
  exact ⟨fun z => by rw [z]; rfl, fun z => uN_inj (z.trans rfl)⟩
theorem uN_or {x y : Int64} (hy : uN y < 2) : uN ((x <<< ((1 : Int32).toInt64 &&& 63)) ||| y) = (2 * uN x) % 18446744073709551616 + uN y := by
  have h1 : uN ((x <<< ((1 : Int32).toInt64 &&& 63)) ||| y) = uN (x <<< ((1 : Int32).toInt64 &&& 63)) ||| uN y := UInt64.toNat_or _ _
  have h2 : (2 * uN x) % 18446744073709551616 = 2 ^ 1 * (uN x % 9223372036854775808) := by omega
  rw [h1, uN_shl, h2]
  exact (Nat.two_pow_add_eq_or_of_lt (i := 1) hy _).symm
theorem nat_xor {a : Nat} (h : a < 18446744073709551616) : a ^^^ 2 ^ 63 = (a + 9223372036854775808) % 18446744073709551616 := by
  have h1 : (a ^^^ 2 ^ 63) % 2 ^ 63 = a % 2 ^ 63 := by rw [Nat.xor_mod_two_pow, Nat.mod_self, Nat.xor_zero]
  have h2 : (a ^^^ 2 ^ 63) / 2 ^ 63 = (a / 2 ^ 63) ^^^ 1 := by rw [Nat.xor_div_two_pow, Nat.div_self (Nat.two_pow_pos 63)]
  have h3 : a / 2 ^ 63 = 0 ∨ a / 2 ^ 63 = 1 := by omega
  generalize a ^^^ 2 ^ 63 = t at h1 h2
  rcases h3 with h3 | h3
  · rw [h3] at h2
    have h2 : t / 2 ^ 63 = 1 := h2
    omega
  · rw [h3] at h2
    have h2 : t / 2 ^ 63 = 0 := h2
    omega
theorem uN_xor (x : Int64) : uN (x ^^^ (-9223372036854775808)) = (uN x + 9223372036854775808) % 18446744073709551616 := by
  rw [← nat_xor (uN_lt x)]
  exact UInt64.toNat_xor _ _
theorem uN_int (x : Int64) : x.toInt = if 2 * uN x < 18446744073709551616 then (uN x : Int) else (uN x : Int) - 18446744073709551616 := BitVec.toInt_eq_toNat_cond _
theorem uN_le (x y : Int64) : (x ^^^ (-9223372036854775808)) ≤ (y ^^^ (-9223372036854775808)) ↔ uN x ≤ uN y := by
  have hx := uN_lt x
  have hy := uN_lt y
  rw [Int64.le_iff_toInt_le, uN_int, uN_int, uN_xor, uN_xor]
  omega
theorem uN_sk (x : Int64) {k : Nat} (hk : k < 64) : uN (x.toUInt64 >>> ((nI k).toInt64.toUInt64 &&& Int64.toUInt64 63)).toInt64 = uN x / 2 ^ k := by
  have h : ((nI k).toInt64.toUInt64 &&& Int64.toUInt64 63).toNat % 64 = k := by
    rw [nI_l (by omega), UInt64.toNat_and]
    have e : (lN k).toUInt64.toNat = k % 2 ^ 64 := rfl
    have e2 : (Int64.toUInt64 63).toNat = 2 ^ 6 - 1 := by decide
    rw [e, e2, Nat.and_two_pow_sub_one_eq_mod]
    omega
  rw [uN_shr, h]
/-! ===== unsigned comparison by xor with the least ===== -/
theorem uN_tb (x : Int64) : uN x = x.toBitVec.toNat := rfl
theorem uN_eq0 (x : Int64) : x = 0 ↔ uN x = 0 := ⟨fun h => by rw [h]; rfl, fun h => uN_inj (by rw [h]; rfl)⟩
theorem uN_lN {n : Nat} (h : n < 18446744073709551616) : uN (lN n) = n := by
  rw [uN_tb]
  show (BitVec.ofNat 64 n).toNat = n
  rw [BitVec.toNat_ofNat]
  exact Nat.mod_eq_of_lt h
theorem lN_uN (x : Int64) : lN (uN x) = x := uN_inj (uN_lN (uN_lt x))
theorem uN_mask (x m : Int64) (k : Nat) (hm : m.toBitVec.toNat = 2 ^ k - 1) : uN (x &&& m) = uN x % 2 ^ k := by
  rw [uN_tb, uN_tb]
  show (x.toBitVec &&& m.toBitVec).toNat = _
  rw [BitVec.toNat_and, hm, Nat.and_two_pow_sub_one_eq_mod]
theorem uN_255 (x : Int64) : uN (x &&& 255) = uN x % 256 := uN_mask x 255 8 (by decide +kernel)
theorem uN_15 (x : Int64) : uN (x &&& 15) = uN x % 16 := uN_mask x 15 4 (by decide +kernel)
theorem toInt_small {x : Int64} (h : uN x < 9223372036854775808) : x.toInt = (uN x : Int) := by
  rw [uN_int]
  rw [if_pos (by omega)]
theorem le_small {x y : Int64} (hx : uN x < 9223372036854775808) (hy : uN y < 9223372036854775808) : x ≤ y ↔ uN x ≤ uN y := by
  rw [Int64.le_iff_toInt_le, toInt_small hx, toInt_small hy]
  omega
theorem lt_small {x y : Int64} (hx : uN x < 9223372036854775808) (hy : uN y < 9223372036854775808) : x < y ↔ uN x < uN y := by
  rw [Int64.lt_iff_toInt_lt, toInt_small hx, toInt_small hy]
  omega
/-- bits k .. k + 7 of a long, by a shift that keeps the sign -/
theorem uN_sbyte (x : Int64) {k : Nat} (hk : k ≤ 56) : uN ((x >>> ((nI k).toInt64 &&& 63)) &&& 255) = uN x / 2 ^ k % 256 := by
  have hs : ((nI k).toInt64 &&& 63 : Int64) = lN k := by
    rw [nI_l (by omega)]
    apply uN_inj
    rw [uN_mask (lN k) 63 6 (by decide +kernel), uN_lN (by omega)]
    omega
  rw [uN_255, hs]
  have h1 : (x >>> lN k).toBitVec = x.toBitVec.sshiftRight' ((lN k).toBitVec.smod 64) := rfl
  have h2 : (lN k).toBitVec.smod 64 = BitVec.ofNat 64 k := by
    have : ∀ j : Fin 57, (BitVec.ofNat 64 j.val).smod 64 = BitVec.ofNat 64 j.val := by decide +kernel
    exact this ⟨k, by omega⟩
  rw [uN_tb, h1, h2, uN_tb]
  apply Nat.eq_of_testBit_eq
  intro i
  rw [show (256 : Nat) = 2 ^ 8 from rfl, Nat.testBit_mod_two_pow, Nat.testBit_mod_two_pow, Nat.testBit_div_two_pow]
  by_cases hi : i < 8
  · simp only [hi, decide_true, Bool.true_and]
    have e1 : (x.toBitVec.sshiftRight' (BitVec.ofNat 64 k)).toNat.testBit i = (x.toBitVec.sshiftRight' (BitVec.ofNat 64 k)).getLsbD i := rfl
    have e2 : x.toBitVec.toNat.testBit (i + k) = x.toBitVec.getLsbD (i + k) := rfl
    rw [e1, e2, BitVec.sshiftRight', BitVec.getLsbD_sshiftRight]
    have hk9 : (BitVec.ofNat 64 k).toNat = k := by rw [BitVec.toNat_ofNat]; omega
    rw [hk9]
    have h64 : ¬ 64 ≤ i := by omega
    have h65 : k + i < 64 := by omega
    simp [h64, h65, Nat.add_comm]
  · simp [hi]
theorem oB_t {P : Prop} (h : P) : (Sum.inl (some (Value.int (bI P))) : Oc) = .inl (some (.int (nI 1))) := by rw [bI_t h]
theorem oB_f {P : Prop} (h : ¬ P) : (Sum.inl (some (Value.int (bI P))) : Oc) = .inl (some (.int (nI 0))) := by rw [bI_f h]
section XP
variable {G : Gd} {y : Mt} {d kf : Nat} {Z : Zt} {k pc n t : Nat} {lv lv' : List (Nat × Value)} {st : List Value} {M M' : Mm}
theorem x_pick (ks : List Nat) (hp : lv_pick lv ks = lv') (kk : Fr G y d kf Z k pc lv' st M) : Fr G y d kf Z k pc lv st M :=
  fun p e R s m args below meth c H locs ls C hx hH hL => kk p e R s m args below meth c H locs ls C hx hH (lv_sub hL ks hp)
end XP
/-- a text: at most n characters, each 1 .. 126, the first one lowest -/
def txN : Nat → Nat → Prop
  | 0, u => u = 0
  | n + 1, u => u = 0 ∨ ((u % 256 ≠ 0 ∧ u % 256 ≤ 126) ∧ txN n (u / 256))
def isTx (t : Int64) : Prop := txN 7 (uN t)
theorem b255_0 (x : Int64) : (x &&& 255) = 0 ↔ uN x % 256 = 0 := by rw [uN_eq0, uN_255]
theorem b255_126 (x : Int64) : (x &&& 255) ≤ 126 ↔ uN x % 256 ≤ 126 := by
  rw [le_small (by rw [uN_255]; omega) (by decide +kernel), uN_255, show uN 126 = 126 from by decide +kernel]
theorem ush8 (x : Int64) : uN (x.toUInt64 >>> ((nI 8).toInt64.toUInt64 &&& Int64.toUInt64 63)).toInt64 = uN x / 256 := uN_sk x (by decide)
section C3
variable {G : Gd} {d : Nat} {M : Mm}
set_option maxHeartbeats 4000000 in
theorem l_isText (t : Int64) : ∀ (n i : Nat) (r : Int64), i + n = 7 → Fr G mX8_isText d 0 (Zm G (.inl (some (.int (bI (txN n (uN r)))))) M 0) 0 5 [(0, .long (t)), (2, .long (r)), (4, .int (nI i))] [] M := by
  intro n
  induction n with
  | zero =>
    intro i r hi
    refine x_iload rfl rfl rfl ?_
    refine x_bipush (v := nI 7) rfl rfl (by decide +kernel) ?_
    refine x_icmpN_ge (by omega) (by omega) rfl rfl (fun hc1 => ?_) (fun hc1 => absurd hc1 (by omega))
    refine x_lload_n rfl rfl rfl ?_
    refine x_lconst (v := 0) rfl rfl (by decide +kernel) ?_
    refine x_lc_ne rfl rfl rfl rfl (fun hc2 => ?_) (fun hc2 => ?_)
    · refine x_iconstN (b := 0) rfl rfl ?_
      exact x_retZ rfl rfl rfl (by first | exact Or.inl rfl | exact Or.inr rfl) (by omega) (oB_f (fun z => hc2 ((uN_eq0 r).mpr z))) rfl
    · refine x_iconstN (b := 1) rfl rfl ?_
      refine x_goto rfl rfl ?_
      exact x_retZ rfl rfl rfl (by first | exact Or.inl rfl | exact Or.inr rfl) (by omega) (oB_t ((uN_eq0 r).mp hc2)) rfl
  | succ n ih =>
    intro i r hi
    refine x_iload rfl rfl rfl ?_
    refine x_bipush (v := nI 7) rfl rfl (by decide +kernel) ?_
    refine x_icmpN_ge (by omega) (by omega) rfl rfl (fun hc1 => absurd hc1 (by omega)) (fun hc1 => ?_)
    refine x_lload_n rfl rfl rfl ?_
    refine x_lconst (v := 0) rfl rfl (by decide +kernel) ?_
    refine x_lc_eq rfl rfl rfl rfl (fun hc2 => ?_) (fun hc2 => ?_)
    · refine x_lload_n rfl rfl rfl ?_
      refine x_lconst (v := 0) rfl rfl (by decide +kernel) ?_
      refine x_lc_ne rfl rfl rfl rfl (fun hc3 => absurd hc2 hc3) (fun hc3 => ?_)
      refine x_iconstN (b := 1) rfl rfl ?_
      refine x_goto rfl rfl ?_
      exact x_retZ rfl rfl rfl (by first | exact Or.inl rfl | exact Or.inr rfl) (by omega) (oB_t (Or.inl ((uN_eq0 r).mp hc2))) rfl
    · refine x_lload_n rfl rfl rfl ?_
      refine x_ldc2 (v := 255) rfl rfl k_8_95 ?_
      refine x_land rfl rfl ?_
      refine x_lstore rfl rfl rfl rfl ?_
      refine x_lload rfl rfl rfl ?_
      refine x_lconst (v := 0) rfl rfl (by decide +kernel) ?_
      refine x_lc_eq rfl rfl rfl rfl (fun hc4 => ?_) (fun hc4 => ?_)
      · refine x_iconstN (b := 0) rfl rfl ?_
        exact x_retZ rfl rfl rfl (by first | exact Or.inl rfl | exact Or.inr rfl) (by omega) (oB_f (fun z => z.elim (fun z => hc2 ((uN_eq0 r).mpr z)) (fun z => z.1.1 ((b255_0 r).mp hc4)))) rfl
      · refine x_lload rfl rfl rfl ?_
        refine x_ldc2 (v := 126) rfl rfl k_8_242 ?_
        refine x_lc_le rfl rfl rfl rfl (fun hc5 => ?_) (fun hc5 => ?_)
        · refine x_lload_n rfl rfl rfl ?_
          refine x_bipush (v := nI 8) rfl rfl (by decide +kernel) ?_
          refine x_lushr rfl rfl ?_
          refine x_lstore_n rfl rfl rfl rfl ?_
          refine x_iincN (a := i) (b := 1) rfl rfl rfl rfl rfl ?_
          refine x_goto rfl rfl ?_
          refine x_pick [0, 1, 2] rfl ?_
          (have hz := ih (i + 1) (((r).toUInt64 >>> ((nI 8).toInt64.toUInt64 &&& Int64.toUInt64 63)).toInt64) (by omega); rw [ush8 r] at hz; rw [bI_iff (show txN (n + 1) (uN r) ↔ txN n (uN r / 256) from ⟨fun z => z.elim (fun z => absurd ((uN_eq0 r).mpr z) hc2) (fun z => z.2), fun z => Or.inr ⟨⟨fun z2 => hc4 ((b255_0 r).mpr z2), (b255_126 r).mp hc5⟩, z⟩⟩)]; exact hz)
        · refine x_iconstN (b := 0) rfl rfl ?_
          exact x_retZ rfl rfl rfl (by first | exact Or.inl rfl | exact Or.inr rfl) (by omega) (oB_f (fun z => z.elim (fun z => hc2 ((uN_eq0 r).mpr z)) (fun z => hc5 ((b255_126 r).mpr z.1.2)))) rfl
set_option maxHeartbeats 4000000 in
set_option maxRecDepth 20000 in
theorem c_isText (hG : Gok G) (t : Int64) : Ct G mX8_isText d [.long (t)] M (.inl (some (.int (bI (isTx t))))) M 0 := by
  refine ct_of hG okX8_isText (by decide +kernel) rfl (Nat.le_of_ble_eq_true rfl) ?_
  refine x_lload_n rfl rfl rfl ?_
  refine x_lstore_n rfl rfl rfl rfl ?_
  refine x_iconstN (b := 0) rfl rfl ?_
  refine x_istore rfl rfl rfl rfl ?_
  exact l_isText t 7 0 t (by omega)
set_option maxHeartbeats 4000000 in
set_option maxRecDepth 20000 in
theorem c_isThing (hG : Gok G) (a : Int64) {n : Nat} (hn : M.1 (1, 0) 5 = nI n) (hn2 : n ≤ 40) : Ct G mX4_isThing d [.ref (ga G (1, 0)), .long (a)] M (.inl (some (.int (bI (¬ a < 0 ∧ a < lN n))))) M 0 := by
  refine ct_of hG okX4_isThing (by decide +kernel) rfl (Nat.le_of_ble_eq_true rfl) ?_
  refine x_lload_n rfl rfl rfl ?_
  refine x_lconst (v := 0) rfl rfl (by decide +kernel) ?_
  refine x_lc_lt rfl rfl rfl rfl (fun hc1 => ?_) (fun hc1 => ?_)
  · refine x_iconstN (b := 0) rfl rfl ?_
    exact x_retZ rfl rfl rfl (by first | exact Or.inl rfl | exact Or.inr rfl) (by omega) (oB_f (fun z => z.1 hc1)) rfl
  · refine x_lload_n rfl rfl rfl ?_
    refine x_aload_n rfl rfl rfl ?_
    refine x_getIv (v := nI n) hn rfl rfl f_4_36 rfl (by decide) rfl ?_
    refine x_i2lN (a := n) (by omega) rfl rfl ?_
    refine x_lc_ge rfl rfl rfl rfl (fun hc2 => ?_) (fun hc2 => ?_)
    · refine x_iconstN (b := 0) rfl rfl ?_
      exact x_retZ rfl rfl rfl (by first | exact Or.inl rfl | exact Or.inr rfl) (by omega) (oB_f (fun z => hc2 z.2)) rfl
    · refine x_iconstN (b := 1) rfl rfl ?_
      refine x_goto rfl rfl ?_
      exact x_retZ rfl rfl rfl (by first | exact Or.inl rfl | exact Or.inr rfl) (by omega) (oB_t ⟨hc1, hc2⟩) rfl
end C3
