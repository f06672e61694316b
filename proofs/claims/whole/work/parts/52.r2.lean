theorem rNumF_2 {row : List Nat} : ∀ {k a : Nat} {s s1 : RS} {n : Nat}, rNumF row k a s = .inr (n, s1) → s1.2 = s.2 ∧ s.1 + 1 ≤ s1.1
  | 0, a, s, s1, n, h => by
    unfold rNumF at h
    cases hb : rByte row s with
    | inl e => rw [hb] at h; cases h
    | inr q => rw [hb] at h; cases h; rw [(rByte_inr (b := q.1) (s1 := q.2) hb).1]; exact ⟨rfl, Nat.le_refl _⟩
  | k + 1, a, s, s1, n, h => by
    unfold rNumF at h
    cases hb : rByte row s with
    | inl e => rw [hb] at h; cases h
    | inr q =>
      rw [hb] at h
      have hq2 := (rByte_inr (b := q.1) (s1 := q.2) hb).1
      dsimp only [rb] at h
      by_cases hq : q.1 < 128
      · rw [if_pos hq] at h; cases h; rw [hq2]; exact ⟨rfl, Nat.le_refl _⟩
      · rw [if_neg hq] at h
        have := rNumF_2 h
        rw [hq2] at this
        exact ⟨this.1, by have := this.2; simp only at this; omega⟩
theorem rEightF_2 {row : List Nat} : ∀ {k : Nat} {a v : Int64} {s s1 : RS}, rEightF row k a s = .inr (v, s1) → s1.2 = s.2
  | 0, a, v, s, s1, h => by cases h; rfl
  | k + 1, a, v, s, s1, h => by
    unfold rEightF at h
    cases hb : rByte row s with
    | inl e => rw [hb] at h; cases h
    | inr q =>
      rw [hb] at h
      have hq2 := (rByte_inr (b := q.1) (s1 := q.2) hb).1
      have := rEightF_2 (show rEightF row k (sh8 a q.1) q.2 = .inr (v, s1) from h)
      rw [hq2] at this
      exact this
theorem lN_shl {b i : Nat} (hb : b < 256) (hi : i ≤ 6) : uN (lN b <<< ((nI (8 * i)).toInt64 &&& 63)) = b * 2 ^ (8 * i) := by
  have e : ∀ (x : Fin 256) (j : Fin 7), uN (lN x.val <<< ((nI (8 * j.val)).toInt64 &&& 63)) = x.val * 2 ^ (8 * j.val) := by decide +kernel
  exact e ⟨b, hb⟩ ⟨i, by omega⟩
theorem orL_uN {t : Int64} {b i : Nat} (hb : b < 256) (hi : i ≤ 6) (ht : uN t < 2 ^ (8 * i)) : uN (orL t b i) = uN t + b * 2 ^ (8 * i) := by
  have e1 : uN (orL t b i) = uN t ||| uN (lN b <<< ((nI (8 * i)).toInt64 &&& 63)) := by
    rw [uN_tb, uN_tb, uN_tb]; exact BitVec.toNat_or _ _
  rw [e1, lN_shl hb hi, Nat.or_comm, Nat.add_comm, Nat.mul_comm]
  exact (Nat.two_pow_add_eq_or_of_lt ht b).symm
/-- i letters so far, each of a text -/
def txI (i : Nat) (t : Int64) : Prop := uN t < 2 ^ (8 * i) ∧ ∀ j, j < i → okL (uN t) j
theorem txI_0 : txI 0 0 := ⟨by decide +kernel, fun j h => by omega⟩
theorem txI_s {i b : Nat} {t : Int64} (h : txI i t) (hi : i ≤ 6) (hb1 : 1 ≤ b) (hb2 : b ≤ 126) : txI (i + 1) (orL t b i) := by
  have hu := orL_uN (by omega : b < 256) hi h.1
  have hp : (0 : Nat) < 2 ^ (8 * i) := Nat.pow_pos (by decide)
  refine ⟨?_, fun j hj => ?_⟩
  · rw [hu, show 8 * (i + 1) = 8 * i + 8 by omega, Nat.pow_add]
    have h1 := h.1
    have : b * 2 ^ (8 * i) ≤ 126 * 2 ^ (8 * i) := Nat.mul_le_mul_right _ hb2
    omega
  · rw [hu]
    by_cases e : j = i
    · subst e
      unfold okL
      rw [Nat.add_mul_div_right _ _ hp, Nat.div_eq_of_lt h.1]
      omega
    · have hjl : j < i := by omega
      have := h.2 j hjl
      unfold okL at this ⊢
      have e2 : (uN t + b * 2 ^ (8 * i)) / 2 ^ (8 * j) % 256 = uN t / 2 ^ (8 * j) % 256 := by
        rw [show b * 2 ^ (8 * i) = b * 2 ^ (8 * (i - j - 1)) * 256 * 2 ^ (8 * j) by
          rw [show 8 * i = 8 * (i - j - 1) + 8 + 8 * j by omega, Nat.pow_add, Nat.pow_add]; simp [Nat.mul_assoc], Nat.add_mul_div_right _ _ (Nat.pow_pos (by decide)), Nat.add_mul_mod_self_right]
      rw [e2]; exact this
theorem nl_up {u i : Nat} (h : u / 2 ^ (8 * i) = 0) : ∀ (n j : Nat), j ≤ i → i ≤ j + n → nl u j n ≤ i
  | 0, j, h1, h2 => by show j ≤ i; exact h1
  | n + 1, j, h1, h2 => by
    rw [nl_s]
    by_cases e : u / 2 ^ (8 * j) = 0
    · rw [if_pos e]; exact h1
    · rw [if_neg e]
      have : ¬ j = i := fun z => e (z ▸ h)
      exact nl_up h n (j + 1) (by omega) (by omega)
theorem txI_tx {i : Nat} {t : Int64} (h : txI i t) (hi : i ≤ 7) : isTx t := by
  rw [← isTx_iff]
  have hn := nl_up (Nat.div_eq_of_lt h.1) 8 0 (Nat.zero_le _) (by omega)
  exact ⟨by omega, fun k hk => h.2 k (by omega)⟩
theorem txI_ne {i : Nat} {t : Int64} (h : txI i t) (hi : 0 < i) : ¬ t = 0 := fun e => by
  have := (h.2 0 hi).1
  rw [e] at this
  have e0 : uN 0 = 0 := by decide +kernel
  rw [e0] at this
  simp at this
theorem txI_pos {i : Nat} {t : Int64} (h : txI i t) (h0 : ¬ t = 0) : 0 < i := by
  cases i with
  | zero =>
    have h1 := h.1
    have e0 : uN 0 = 0 := by decide +kernel
    exact absurd (uN_inj (y := 0) (by rw [e0]; simp at h1; omega)) h0
  | succ i => omega
theorem wrg_t {w : Bool} {b : Nat} (h : w = true ∨ b = 0 ∨ 126 < b) : wrg w b = true := by
  rcases h with h | h | h
  · simp [wrg, h]
  · simp [wrg, h]
  · simp [wrg, h]
theorem wrg_f {w : Bool} {b : Nat} (h1 : ¬ w = true) (h2 : ¬ b = 0) (h3 : ¬ 126 < b) : ¬ wrg w b = true := by
  simp [wrg] at *
  exact ⟨⟨h1, h2⟩, h3⟩
theorem pXd_eq (s : RS) : pX s = s.2.1 := rfl
theorem RdC.aX {row : List Nat} {al : List Int64} {s : RS} {M : Mm} {t : Int64} (h : RdC row al s M) (ht : ¬ t = 0) (hx : isTx t) (hl : 2 * ((pX s).length + 1) ≤ s.1) : RdC row al (addX t s) (ui (ul M (29, 0) (pX s).length t) (28, 0) 1 (nI ((pX s).length + 1))) := by
  have e : addX t s = (s.1, s.2.1 ++ [t], s.2.2) := if_neg ht
  have hS : EqF onA M (ui (ul M (29, 0) (pX s).length t) (28, 0) 1 (nI ((pX s).length + 1))) := (EqF.rf.ul (by simp [onA])).ui (by simp [onA])
  rw [e]
  refine h.eqA hS ⟨?_, ?_, ?_⟩ ⟨h.2.1.1, ?_, ?_⟩ rfl
  · rw [ui_v, if_neg (by simp)]; exact h.1.1
  · simp [ui, pXd_eq]
  · exact h.1.2.2.push (fun k hk => by have hne : k ≠ (pX s).length := Nat.ne_of_lt hk; simp [ui, ul, hne]) (by simp [ui, ul, pXd_eq])
  · show 2 * (s.2.1 ++ [t]).length ≤ s.1
    have hl2 : 2 * (s.2.1.length + 1) ≤ s.1 := hl
    simp; omega
  · intro t' ht'
    rcases List.mem_append.mp ht' with h9 | h9
    · exact h.2.1.2.2 t' h9
    · rw [List.mem_singleton.mp h9]; exact ⟨hx, ht⟩
def rKT (j pl : Nat) (s : RS) : Nat ⊕ (Int64 × RS) := match (pX s)[j]? with
  | some t => .inr (t, s)
  | none => .inl pl
theorem rStr1_e {row : List Nat} {pl n : Nat} {s : RS} (h : n % 2 = 0) : rStr1 row pl n s = rb (rKT (n / 2) pl s) fun q => .inr q := by
  unfold rStr1 rKT; rw [if_pos h]; cases (pX s)[n / 2]? <;> rfl
theorem rStr1_l {row : List Nat} {pl n : Nat} {s : RS} (h : ¬ n % 2 = 0) (h2 : 7 < n / 2) : rStr1 row pl n s = .inl pl := by unfold rStr1; rw [if_neg h, if_pos h2]
theorem rStr1_o {row : List Nat} {pl n : Nat} {s : RS} (h : ¬ n % 2 = 0) (h2 : ¬ 7 < n / 2) : rStr1 row pl n s = rb (rLetF row (n / 2) 0 0 false s) fun z => if z.1.2 = true then .inl pl else .inr (z.1.1, addX z.1.1 z.2) := by unfold rStr1; rw [if_neg h, if_neg h2]
section R2
variable {G : Gd} {d : Nat} {M : Mm}
theorem c_knownText (hG : Gok G) (hd : 7 ≤ d) {row : List Nat} {al : List Int64} {s0 : RS} (hw0 : RdC row al s0 M) {j pl : Nat} (hj2 : j < 2 ^ 31) : CR G mX2_knownText d [.ref (ga G (27, 0)), .int (nI j), .int (nI pl)] M onA (RdC row al) vLng (rKT j pl s0) := by
  unfold rKT
  cases hj : (pX s0)[j]? with
  | some t => exact c_knownTextK hG hd hw0 hj
  | none => exact c_knownTextO hG hd hw0 hj hj2
set_option maxHeartbeats 4000000 in
theorem l_rs (hG : Gok G) (hd : 7 ≤ d) {row : List Nat} {al : List Int64} {pl nn m : Nat} (hm : m ≤ 7) {M9 : Mm} : ∀ (n i : Nat), i + n = m → ∀ (t : Int64) (w : Bool) (s0 : RS) (M : Mm), RdC row al s0 M → EqF onA M9 M → (¬ w = true → txI i t) → 2 * (pX s0).length + 1 + i ≤ s0.1 → FR G mX2_readString d M9 onA (RdC row al) vLng (rb (rLetF row n i t w s0) fun z => if z.1.2 = true then .inl pl else .inr (z.1.1, addX z.1.1 z.2)) 49 [(0, .ref (ga G (27, 0))), (1, .int (nI pl)), (2, .int (nI nn)), (3, .int (nI m)), (4, .int (bI (w = true))), (5, .long (t)), (7, .int (nI i))] [] M := by
  intro n
  induction n with
  | zero =>
    intro i hi t w s0 M hw0 hS0 hI hX
    have hL6 := hw0.2.2.2.2.2.2.1
    have hA0 := hw0.2.1.1
    show FR G mX2_readString d M9 onA (RdC row al) vLng (if w = true then .inl pl else .inr (t, addX t s0)) 49 _ [] M
    refine x_iload rfl rfl rfl ?_
    refine x_iload_n rfl rfl rfl ?_
    refine x_icmpN_ge (by omega) (by omega) rfl rfl (fun hc1 => ?_) (fun hc1 => absurd hc1 (by omega))
    refine x_iload rfl rfl rfl ?_
    refine x_ifB_eq rfl rfl (fun hc2 => ?_) (fun hc2 => ?_)
    · refine x_lload rfl rfl rfl ?_
      refine x_lconst (v := 0) rfl rfl (by decide +kernel) ?_
      refine x_lc_eq rfl rfl rfl rfl (fun hc3 => ?_) (fun hc3 => ?_)
      · refine x_lload rfl rfl rfl ?_
        exact r_retL (by rw [if_neg hc2, show addX t s0 = s0 from if_pos hc3]) hS0 hw0 rfl rfl rfl
      · have hi0 := txI_pos (hI hc2) hc3
        refine x_aload_n rfl rfl rfl ?_
        refine x_getR0 rfl rfl f_2_14 rfl (by decide) rfl rfl ?_
        refine x_lload rfl rfl rfl ?_
        refine x_callVv (d2 := 0) (c_LL_add (len := (pX s0).length) hG (lk_28 (by decide)) (t) hw0.1.2.1 (by omega)) rfl rfl v_2_114 rfl rfl (by decide) rfl rfl (Nat.le_of_ble_eq_true rfl) (by omega) (by omega) ?_
        refine x_lload rfl rfl rfl ?_
        exact r_retL (s := addX t s0) (by rw [if_neg hc2]) ((hS0.ul (by simp [onA])).ui (by simp [onA])) (hw0.aX hc3 (txI_tx (hI hc2) (by omega)) (by omega)) rfl rfl rfl
    · refine x_aload_n rfl rfl rfl ?_
      refine x_iload_n rfl rfl rfl ?_
      exact r_stop (f := pl) (if_pos hc2) (c_stopAt hG (Nat.le_refl 6) _) (hS0.fo.ui (by simp [fq])) (by simp [ui]) rfl rfl v_2_88 rfl rfl (by decide) rfl rfl (Nat.le_of_ble_eq_true rfl) (by omega)
  | succ n ih =>
    intro i hi t w s0 M hw0 hS0 hI hX
    have hL6 := hw0.2.2.2.2.2.2.1
    have hA0 := hw0.2.1.1
    rw [show rLetF row (n + 1) i t w s0 = rb (rByte row s0) (fun q => rLetF row n (i + 1) (orL t q.1 i) (wrg w q.1) q.2) from rfl, rb_assoc]
    refine x_iload rfl rfl rfl ?_
    refine x_iload_n rfl rfl rfl ?_
    refine x_icmpN_ge (by omega) (by omega) rfl rfl (fun hc1 => absurd hc1 (by omega)) (fun hc1 => ?_)
    refine x_aload_n rfl rfl rfl ?_
    refine r_callV (d2 := 6) (c_readByte hG (by omega) hw0 ) hS0 (fun _ _ z => z) rfl rfl v_2_65 rfl rfl (by decide) rfl rfl (Nat.le_of_ble_eq_true rfl) (by omega) (fun b1 s1 M1 e1 hw1 hE1 hS1 => ?_)
    have hb1 := b256 hw1 e1
    refine x_istore rfl rfl rfl rfl ?_
    refine x_iload rfl rfl rfl ?_
    refine x_ifB_ne rfl rfl (fun hc2 => ?_) (fun hc2 => ?_)
    · refine x_iconstN (b := 1) rfl rfl ?_
      refine x_goto rfl rfl ?_
      have hwr : wrg w b1 = true := wrg_t (by first | exact Or.inl hc2 | exact Or.inr (Or.inl hc2) | exact Or.inr (Or.inr (by omega)))
      refine x_topI (v := bI (wrg w b1 = true)) (bI_t hwr).symm ?_
      refine x_istore rfl rfl rfl rfl ?_
      refine x_lload rfl rfl rfl ?_
      refine x_iload rfl rfl rfl ?_
      refine x_i2lN (a := b1) (by omega) rfl rfl ?_
      refine x_bipush (v := nI 8) rfl rfl (by decide +kernel) ?_
      refine x_iload rfl rfl rfl ?_
      refine x_imulN (a := 8) (b := i) rfl rfl ?_
      refine x_lshl rfl rfl ?_
      refine x_lor rfl rfl ?_
      refine x_topL (v := orL t b1 i) rfl ?_
      refine x_lstore rfl rfl rfl rfl ?_
      refine x_iincN (a := i) (b := 1) rfl rfl rfl rfl rfl ?_
      refine x_goto rfl rfl ?_
      refine x_pick [0, 1, 2, 3, 4, 5, 6] rfl ?_
      exact ih (i + 1) (by omega) _ _ s1 M1 hw1 hS1 (fun z => absurd hwr z) (by have z := (rByte_inr e1).1; rw [z]; show 2 * (pX s0).length + 1 + (i + 1) ≤ s0.1 + 1; omega)
    · refine x_iload rfl rfl rfl ?_
      refine x_ifN_eq (by omega) rfl rfl (fun hc3 => ?_) (fun hc3 => ?_)
      · refine x_iconstN (b := 1) rfl rfl ?_
        refine x_goto rfl rfl ?_
        have hwr : wrg w b1 = true := wrg_t (by first | exact Or.inl hc3 | exact Or.inr (Or.inl hc3) | exact Or.inr (Or.inr (by omega)))
        refine x_topI (v := bI (wrg w b1 = true)) (bI_t hwr).symm ?_
        refine x_istore rfl rfl rfl rfl ?_
        refine x_lload rfl rfl rfl ?_
        refine x_iload rfl rfl rfl ?_
        refine x_i2lN (a := b1) (by omega) rfl rfl ?_
        refine x_bipush (v := nI 8) rfl rfl (by decide +kernel) ?_
        refine x_iload rfl rfl rfl ?_
        refine x_imulN (a := 8) (b := i) rfl rfl ?_
        refine x_lshl rfl rfl ?_
        refine x_lor rfl rfl ?_
        refine x_topL (v := orL t b1 i) rfl ?_
        refine x_lstore rfl rfl rfl rfl ?_
        refine x_iincN (a := i) (b := 1) rfl rfl rfl rfl rfl ?_
        refine x_goto rfl rfl ?_
        refine x_pick [0, 1, 2, 3, 4, 5, 6] rfl ?_
        exact ih (i + 1) (by omega) _ _ s1 M1 hw1 hS1 (fun z => absurd hwr z) (by have z := (rByte_inr e1).1; rw [z]; show 2 * (pX s0).length + 1 + (i + 1) ≤ s0.1 + 1; omega)
      · refine x_iload rfl rfl rfl ?_
        refine x_bipush (v := nI 126) rfl rfl (by decide +kernel) ?_
        refine x_icmpN_le (by omega) (by omega) rfl rfl (fun hc4 => ?_) (fun hc4 => ?_)
        · refine x_iconstN (b := 0) rfl rfl ?_
          have hwr : ¬ wrg w b1 = true := wrg_f hc2 hc3 (by omega)
          refine x_topI (v := bI (wrg w b1 = true)) (bI_f hwr).symm ?_
          refine x_istore rfl rfl rfl rfl ?_
          refine x_lload rfl rfl rfl ?_
          refine x_iload rfl rfl rfl ?_
          refine x_i2lN (a := b1) (by omega) rfl rfl ?_
          refine x_bipush (v := nI 8) rfl rfl (by decide +kernel) ?_
          refine x_iload rfl rfl rfl ?_
          refine x_imulN (a := 8) (b := i) rfl rfl ?_
          refine x_lshl rfl rfl ?_
          refine x_lor rfl rfl ?_
          refine x_topL (v := orL t b1 i) rfl ?_
          refine x_lstore rfl rfl rfl rfl ?_
          refine x_iincN (a := i) (b := 1) rfl rfl rfl rfl rfl ?_
          refine x_goto rfl rfl ?_
          refine x_pick [0, 1, 2, 3, 4, 5, 6] rfl ?_
          exact ih (i + 1) (by omega) _ _ s1 M1 hw1 hS1 (fun _ => txI_s (hI hc2) (by omega) (by omega) (by omega)) (by have z := (rByte_inr e1).1; rw [z]; show 2 * (pX s0).length + 1 + (i + 1) ≤ s0.1 + 1; omega)
        · refine x_iconstN (b := 1) rfl rfl ?_
          refine x_goto rfl rfl ?_
          have hwr : wrg w b1 = true := wrg_t (by first | exact Or.inl hc4 | exact Or.inr (Or.inl hc4) | exact Or.inr (Or.inr (by omega)))
          refine x_topI (v := bI (wrg w b1 = true)) (bI_t hwr).symm ?_
          refine x_istore rfl rfl rfl rfl ?_
          refine x_lload rfl rfl rfl ?_
          refine x_iload rfl rfl rfl ?_
          refine x_i2lN (a := b1) (by omega) rfl rfl ?_
          refine x_bipush (v := nI 8) rfl rfl (by decide +kernel) ?_
          refine x_iload rfl rfl rfl ?_
          refine x_imulN (a := 8) (b := i) rfl rfl ?_
          refine x_lshl rfl rfl ?_
          refine x_lor rfl rfl ?_
          refine x_topL (v := orL t b1 i) rfl ?_
          refine x_lstore rfl rfl rfl rfl ?_
          refine x_iincN (a := i) (b := 1) rfl rfl rfl rfl rfl ?_
          refine x_goto rfl rfl ?_
          refine x_pick [0, 1, 2, 3, 4, 5, 6] rfl ?_
          exact ih (i + 1) (by omega) _ _ s1 M1 hw1 hS1 (fun z => absurd hwr z) (by have z := (rByte_inr e1).1; rw [z]; show 2 * (pX s0).length + 1 + (i + 1) ≤ s0.1 + 1; omega)
set_option maxHeartbeats 4000000 in
set_option maxRecDepth 20000 in
theorem c_readString (hG : Gok G) (hd : 8 ≤ d) {row : List Nat} {al : List Int64} {s0 : RS} (hw0 : RdC row al s0 M) : CR G mX2_readString d [.ref (ga G (27, 0))] M onA (RdC row al) vLng (rStr row s0) := by
  have hS0 : EqF onA M M := EqF.rf
  have hA0 := hw0.2.1.1
  have hL6 := hw0.2.2.2.2.2.2.1
  unfold rStr
  refine r_of hG okX2_readString (by decide +kernel) rfl (Nat.le_of_ble_eq_true rfl) ?_
  refine x_aload_n rfl rfl rfl ?_
  refine x_getIv (v := nI (s0.1)) hw0.1.1 rfl rfl f_2_58 rfl (by decide) rfl ?_
  refine x_istore_n rfl rfl rfl rfl ?_
  refine x_aload_n rfl rfl rfl ?_
  refine r_callV (d2 := 7) (c_readNumber hG (by omega) hw0 ) hS0 (fun _ _ z => z) rfl rfl v_2_91 rfl rfl (by decide) rfl rfl (Nat.le_of_ble_eq_true rfl) (by omega) (fun b1 s1 M1 e1 hw1 hE1 hS1 => ?_)
  have hn1 := rNum_lt hw1.2.2.2.2.2.2.2.1 e1
  refine x_istore_n rfl rfl rfl rfl ?_
  refine x_iload_n rfl rfl rfl ?_
  refine x_iconstN (b := 2) rfl rfl ?_
  refine x_iremN (a := b1) (b := 2) (by omega) (by omega) (by omega) rfl rfl ?_
  show FR G mX2_readString d M onA (RdC row al) vLng (rStr1 row s0.1 b1 s1) _ _ _ _
  refine x_ifN_ne (by omega) rfl rfl (fun hc1 => ?_) (fun hc1 => ?_)
  · refine x_iload_n rfl rfl rfl ?_
    refine x_iconstN (b := 2) rfl rfl ?_
    refine x_idivN (a := b1) (b := 2) (by omega) (by omega) (by omega) rfl rfl ?_
    refine x_istore_n rfl rfl rfl rfl ?_
    refine x_iload_n rfl rfl rfl ?_
    refine x_bipush (v := nI 7) rfl rfl (by decide +kernel) ?_
    refine x_icmpN_le (by omega) (by omega) rfl rfl (fun hc2 => ?_) (fun hc2 => ?_)
    · refine x_iconstN (b := 0) rfl rfl ?_
      refine x_istore rfl rfl rfl rfl ?_
      refine x_lconst (v := 0) rfl rfl (by decide +kernel) ?_
      refine x_lstore rfl rfl rfl rfl ?_
      refine x_iconstN (b := 0) rfl rfl ?_
      refine x_istore rfl rfl rfl rfl ?_
      rw [rStr1_o hc1 (by omega)]
      refine x_eq (l_rs hG (by omega) (pl := s0.1) (nn := b1) (m := b1 / 2) (by omega) _ 0 (Nat.zero_add _) 0 false s1 M1 hw1 hS1 (fun _ => txI_0) (by have z := rNumF_2 e1; have z1 := hw0.2.1.2.1; rw [show pX s1 = pX s0 from congrArg Prod.fst z.1]; omega)) (by rw [bI_f (by simp)] <;> rfl) rfl rfl
    · refine x_aload_n rfl rfl rfl ?_
      refine x_iload_n rfl rfl rfl ?_
      exact r_stop (f := s0.1) (rStr1_l hc1 (by omega)) (c_stopAt hG (Nat.le_refl 6) _) (hS1.fo.ui (by simp [fq])) (by simp [ui]) rfl rfl v_2_88 rfl rfl (by decide) rfl rfl (Nat.le_of_ble_eq_true rfl) (by omega)
  · rw [rStr1_e hc1]
    refine x_aload_n rfl rfl rfl ?_
    refine x_iload_n rfl rfl rfl ?_
    refine x_iconstN (b := 2) rfl rfl ?_
    refine x_idivN (a := b1) (b := 2) (by omega) (by omega) (by omega) rfl rfl ?_
    refine x_iload_n rfl rfl rfl ?_
    refine r_callV (d2 := 7) (c_knownText hG (by omega) hw1 (j := b1 / 2) (pl := s0.1) (by omega)) hS1 (fun _ _ z => z) rfl rfl v_2_206 rfl rfl (by decide) rfl rfl (Nat.le_of_ble_eq_true rfl) (by omega) (fun b2 s2 M2 e2 hw2 hE2 hS2 => ?_)
    exact r_retL rfl hS2 hw2 rfl rfl rfl
end R2
