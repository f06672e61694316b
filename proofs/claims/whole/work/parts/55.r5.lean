theorem and8 {n : Nat} (h : n < 2 ^ 31) : (nI n &&& nI 8) = 0 ↔ ¬ n / 8 % 2 = 1 := by
  have e : (nI n &&& nI 8).toBitVec.toNat = n / 8 % 2 * 8 := by
    show (BitVec.ofNat 32 n &&& BitVec.ofNat 32 8).toNat = _
    rw [BitVec.toNat_and, BitVec.toNat_ofNat, BitVec.toNat_ofNat, Nat.mod_eq_of_lt (show n < 2 ^ 32 by omega)]
    show n &&& 8 = _
    rw [show (8 : Nat) = 15 &&& 8 from rfl, ← Nat.and_assoc, show n &&& 15 = n % 16 from Nat.and_two_pow_sub_one_eq_mod n 4]
    have h9 : ∀ r : Fin 16, r.val &&& 8 = r.val / 8 % 2 * 8 := by decide
    have h8 := h9 ⟨n % 16, by omega⟩
    simp only at h8
    rw [show (15 &&& 8 : Nat) = 8 from rfl, h8]
    omega
  have e2 : (nI n &&& nI 8) = 0 ↔ (nI n &&& nI 8).toBitVec.toNat = 0 := by
    constructor
    · intro z; rw [z]; rfl
    · intro z
      apply Int32.toBitVec_inj.mp
      apply BitVec.eq_of_toNat_eq
      rw [z]; rfl
  rw [e2, e]
  omega
theorem rTr_k {row : List Nat} {al : List Int64} {n np : Nat} {s : RS} (h : n % 4 = 1) : rTr row al n np s = rb (rKR (n / 4) np s) fun q => .inr q := by
  unfold rTr rKR; rw [if_pos h]; cases (pR s)[n / 4]? <;> rfl
theorem rTr_x {row : List Nat} {al : List Int64} {n np : Nat} {s : RS} (h : ¬ n % 4 = 1) (h2 : n % 8 = 7 ∨ 3 < n / 16) : rTr row al n np s = .inl np := by unfold rTr; rw [if_neg h, if_pos h2]
theorem rTr_m {row : List Nat} {al : List Int64} {n np : Nat} {s : RS} (h : ¬ n % 4 = 1) (h2 : ¬ (n % 8 = 7 ∨ 3 < n / 16)) : rTr row al n np s = rb (rStr row s) fun q => if ¬ q.1 = 0 ∧ ¬ q.1 ∈ al then .inl s.1 else rb (rMem row (n / 16) [] q.2) fun z => keepT np (q.1, decide (n / 8 % 2 = 1), z.1) z.2 := by unfold rTr; rw [if_neg h, if_neg h2]
section R5
variable {G : Gd} {d : Nat} {M : Mm}
set_option maxHeartbeats 4000000 in
set_option maxRecDepth 20000 in
theorem c_readTraits (hG : Gok G) (hd : 10 ≤ d) {row : List Nat} {al : List Int64} {s0 : RS} (hw0 : RdC row al s0 M) (hRL : (pR s0).length < (pL s0).length) {nn np : Nat} (hnn : nn < 536870912) : CR G mX2_readTraits d [.ref (ga G (27, 0)), .int (nI nn), .int (nI np)] M (onD s0) (RdC row al) vInt (rTr row al nn np s0) := by
  have hS0 : EqF (onD s0) M M := EqF.rf
  have hA0 := hw0.2.1.1
  have hL6 := hw0.2.2.2.2.2.2.1
  obtain ⟨i1, i2, i3, i4, i5, i6, i7, i8, i9⟩ := id hw0.2.2.2.1
  refine r_of hG okX2_readTraits (by decide +kernel) rfl (Nat.le_of_ble_eq_true rfl) ?_
  refine x_iload_n rfl rfl rfl ?_
  refine x_iconstN (b := 4) rfl rfl ?_
  refine x_iremN (a := nn) (b := 4) (by omega) (by omega) (by omega) rfl rfl ?_
  refine x_iconstN (b := 1) rfl rfl ?_
  refine x_icmpN_ne (by omega) (by omega) rfl rfl (fun hc1 => ?_) (fun hc1 => ?_)
  · refine x_iload_n rfl rfl rfl ?_
    refine x_bipush (v := nI 16) rfl rfl (by decide +kernel) ?_
    refine x_idivN (a := nn) (b := 16) (by omega) (by omega) (by omega) rfl rfl ?_
    refine x_istore_n rfl rfl rfl rfl ?_
    refine x_iload_n rfl rfl rfl ?_
    refine x_bipush (v := nI 8) rfl rfl (by decide +kernel) ?_
    refine x_iremN (a := nn) (b := 8) (by omega) (by omega) (by omega) rfl rfl ?_
    refine x_bipush (v := nI 7) rfl rfl (by decide +kernel) ?_
    refine x_icmpN_eq (by omega) (by omega) rfl rfl (fun hc2 => ?_) (fun hc2 => ?_)
    · refine x_aload_n rfl rfl rfl ?_
      refine x_iload_n rfl rfl rfl ?_
      exact r_stop (f := np) (rTr_x hc1 (by omega)) (c_stopAt hG (Nat.le_refl 6) _) (hS0.fo.ui (by simp [fq])) (by simp [ui]) rfl rfl v_2_88 rfl rfl (by decide) rfl rfl (Nat.le_of_ble_eq_true rfl) (by omega)
    · refine x_iload_n rfl rfl rfl ?_
      refine x_iconstN (b := 3) rfl rfl ?_
      refine x_icmpN_le (by omega) (by omega) rfl rfl (fun hc3 => ?_) (fun hc3 => ?_)
      · rw [rTr_m hc1 (by omega)]
        refine x_aload_n rfl rfl rfl ?_
        refine x_getIv (v := nI (s0.1)) hw0.1.1 rfl rfl f_2_58 rfl (by decide) rfl ?_
        refine x_istore rfl rfl rfl rfl ?_
        refine x_aload_n rfl rfl rfl ?_
        refine r_callV (d2 := 8) (c_readString hG (by omega) hw0 ) hS0 (fun k j z => by unfold onD at z; unfold onA; omega) rfl rfl v_2_77 rfl rfl (by decide) rfl rfl (Nat.le_of_ble_eq_true rfl) (by omega) (fun b1 s1 M1 e1 hw1 hE1 hS1 => ?_)
        have hz1 := rStr_2 e1
        have hx1 := rStr_tx (fun t h => (hw0.2.1.2.2 t h).1) e1
        dsimp only
        have htn : (pT s1).length = (pT s0).length := by unfold pT; rw [hz1.1]
        refine x_lstore rfl rfl rfl rfl ?_
        refine x_lload rfl rfl rfl ?_
        refine x_lconst (v := 0) rfl rfl (by decide +kernel) ?_
        refine x_lc_eq rfl rfl rfl rfl (fun hc4 => ?_) (fun hc4 => ?_)
        · rw [if_neg (fun z => z.1 hc4)]
          refine x_aload_n rfl rfl rfl ?_
          refine x_getR0 rfl rfl f_2_30 rfl (by decide) rfl rfl ?_
          refine x_getR0 rfl rfl f_2_178 rfl (by decide) rfl rfl ?_
          refine x_aload_n rfl rfl rfl ?_
          refine x_getIv (v := nI ((pT s1).length)) hw1.2.2.1.2.2.2.2.1 rfl rfl f_2_53 rfl (by decide) rfl ?_
          refine x_aaldi (a := (pT s1).length) rfl rfl rfl (by decide) (by decide) (by omega) (by decide) rfl ?_
          refine x_astore rfl rfl rfl rfl ?_
          refine x_aload rfl rfl rfl ?_
          refine x_lload rfl rfl rfl ?_
          refine x_iload_n rfl rfl rfl ?_
          refine x_bipush (v := nI 8) rfl rfl (by decide +kernel) ?_
          refine x_iand rfl rfl ?_
          refine x_if_eq rfl rfl (fun hc5 => ?_) (fun hc5 => ?_)
          · refine x_iconstN (b := 0) rfl rfl ?_
            refine x_topI (v := bI (decide (nn / 8 % 2 = 1) = true)) (bI_f (fun z => (and8 (by omega)).mp hc5 (of_decide_eq_true z))).symm ?_
            refine x_callVv (d2 := 1) (c_Tr_become hG (Nat.le_refl 1) (by omega) (b1) (decide (nn / 8 % 2 = 1) = true)) rfl rfl v_2_181 rfl rfl (by show _ < 13; omega) rfl rfl (Nat.le_of_ble_eq_true rfl) (by omega) (by omega) ?_
            refine x_iconstN (b := 0) rfl rfl ?_
            refine x_istore rfl rfl rfl rfl ?_
            have hSd : EqF (fun k _ => ¬ (5 ≤ k.1 ∧ k.1 ≤ 7 ∧ k.2 = (pT s1).length)) M1 (ui (ui (ul M1 (5, (pT s1).length) 1 b1) (5, (pT s1).length) 2 (bI (decide (nn / 8 % 2 = 1) = true))) (6, (pT s1).length) 1 (nI 0)) := ((EqF.rf.ul (by simp)).ui (by simp)).ui (by simp)
            exact l_rm hG (by omega) (s9 := s0) (by omega) htn hx1 hRL _ 0 (Nat.zero_add _) [] s1 _ rfl List.nodup_nil (fun e he => by cases he) (hw1.dr (Nat.le_refl _) hSd) hz1.1 ⟨by simp [ui, ul, rN], by simp [ui, rD], ⟨by simp [ui, rM], fun k x h => by cases h⟩, Nat.zero_le _⟩ (((hS1.ul (by unfold onD; simp; omega)).ui (by unfold onD; simp; omega)).ui (by unfold onD; simp; omega))
          · refine x_iconstN (b := 1) rfl rfl ?_
            refine x_goto rfl rfl ?_
            refine x_topI (v := bI (decide (nn / 8 % 2 = 1) = true)) (bI_t (decide_eq_true (Classical.not_not.mp (fun z => hc5 ((and8 (by omega)).mpr z))))).symm ?_
            refine x_callVv (d2 := 1) (c_Tr_become hG (Nat.le_refl 1) (by omega) (b1) (decide (nn / 8 % 2 = 1) = true)) rfl rfl v_2_181 rfl rfl (by show _ < 13; omega) rfl rfl (Nat.le_of_ble_eq_true rfl) (by omega) (by omega) ?_
            refine x_iconstN (b := 0) rfl rfl ?_
            refine x_istore rfl rfl rfl rfl ?_
            have hSd : EqF (fun k _ => ¬ (5 ≤ k.1 ∧ k.1 ≤ 7 ∧ k.2 = (pT s1).length)) M1 (ui (ui (ul M1 (5, (pT s1).length) 1 b1) (5, (pT s1).length) 2 (bI (decide (nn / 8 % 2 = 1) = true))) (6, (pT s1).length) 1 (nI 0)) := ((EqF.rf.ul (by simp)).ui (by simp)).ui (by simp)
            exact l_rm hG (by omega) (s9 := s0) (by omega) htn hx1 hRL _ 0 (Nat.zero_add _) [] s1 _ rfl List.nodup_nil (fun e he => by cases he) (hw1.dr (Nat.le_refl _) hSd) hz1.1 ⟨by simp [ui, ul, rN], by simp [ui, rD], ⟨by simp [ui, rM], fun k x h => by cases h⟩, Nat.zero_le _⟩ (((hS1.ul (by unfold onD; simp; omega)).ui (by unfold onD; simp; omega)).ui (by unfold onD; simp; omega))
        · refine x_aload_n rfl rfl rfl ?_
          refine x_getR0 rfl rfl f_2_38 rfl (by decide) rfl rfl ?_
          refine x_lload rfl rfl rfl ?_
          refine x_callVi (d2 := 1) (c_LL_has (len := al.length) hG (lk_17 (by decide)) b1 hw1.2.2.2.2.2.2.2.2.1.1 (by have := hw1.2.2.2.2.2.2.2.2.2; omega) (by decide) (Nat.le_refl 1)) rfl rfl v_2_174 rfl rfl (by decide) rfl rfl (Nat.le_of_ble_eq_true rfl) (by omega) (by omega) ?_
          refine x_topI (v := bI (b1 ∈ al)) (bI_iff (fx_has hw1.2.2.2.2.2.2.2.2.1.2)) ?_
          refine x_ifB_ne rfl rfl (fun hc6 => ?_) (fun hc6 => ?_)
          · rw [if_neg (fun z => z.2 hc6)]
            refine x_aload_n rfl rfl rfl ?_
            refine x_getR0 rfl rfl f_2_30 rfl (by decide) rfl rfl ?_
            refine x_getR0 rfl rfl f_2_178 rfl (by decide) rfl rfl ?_
            refine x_aload_n rfl rfl rfl ?_
            refine x_getIv (v := nI ((pT s1).length)) hw1.2.2.1.2.2.2.2.1 rfl rfl f_2_53 rfl (by decide) rfl ?_
            refine x_aaldi (a := (pT s1).length) rfl rfl rfl (by decide) (by decide) (by omega) (by decide) rfl ?_
            refine x_astore rfl rfl rfl rfl ?_
            refine x_aload rfl rfl rfl ?_
            refine x_lload rfl rfl rfl ?_
            refine x_iload_n rfl rfl rfl ?_
            refine x_bipush (v := nI 8) rfl rfl (by decide +kernel) ?_
            refine x_iand rfl rfl ?_
            refine x_if_eq rfl rfl (fun hc7 => ?_) (fun hc7 => ?_)
            · refine x_iconstN (b := 0) rfl rfl ?_
              refine x_topI (v := bI (decide (nn / 8 % 2 = 1) = true)) (bI_f (fun z => (and8 (by omega)).mp hc7 (of_decide_eq_true z))).symm ?_
              refine x_callVv (d2 := 1) (c_Tr_become hG (Nat.le_refl 1) (by omega) (b1) (decide (nn / 8 % 2 = 1) = true)) rfl rfl v_2_181 rfl rfl (by show _ < 13; omega) rfl rfl (Nat.le_of_ble_eq_true rfl) (by omega) (by omega) ?_
              refine x_iconstN (b := 0) rfl rfl ?_
              refine x_istore rfl rfl rfl rfl ?_
              have hSd : EqF (fun k _ => ¬ (5 ≤ k.1 ∧ k.1 ≤ 7 ∧ k.2 = (pT s1).length)) M1 (ui (ui (ul M1 (5, (pT s1).length) 1 b1) (5, (pT s1).length) 2 (bI (decide (nn / 8 % 2 = 1) = true))) (6, (pT s1).length) 1 (nI 0)) := ((EqF.rf.ul (by simp)).ui (by simp)).ui (by simp)
              exact l_rm hG (by omega) (s9 := s0) (by omega) htn hx1 hRL _ 0 (Nat.zero_add _) [] s1 _ rfl List.nodup_nil (fun e he => by cases he) (hw1.dr (Nat.le_refl _) hSd) hz1.1 ⟨by simp [ui, ul, rN], by simp [ui, rD], ⟨by simp [ui, rM], fun k x h => by cases h⟩, Nat.zero_le _⟩ (((hS1.ul (by unfold onD; simp; omega)).ui (by unfold onD; simp; omega)).ui (by unfold onD; simp; omega))
            · refine x_iconstN (b := 1) rfl rfl ?_
              refine x_goto rfl rfl ?_
              refine x_topI (v := bI (decide (nn / 8 % 2 = 1) = true)) (bI_t (decide_eq_true (Classical.not_not.mp (fun z => hc7 ((and8 (by omega)).mpr z))))).symm ?_
              refine x_callVv (d2 := 1) (c_Tr_become hG (Nat.le_refl 1) (by omega) (b1) (decide (nn / 8 % 2 = 1) = true)) rfl rfl v_2_181 rfl rfl (by show _ < 13; omega) rfl rfl (Nat.le_of_ble_eq_true rfl) (by omega) (by omega) ?_
              refine x_iconstN (b := 0) rfl rfl ?_
              refine x_istore rfl rfl rfl rfl ?_
              have hSd : EqF (fun k _ => ¬ (5 ≤ k.1 ∧ k.1 ≤ 7 ∧ k.2 = (pT s1).length)) M1 (ui (ui (ul M1 (5, (pT s1).length) 1 b1) (5, (pT s1).length) 2 (bI (decide (nn / 8 % 2 = 1) = true))) (6, (pT s1).length) 1 (nI 0)) := ((EqF.rf.ul (by simp)).ui (by simp)).ui (by simp)
              exact l_rm hG (by omega) (s9 := s0) (by omega) htn hx1 hRL _ 0 (Nat.zero_add _) [] s1 _ rfl List.nodup_nil (fun e he => by cases he) (hw1.dr (Nat.le_refl _) hSd) hz1.1 ⟨by simp [ui, ul, rN], by simp [ui, rD], ⟨by simp [ui, rM], fun k x h => by cases h⟩, Nat.zero_le _⟩ (((hS1.ul (by unfold onD; simp; omega)).ui (by unfold onD; simp; omega)).ui (by unfold onD; simp; omega))
          · refine x_aload_n rfl rfl rfl ?_
            refine x_iload rfl rfl rfl ?_
            exact r_stop (f := s0.1) (by rw [if_pos ⟨hc4, hc6⟩]) (c_stopAt hG (Nat.le_refl 6) _) (hS1.fo.ui (by simp [fq])) (by simp [ui]) rfl rfl v_2_88 rfl rfl (by decide) rfl rfl (Nat.le_of_ble_eq_true rfl) (by omega)
      · refine x_aload_n rfl rfl rfl ?_
        refine x_iload_n rfl rfl rfl ?_
        exact r_stop (f := np) (rTr_x hc1 (by omega)) (c_stopAt hG (Nat.le_refl 6) _) (hS0.fo.ui (by simp [fq])) (by simp [ui]) rfl rfl v_2_88 rfl rfl (by decide) rfl rfl (Nat.le_of_ble_eq_true rfl) (by omega)
  · rw [rTr_k hc1]
    refine x_aload_n rfl rfl rfl ?_
    refine x_iload_n rfl rfl rfl ?_
    refine x_iconstN (b := 4) rfl rfl ?_
    refine x_idivN (a := nn) (b := 4) (by omega) (by omega) (by omega) rfl rfl ?_
    refine x_iload_n rfl rfl rfl ?_
    refine r_callV (d2 := 7) (c_knownTraits hG (by omega) hw0 (j := nn / 4) (pl := np) (by omega)) hS0 (fun _ _ z => z) rfl rfl v_2_171 rfl rfl (by decide) rfl rfl (Nat.le_of_ble_eq_true rfl) (by omega) (fun b1 s1 M1 e1 hw1 hE1 hS1 => ?_)
    exact r_retI rfl hS1 hw1 rfl rfl rfl
set_option maxHeartbeats 4000000 in
set_option maxRecDepth 20000 in
theorem c_knownThingK (hG : Gok G) (hd : 7 ≤ d) {row : List Nat} {al : List Int64} {s0 : RS} (hw0 : RdC row al s0 M) {kd j np i : Nat} (hkd2 : kd < 16) (hj : (pL s0)[j]? = some i) : CR G mX2_knownThing d [.ref (ga G (27, 0)), .int (nI kd), .int (nI j), .int (nI np)] M (onD s0) (RdC row al) vLng (rKnown kd j np s0) := by
  have hS0 : EqF (onD s0) M M := EqF.rf
  have hA0 := hw0.2.1.1
  have hL6 := hw0.2.2.2.2.2.2.1
  obtain ⟨i1, i2, i3, i4, i5, i6, i7, i8, i9⟩ := id hw0.2.2.2.1
  have hjl := at_lt hj
  have hil := i6 i (at_mem hj)
  obtain ⟨x, hx⟩ : ∃ x, (pH s0)[i]? = some x := ⟨_, List.getElem?_eq_getElem hil⟩
  have hkd : kdAt s0 i = tK x := by unfold kdAt; rw [hx]
  have hk16 := i8 x (at_mem hx)
  refine r_of hG okX2_knownThing (by decide +kernel) rfl (Nat.le_of_ble_eq_true rfl) ?_
  refine x_aload_n rfl rfl rfl ?_
  refine x_getR0 rfl rfl f_2_20 rfl (by decide) rfl rfl ?_
  refine x_iload_n rfl rfl rfl ?_
  refine x_callVl (d2 := 0) (c_LL_at (len := (pL s0).length) hG (lk_30 (by decide)) j (ll_map hw0.2.2.1.1) (by omega) (by omega)) rfl rfl v_2_132 rfl rfl (by decide) rfl rfl (Nat.le_of_ble_eq_true rfl) (by omega) (by omega) ?_
  refine x_topL (v := lN i) (hw0.2.2.1.1.2 _ _ (map_at hj)) ?_
  refine x_lstore rfl rfl rfl rfl ?_
  refine x_lload rfl rfl rfl ?_
  refine x_ldc2 (v := -1) rfl rfl k_2_134 ?_
  refine x_lc_eq rfl rfl rfl rfl (fun hc1 => absurd hc1 (lN_m1 (by omega))) (fun hc1 => ?_)
  refine x_aload_n rfl rfl rfl ?_
  refine x_getR0 rfl rfl f_2_30 rfl (by decide) rfl rfl ?_
  refine x_getR0 rfl rfl f_2_106 rfl (by decide) rfl rfl ?_
  refine x_lload rfl rfl rfl ?_
  refine x_l2i rfl rfl ?_
  refine x_topI (v := nI i) (by rw [l2i_small (by rw [uN_lN (by omega)]; omega), uN_lN (by omega)]) ?_
  refine x_aaldi (a := i) rfl rfl rfl (by decide) (by decide) (by omega) (by decide) rfl ?_
  refine x_getIv (v := nI (tK x)) (hw0.2.2.1.2.2.2.2.2.2.2 i x hx) rfl rfl f_2_136 rfl (by show _ < 40; omega) rfl ?_
  refine x_iload_n rfl rfl rfl ?_
  refine x_icmpN_eq (by omega) (by omega) rfl rfl (fun hc2 => ?_) (fun hc2 => ?_)
  · refine x_bipush (v := nI 7) rfl rfl (by decide +kernel) ?_
    refine x_lload rfl rfl rfl ?_
    refine x_callSl (d2 := 0) (c_valueOf hG (nI 7) (lN i)) rfl rfl s_2_80 rfl rfl (Nat.le_of_ble_eq_true rfl) (by omega) (by omega) ?_
    refine x_topL (v := 16 * (lN i) + 7) (by rw [show (nI 7).toInt64 = 7 by decide +kernel]) ?_
    exact r_retL (by unfold rKnown; rw [hj]; exact if_pos (by rw [hkd]; exact hc2)) hS0 hw0 rfl rfl rfl
  · refine x_aload_n rfl rfl rfl ?_
    refine x_iload_n rfl rfl rfl ?_
    exact r_stop (f := np) (by unfold rKnown; rw [hj]; exact if_neg (by rw [hkd]; exact hc2)) (c_stopAt hG (Nat.le_refl 6) _) (hS0.fo.ui (by simp [fq])) (by simp [ui]) rfl rfl v_2_88 rfl rfl (by decide) rfl rfl (Nat.le_of_ble_eq_true rfl) (by omega)
set_option maxHeartbeats 4000000 in
set_option maxRecDepth 20000 in
theorem c_knownThingO (hG : Gok G) (hd : 7 ≤ d) {row : List Nat} {al : List Int64} {s0 : RS} (hw0 : RdC row al s0 M) {kd j np : Nat} (hj : (pL s0)[j]? = none) (hj2 : j < 2 ^ 31) : CR G mX2_knownThing d [.ref (ga G (27, 0)), .int (nI kd), .int (nI j), .int (nI np)] M (onD s0) (RdC row al) vLng (rKnown kd j np s0) := by
  have hS0 : EqF (onD s0) M M := EqF.rf
  have hA0 := hw0.2.1.1
  have hL6 := hw0.2.2.2.2.2.2.1
  obtain ⟨i1, i2, i3, i4, i5, i6, i7, i8, i9⟩ := id hw0.2.2.2.1
  have hjl := List.getElem?_eq_none_iff.mp hj
  refine r_of hG okX2_knownThing (by decide +kernel) rfl (Nat.le_of_ble_eq_true rfl) ?_
  refine x_aload_n rfl rfl rfl ?_
  refine x_getR0 rfl rfl f_2_20 rfl (by decide) rfl rfl ?_
  refine x_iload_n rfl rfl rfl ?_
  refine x_callVl (d2 := 0) (c_LL_atO (len := (pL s0).length) hG (lk_30 (by decide)) j (ll_map hw0.2.2.1.1) (by omega) (by omega) (by omega)) rfl rfl v_2_132 rfl rfl (by decide) rfl rfl (Nat.le_of_ble_eq_true rfl) (by omega) (by omega) ?_
  refine x_lstore rfl rfl rfl rfl ?_
  refine x_lload rfl rfl rfl ?_
  refine x_ldc2 (v := -1) rfl rfl k_2_134 ?_
  refine x_lc_eq rfl rfl rfl rfl (fun hc1 => ?_) (fun hc1 => absurd rfl hc1)
  refine x_aload_n rfl rfl rfl ?_
  refine x_iload_n rfl rfl rfl ?_
  exact r_stop (f := np) (by unfold rKnown; rw [hj]) (c_stopAt hG (Nat.le_refl 6) _) (hS0.fo.ui (by simp [fq])) (by simp [ui]) rfl rfl v_2_88 rfl rfl (by decide) rfl rfl (Nat.le_of_ble_eq_true rfl) (by omega)
theorem c_knownThing (hG : Gok G) (hd : 7 ≤ d) {row : List Nat} {al : List Int64} {s0 : RS} (hw0 : RdC row al s0 M) {kd j np : Nat} (hkd : kd < 16) (hj2 : j < 2 ^ 31) : CR G mX2_knownThing d [.ref (ga G (27, 0)), .int (nI kd), .int (nI j), .int (nI np)] M (onD s0) (RdC row al) vLng (rKnown kd j np s0) := by
  cases hj : (pL s0)[j]? with
  | some t => exact c_knownThingK hG hd hw0 hkd hj
  | none => exact c_knownThingO hG hd hw0 hj hj2
end R5
