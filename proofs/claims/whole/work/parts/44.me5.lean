theorem i29n {x : Int64} (h0 : x < 0) (h1 : ¬ x < -268435456) : (x + 536870912).toInt32 = nI (uN x % 536870912) := by
  have e0 : (0 : Int64).toInt = 0 := by decide +kernel
  have e1 : (-268435456 : Int64).toInt = -268435456 := by decide +kernel
  have e2 : uN (536870912 : Int64) = 536870912 := by decide +kernel
  rw [Int64.lt_iff_toInt_lt] at h0 h1
  have hx := uN_int x
  have hl := uN_lt x
  have ha := uN_add x 536870912
  rw [e2] at ha
  rw [e0] at h0
  rw [e1] at h1
  have hv : uN (x + 536870912) = uN x % 536870912 := by
    rw [ha]
    split at hx <;> omega
  rw [l2i_small (by rw [hv]; omega), hv]
theorem i29p {x : Int64} (h0 : ¬ x < 0) (h1 : x < 268435456) : x.toInt32 = nI (uN x % 536870912) := by
  have e0 : (0 : Int64).toInt = 0 := by decide +kernel
  have e1 : (268435456 : Int64).toInt = 268435456 := by decide +kernel
  rw [Int64.lt_iff_toInt_lt] at h0 h1
  have hx := uN_int x
  have hl := uN_lt x
  rw [e0] at h0
  rw [e1] at h1
  have hv : uN x < 268435456 := by split at hx <;> omega
  rw [l2i_small (by omega), Nat.mod_eq_of_lt (by omega)]
section M5
variable {G : Gd} {d : Nat} {M : Mm} {A : Ab}
theorem c_memitThing (hG : Gok G) (hd : 4 ≤ d) (hwf : wfA A) {s : WS} (hw0 : WrM s M) (hb : s.1.length < 800) (hR : RM A M) {h : Nat} (hh : M.1 (40, 0) 28 = nI h) (hh2 : h ≤ 12) {i : Nat} {x : Th} (hx : (aH A)[i]? = some x) : Ce G mX9_emitThing d [.ref (ga G (40, 0)), .int (nI i)] M (.inl none) (PH A h M (thd A h x i (emT [tK x] s))) 0 := by
  cases hp : lfx (s.2.2.1.map lN) (lN i) with
  | some p =>
    have e : thd A h x i (emT [tK x] s) = some (emT (numB (2 * p)) (emT [tK x] s), none) := by unfold thd; rw [show lfx ((emT [tK x] s).2.2.1.map lN) (lN i) = some p from hp]
    rw [e]
    exact c_mthK hG hd hwf hw0 hb hR hh hh2 hx hp
  | none =>
    by_cases hh3 : h = 12
    · have e : thd A h x i (emT [tK x] s) = none := by unfold thd; rw [show lfx ((emT [tK x] s).2.2.1.map lN) (lN i) = none from hp]; simp only [if_pos hh3]
      rw [e]
      exact c_mthX hG hd hwf hw0 hb hR hh hh2 hx hp hh3
    · have e : thd A h x i (emT [tK x] s) = some (hdT A x (addH i (emT [tK x] s)), if tK x = 9 ∨ tK x = 10 then some i else none) := by unfold thd; rw [show lfx ((emT [tK x] s).2.2.1.map lN) (lN i) = none from hp]; simp only [if_neg hh3]
      rw [e]
      have hok := hwf.2.2.1 _ (at_mem hx)
      rcases hok.1 with hk | hk | hk | hk
      · rw [if_neg (by omega)]; exact c_mth8 hG hd hwf hw0 hb hR hh hh2 hx hk hp hh3
      · rw [if_pos (by omega)]; exact c_mth9 hG hd hwf hw0 hb hR hh hh2 hx hk hp hh3
      · rw [if_pos (by omega)]
        obtain ⟨y, hy, -⟩ := hok.2.2.2.2.1 hk
        by_cases hdd : rD y = true
        · exact c_mth10D hG hd hwf hw0 hb hR hh hh2 hx hk hp hh3 hy hdd
        · exact c_mth10S hG hd hwf hw0 hb hR hh hh2 hx hk hp hh3 hy hdd
      · rw [if_neg (by omega)]; exact c_mth12 hG hd hwf hw0 hb hR hh hh2 hx hk hp hh3
set_option maxHeartbeats 4000000 in
set_option maxRecDepth 20000 in
theorem c_mval7 (hG : Gok G) (hd : 5 ≤ d) (hwf : wfA A) {s : WS} (hw0 : WrM s M) (hb : s.1.length < 750) (hR : RM A M) {h : Nat} (hh : M.1 (40, 0) 28 = nI h) (hh2 : h ≤ 12) (v : Int64) (hv : vOK A v) (hk : uN v % 16 = 7) {x : Th} (hx : (aH A)[uN (sh4 v)]? = some x) : Ce G mX9_emitValue d [.ref (ga G (40, 0)), .long (v)] M (.inl none) (PH A h M (thd A h x (uN (sh4 v)) (emT [tK x] s))) 0 := by
  have hS0 : EqF onX M M := EqF.rf
  have hlt := at_lt hx
  have hn40 := hR.n40
  refine ce_of hG okX9_emitValue (by decide +kernel) rfl (Nat.le_of_ble_eq_true rfl) ?_
  refine x_lload_n rfl rfl rfl ?_
  refine x_ldc2 (v := 15) rfl rfl k_9_108 ?_
  refine x_land rfl rfl ?_
  refine x_l2i rfl rfl ?_
  refine x_topI (v := nI (7)) (by rw [kd_eq, hk]) ?_
  refine x_istore_n rfl rfl rfl rfl ?_
  refine x_lload_n rfl rfl rfl ?_
  refine x_iconstN (b := 4) rfl rfl ?_
  refine x_lshr rfl rfl ?_
  refine x_topL (v := sh4 v) rfl ?_
  refine x_lstore rfl rfl rfl rfl ?_
  refine x_iload_n rfl rfl rfl ?_
  refine x_iconstN (b := 4) rfl rfl ?_
  refine x_icmpN_ge (by omega) (by omega) rfl rfl (fun hc1 => ?_) (fun hc1 => absurd hc1 (by omega))
  refine x_iload_n rfl rfl rfl ?_
  refine x_iconstN (b := 4) rfl rfl ?_
  refine x_icmpN_ne (by omega) (by omega) rfl rfl (fun hc2 => ?_) (fun hc2 => absurd hc2 (by omega))
  refine x_iload_n rfl rfl rfl ?_
  refine x_iconstN (b := 5) rfl rfl ?_
  refine x_icmpN_ne (by omega) (by omega) rfl rfl (fun hc3 => ?_) (fun hc3 => absurd hc3 (by omega))
  refine x_iload_n rfl rfl rfl ?_
  refine x_bipush (v := nI 6) rfl rfl (by decide +kernel) ?_
  refine x_icmpN_ne (by omega) (by omega) rfl rfl (fun hc4 => ?_) (fun hc4 => absurd hc4 (by omega))
  refine x_aload_n rfl rfl rfl ?_
  refine x_lload rfl rfl rfl ?_
  refine x_l2i rfl rfl ?_
  refine x_topI (v := nI (uN (sh4 v))) (l2i_small (by omega)) ?_
  refine x_callVe (k2 := 0) (d2 := 4) (c_memitThing hG (Nat.le_refl 4) hwf hw0 (by omega) hR hh hh2 hx) rfl rfl v_9_208 rfl rfl (by decide) rfl rfl (Nat.le_of_ble_eq_true rfl) (by omega) (Nat.zero_le _) (fun M9 q9 => ?_)
  exact fr_e (x_vret rfl rfl rfl (Nat.zero_le _)) q9
set_option maxHeartbeats 4000000 in
set_option maxRecDepth 20000 in
theorem c_mval4 (hG : Gok G) (hd : 5 ≤ d) (hwf : wfA A) {s : WS} (hw0 : WrM s M) (hb : s.1.length < 750) (hR : RM A M) {h : Nat} (hh : M.1 (40, 0) 28 = nI h) (hh2 : h ≤ 12) (v : Int64) (hv : vOK A v) (hk : uN v % 16 = 4) : Ce G mX9_emitValue d [.ref (ga G (40, 0)), .long (v)] M (.inl none) (fun M' => EqF onX M M' ∧ WrM (emT (numB (uN (sh4 v) % 536870912)) (emT [4] s)) M') 0 := by
  have hS0 : EqF onX M M := EqF.rf
  have hv4 := (isV_4 hk).mp hv
  refine ce_of hG okX9_emitValue (by decide +kernel) rfl (Nat.le_of_ble_eq_true rfl) ?_
  refine x_lload_n rfl rfl rfl ?_
  refine x_ldc2 (v := 15) rfl rfl k_9_108 ?_
  refine x_land rfl rfl ?_
  refine x_l2i rfl rfl ?_
  refine x_topI (v := nI (4)) (by rw [kd_eq, hk]) ?_
  refine x_istore_n rfl rfl rfl rfl ?_
  refine x_lload_n rfl rfl rfl ?_
  refine x_iconstN (b := 4) rfl rfl ?_
  refine x_lshr rfl rfl ?_
  refine x_topL (v := sh4 v) rfl ?_
  refine x_lstore rfl rfl rfl rfl ?_
  refine x_iload_n rfl rfl rfl ?_
  refine x_iconstN (b := 4) rfl rfl ?_
  refine x_icmpN_ge (by omega) (by omega) rfl rfl (fun hc1 => ?_) (fun hc1 => absurd hc1 (by omega))
  refine x_iload_n rfl rfl rfl ?_
  refine x_iconstN (b := 4) rfl rfl ?_
  refine x_icmpN_ne (by omega) (by omega) rfl rfl (fun hc2 => absurd hc2 (by omega)) (fun hc2 => ?_)
  refine x_aload_n rfl rfl rfl ?_
  refine x_iconstN (b := 4) rfl rfl ?_
  refine x_callVe (k2 := 0) (d2 := 0) (c_memit hG  (s := s) hw0 (by first | omega | (simp [emT, addT, addH, addR]; omega)) (4)) rfl rfl v_9_183 rfl rfl (by decide) rfl rfl (Nat.le_of_ble_eq_true rfl) (by omega) (Nat.zero_le _) (fun M1 q1 => ?_)
  have hS1 := hS0.tr q1.1
  have hw1 := q1.2
  refine x_aload_n rfl rfl rfl ?_
  refine x_lload rfl rfl rfl ?_
  refine x_lconst (v := 0) rfl rfl (by decide +kernel) ?_
  refine x_lc_ge rfl rfl rfl rfl (fun hc3 => ?_) (fun hc3 => ?_)
  · refine x_lload rfl rfl rfl ?_
    refine x_l2i rfl rfl ?_
    refine x_topI (v := nI (uN (sh4 v) % 536870912)) (i29p (by simpa using hc3) hv4.2) ?_
    refine x_callVe (k2 := 0) (d2 := 1) (c_memitNumber hG (by omega) (s := emT [4] (s)) hw1 (by first | omega | (simp [emT, addT, addH, addR]; omega)) (n := uN (sh4 v) % 536870912) (by omega)) rfl rfl v_9_190 rfl rfl (by decide) rfl rfl (Nat.le_of_ble_eq_true rfl) (by omega) (Nat.zero_le _) (fun M2 q2 => ?_)
    have hS2 := hS1.tr q2.1
    have hw2 := q2.2
    refine x_goto rfl rfl ?_
    exact fr_e (x_vret rfl rfl rfl (Nat.zero_le _)) ⟨hS2, hw2⟩
  · refine x_lload rfl rfl rfl ?_
    refine x_ldc2 (v := 536870912) rfl rfl k_9_199 ?_
    refine x_ladd rfl rfl ?_
    refine x_goto rfl rfl ?_
    refine x_l2i rfl rfl ?_
    refine x_topI (v := nI (uN (sh4 v) % 536870912)) (i29n (by simpa using hc3) hv4.1) ?_
    refine x_callVe (k2 := 0) (d2 := 1) (c_memitNumber hG (by omega) (s := emT [4] (s)) hw1 (by first | omega | (simp [emT, addT, addH, addR]; omega)) (n := uN (sh4 v) % 536870912) (by omega)) rfl rfl v_9_190 rfl rfl (by decide) rfl rfl (Nat.le_of_ble_eq_true rfl) (by omega) (Nat.zero_le _) (fun M2 q2 => ?_)
    have hS2 := hS1.tr q2.1
    have hw2 := q2.2
    refine x_goto rfl rfl ?_
    exact fr_e (x_vret rfl rfl rfl (Nat.zero_le _)) ⟨hS2, hw2⟩
set_option maxHeartbeats 4000000 in
set_option maxRecDepth 20000 in
theorem c_mval5 (hG : Gok G) (hd : 5 ≤ d) (hwf : wfA A) {s : WS} (hw0 : WrM s M) (hb : s.1.length < 750) (hR : RM A M) {h : Nat} (hh : M.1 (40, 0) 28 = nI h) (hh2 : h ≤ 12) (v : Int64) (hv : vOK A v) (hk : uN v % 16 = 5) : Ce G mX9_emitValue d [.ref (ga G (40, 0)), .long (v)] M (.inl none) (fun M' => EqF onX M M' ∧ WrM (emT (eightB ((aW A)[uN (sh4 v)]?.getD 0)) (emT [5] s)) M') 0 := by
  have hS0 : EqF onX M M := EqF.rf
  have hv5 := (isV_5 hk).mp hv
  have hin := uN_in hR.nW hv5.1 hv5.2
  have hnW := hR.nW
  refine ce_of hG okX9_emitValue (by decide +kernel) rfl (Nat.le_of_ble_eq_true rfl) ?_
  refine x_lload_n rfl rfl rfl ?_
  refine x_ldc2 (v := 15) rfl rfl k_9_108 ?_
  refine x_land rfl rfl ?_
  refine x_l2i rfl rfl ?_
  refine x_topI (v := nI (5)) (by rw [kd_eq, hk]) ?_
  refine x_istore_n rfl rfl rfl rfl ?_
  refine x_lload_n rfl rfl rfl ?_
  refine x_iconstN (b := 4) rfl rfl ?_
  refine x_lshr rfl rfl ?_
  refine x_topL (v := sh4 v) rfl ?_
  refine x_lstore rfl rfl rfl rfl ?_
  refine x_iload_n rfl rfl rfl ?_
  refine x_iconstN (b := 4) rfl rfl ?_
  refine x_icmpN_ge (by omega) (by omega) rfl rfl (fun hc1 => ?_) (fun hc1 => absurd hc1 (by omega))
  refine x_iload_n rfl rfl rfl ?_
  refine x_iconstN (b := 4) rfl rfl ?_
  refine x_icmpN_ne (by omega) (by omega) rfl rfl (fun hc2 => ?_) (fun hc2 => absurd hc2 (by omega))
  refine x_iload_n rfl rfl rfl ?_
  refine x_iconstN (b := 5) rfl rfl ?_
  refine x_icmpN_ne (by omega) (by omega) rfl rfl (fun hc3 => absurd hc3 (by omega)) (fun hc3 => ?_)
  refine x_aload_n rfl rfl rfl ?_
  refine x_iconstN (b := 5) rfl rfl ?_
  refine x_callVe (k2 := 0) (d2 := 0) (c_memit hG  (s := s) hw0 (by first | omega | (simp [emT, addT, addH, addR]; omega)) (5)) rfl rfl v_9_183 rfl rfl (by decide) rfl rfl (Nat.le_of_ble_eq_true rfl) (by omega) (Nat.zero_le _) (fun M1 q1 => ?_)
  have hS1 := hS0.tr q1.1
  have hw1 := q1.2
  refine x_aload_n rfl rfl rfl ?_
  refine x_aload_n rfl rfl rfl ?_
  refine x_getR0 rfl rfl f_9_7 rfl (by decide) rfl rfl ?_
  refine x_lload rfl rfl rfl ?_
  refine x_l2i rfl rfl ?_
  refine x_topI (v := nI (uN (sh4 v))) (l2i_small (by omega)) ?_
  refine x_laldv (a := uN (sh4 v)) (v := (aW A)[uN (sh4 v)]?.getD 0) ((hR.eq hS1.r).1.1.at (by omega)) rfl rfl rfl (by decide) (by omega) (by decide) ?_
  refine x_callVe (k2 := 0) (d2 := 1) (c_memitEight hG (by omega) (s := emT [5] (s)) hw1 (by first | omega | (simp [emT, addT, addH, addR]; omega)) ((aW A)[uN (sh4 v)]?.getD 0)) rfl rfl v_9_201 rfl rfl (by decide) rfl rfl (Nat.le_of_ble_eq_true rfl) (by omega) (Nat.zero_le _) (fun M2 q2 => ?_)
  have hS2 := hS1.tr q2.1
  have hw2 := q2.2
  refine x_goto rfl rfl ?_
  exact fr_e (x_vret rfl rfl rfl (Nat.zero_le _)) ⟨hS2, hw2⟩
set_option maxHeartbeats 4000000 in
set_option maxRecDepth 20000 in
theorem c_mval6 (hG : Gok G) (hd : 5 ≤ d) (hwf : wfA A) {s : WS} (hw0 : WrM s M) (hb : s.1.length < 750) (hR : RM A M) {h : Nat} (hh : M.1 (40, 0) 28 = nI h) (hh2 : h ≤ 12) (v : Int64) (hv : vOK A v) (hk : uN v % 16 = 6) : Ce G mX9_emitValue d [.ref (ga G (40, 0)), .long (v)] M (.inl none) (fun M' => EqF onX M M' ∧ WrM (strT (sh4 v) (emT [6] s)) M') 0 := by
  have hS0 : EqF onX M M := EqF.rf
  have htx := (isV_6 hk).mp hv
  refine ce_of hG okX9_emitValue (by decide +kernel) rfl (Nat.le_of_ble_eq_true rfl) ?_
  refine x_lload_n rfl rfl rfl ?_
  refine x_ldc2 (v := 15) rfl rfl k_9_108 ?_
  refine x_land rfl rfl ?_
  refine x_l2i rfl rfl ?_
  refine x_topI (v := nI (6)) (by rw [kd_eq, hk]) ?_
  refine x_istore_n rfl rfl rfl rfl ?_
  refine x_lload_n rfl rfl rfl ?_
  refine x_iconstN (b := 4) rfl rfl ?_
  refine x_lshr rfl rfl ?_
  refine x_topL (v := sh4 v) rfl ?_
  refine x_lstore rfl rfl rfl rfl ?_
  refine x_iload_n rfl rfl rfl ?_
  refine x_iconstN (b := 4) rfl rfl ?_
  refine x_icmpN_ge (by omega) (by omega) rfl rfl (fun hc1 => ?_) (fun hc1 => absurd hc1 (by omega))
  refine x_iload_n rfl rfl rfl ?_
  refine x_iconstN (b := 4) rfl rfl ?_
  refine x_icmpN_ne (by omega) (by omega) rfl rfl (fun hc2 => ?_) (fun hc2 => absurd hc2 (by omega))
  refine x_iload_n rfl rfl rfl ?_
  refine x_iconstN (b := 5) rfl rfl ?_
  refine x_icmpN_ne (by omega) (by omega) rfl rfl (fun hc3 => ?_) (fun hc3 => absurd hc3 (by omega))
  refine x_iload_n rfl rfl rfl ?_
  refine x_bipush (v := nI 6) rfl rfl (by decide +kernel) ?_
  refine x_icmpN_ne (by omega) (by omega) rfl rfl (fun hc4 => absurd hc4 (by omega)) (fun hc4 => ?_)
  refine x_aload_n rfl rfl rfl ?_
  refine x_bipush (v := nI 6) rfl rfl (by decide +kernel) ?_
  refine x_callVe (k2 := 0) (d2 := 0) (c_memit hG  (s := s) hw0 (by first | omega | (simp [emT, addT, addH, addR]; omega)) (6)) rfl rfl v_9_183 rfl rfl (by decide) rfl rfl (Nat.le_of_ble_eq_true rfl) (by omega) (Nat.zero_le _) (fun M1 q1 => ?_)
  have hS1 := hS0.tr q1.1
  have hw1 := q1.2
  refine x_aload_n rfl rfl rfl ?_
  refine x_lload rfl rfl rfl ?_
  refine x_callVe (k2 := 0) (d2 := 2) (c_memitString hG (by omega) (s := emT [6] (s)) hw1 (by first | omega | (simp [emT, addT, addH, addR]; omega)) (sh4 v) htx) rfl rfl v_9_205 rfl rfl (by decide) rfl rfl (Nat.le_of_ble_eq_true rfl) (by omega) (Nat.zero_le _) (fun M2 q2 => ?_)
  have hS2 := hS1.tr q2.1
  have hw2 := q2.2
  refine x_goto rfl rfl ?_
  exact fr_e (x_vret rfl rfl rfl (Nat.zero_le _)) ⟨hS2, hw2⟩
set_option maxHeartbeats 4000000 in
set_option maxRecDepth 20000 in
theorem c_mvalO (hG : Gok G) (hd : 5 ≤ d) (hwf : wfA A) {s : WS} (hw0 : WrM s M) (hb : s.1.length < 750) (hR : RM A M) {h : Nat} (hh : M.1 (40, 0) 28 = nI h) (hh2 : h ≤ 12) (v : Int64) (hv : vOK A v) (hk : uN v % 16 ≤ 3) : Ce G mX9_emitValue d [.ref (ga G (40, 0)), .long (v)] M (.inl none) (fun M' => EqF onX M M' ∧ WrM (emT [uN v % 16] s) M') 0 := by
  have hS0 : EqF onX M M := EqF.rf
  refine ce_of hG okX9_emitValue (by decide +kernel) rfl (Nat.le_of_ble_eq_true rfl) ?_
  refine x_lload_n rfl rfl rfl ?_
  refine x_ldc2 (v := 15) rfl rfl k_9_108 ?_
  refine x_land rfl rfl ?_
  refine x_l2i rfl rfl ?_
  refine x_topI (v := nI (uN v % 16)) (by rw [kd_eq]) ?_
  refine x_istore_n rfl rfl rfl rfl ?_
  refine x_lload_n rfl rfl rfl ?_
  refine x_iconstN (b := 4) rfl rfl ?_
  refine x_lshr rfl rfl ?_
  refine x_topL (v := sh4 v) rfl ?_
  refine x_lstore rfl rfl rfl rfl ?_
  refine x_iload_n rfl rfl rfl ?_
  refine x_iconstN (b := 4) rfl rfl ?_
  refine x_icmpN_ge (by omega) (by omega) rfl rfl (fun hc1 => absurd hc1 (by omega)) (fun hc1 => ?_)
  refine x_aload_n rfl rfl rfl ?_
  refine x_iload_n rfl rfl rfl ?_
  refine x_callVe (k2 := 0) (d2 := 0) (c_memit hG  (s := s) hw0 (by first | omega | (simp [emT, addT, addH, addR]; omega)) (uN v % 16)) rfl rfl v_9_183 rfl rfl (by decide) rfl rfl (Nat.le_of_ble_eq_true rfl) (by omega) (Nat.zero_le _) (fun M1 q1 => ?_)
  have hS1 := hS0.tr q1.1
  have hw1 := q1.2
  refine x_goto rfl rfl ?_
  exact fr_e (x_vret rfl rfl rfl (Nat.zero_le _)) ⟨hS1, hw1⟩
theorem c_memitValue (hG : Gok G) (hd : 5 ≤ d) (hwf : wfA A) {s : WS} (hw0 : WrM s M) (hb : s.1.length < 750) (hR : RM A M) {h : Nat} (hh : M.1 (40, 0) 28 = nI h) (hh2 : h ≤ 12) (v : Int64) (hv : vOK A v) : Ce G mX9_emitValue d [.ref (ga G (40, 0)), .long v] M (.inl none) (PH A h M (vhd A h v s)) 0 := by
  unfold vhd
  by_cases h7 : uN v % 16 = 7
  · have hv7 := (isV_7 h7).mp hv
    have hx := List.getElem?_eq_getElem (uN_in hR.n40 hv7.1 hv7.2)
    rw [if_pos h7, hx]
    exact c_mval7 hG hd hwf hw0 hb hR hh hh2 v hv h7 hx
  rw [if_neg h7]
  by_cases h4 : uN v % 16 = 4
  · rw [if_pos h4]; exact c_mval4 hG hd hwf hw0 hb hR hh hh2 v hv h4
  rw [if_neg h4]
  by_cases h5 : uN v % 16 = 5
  · rw [if_pos h5]; exact c_mval5 hG hd hwf hw0 hb hR hh hh2 v hv h5
  rw [if_neg h5]
  by_cases h6 : uN v % 16 = 6
  · rw [if_pos h6]; exact c_mval6 hG hd hwf hw0 hb hR hh hh2 v hv h6
  rw [if_neg h6]
  exact c_mvalO hG hd hwf hw0 hb hR hh hh2 v hv ((isV_O h4 h5 h6 h7).mp hv).1
end M5
