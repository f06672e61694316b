theorem uN_in {x : Int64} {n : Nat} (hn : n ≤ 40) (h0 : ¬ x < 0) (h : x < lN n) : uN x < n := by
  have e0 : (0 : Int64).toInt = 0 := by decide +kernel
  have en : (lN n).toInt = (n : Int) := by rw [toInt_small (by rw [uN_lN (by omega)]; omega), uN_lN (by omega)]
  rw [Int64.lt_iff_toInt_lt] at h0 h
  have hx := uN_int x
  have hl := uN_lt x
  rw [e0] at h0
  rw [en] at h
  split at hx <;> omega
theorem sh_30 (x : Int64) : (x.toInt32 &&& 536870911) = nI (uN x % 536870912) := by
  rw [pk_and x.toInt32 29 (by decide +kernel)]
  have e : x.toInt32.toBitVec.toNat = uN x % 4294967296 := by
    show (x.toBitVec.signExtend 32).toNat = _
    rw [BitVec.signExtend_eq_setWidth_of_le _ (by decide), BitVec.toNat_setWidth]
    rfl
  rw [e]
  congr 1
  omega
/-- the contract of writing a value, where rec says what is written -/
def WV (G : Gd) (A : Ab) (dv dp : Nat) (rec : Int64 → WS → Option WS) : Prop := ∀ (v : Int64), vOK A v → ∀ (s : WS) (M : Mm), WrC s M → Cn A M → CW G mX7_writeValue dv [.ref (ga G (19, 0)), .long v, .int (nI dp)] M (rec v s)
section W4
variable {G : Gd} {d : Nat} {M : Mm} {s0 : WS} {A : Ab}
set_option maxHeartbeats 4000000 in
theorem l_writeItems (hG : Gok G) {i : Nat} {x : Th} (hx : (aH A)[i]? = some x) {dv dp : Nat} {rec : Int64 → WS → Option WS} (hrec : WV G A dv dp rec) (hdv : dv + 1 ≤ d) (hok : ∀ v ∈ tL x, vOK A v) {M9 : Mm} (hC : Cn A M9) : ∀ (n j : Nat), j + n = (tL x).length → ∀ (s0 : WS) (M : Mm), WrC s0 M → Eqn onW M9 M → FW G mX7_writeItems d M9 (witem rec ((tL x).drop j) s0) 2 [(0, .ref (ga G (19, 0))), (1, .ref (ga G (8, i))), (2, .int (nI dp)), (3, .int (nI j))] [] M := by
  intro n
  induction n with
  | zero =>
    intro j hj s0 M hw0 hS0
    have hC0 := hC.w hS0
    have ht0 := hC0.2.2.1 i x hx
    have hil := at_lt hx
    have hi40 := hC0.n40
    have hb8 := ht0.2.2.2.2.2.2.1
    have hb6 := ht0.2.2.2.2.2.2.2.1
    have hb7 := ht0.2.2.2.2.2.2.2.2.1
    rw [List.drop_eq_nil_of_le (by omega)]
    refine x_iload_n rfl rfl rfl ?_
    refine x_aload_n rfl rfl rfl ?_
    refine x_getRi rfl rfl f_7_94 rfl (by show _ < 40; omega) rfl rfl ?_
    refine x_getIv (v := nI ((tL x).length)) ht0.2.2.2.1.1 rfl rfl f_7_101 rfl (by show _ < 40; omega) rfl ?_
    refine x_icmpN_ge (by omega) (by omega) rfl rfl (fun hc1 => ?_) (fun hc1 => absurd hc1 (by omega))
    exact w_ret rfl hw0 hS0 rfl rfl rfl
  | succ n ih =>
    intro j hj s0 M hw0 hS0
    have hC0 := hC.w hS0
    have ht0 := hC0.2.2.1 i x hx
    have hil := at_lt hx
    have hi40 := hC0.n40
    have hb8 := ht0.2.2.2.2.2.2.1
    have hb6 := ht0.2.2.2.2.2.2.2.1
    have hb7 := ht0.2.2.2.2.2.2.2.2.1
    rw [drop_cons (show j < (tL x).length by omega)]
    show FW G mX7_writeItems d M9 ((rec ((tL x)[j]?.getD 0) s0).bind (witem rec ((tL x).drop (j + 1)))) 2 _ [] M
    refine x_iload_n rfl rfl rfl ?_
    refine x_aload_n rfl rfl rfl ?_
    refine x_getRi rfl rfl f_7_94 rfl (by show _ < 40; omega) rfl rfl ?_
    refine x_getIv (v := nI ((tL x).length)) ht0.2.2.2.1.1 rfl rfl f_7_101 rfl (by show _ < 40; omega) rfl ?_
    refine x_icmpN_ge (by omega) (by omega) rfl rfl (fun hc1 => absurd hc1 (by omega)) (fun hc1 => ?_)
    refine x_aload_n rfl rfl rfl ?_
    refine x_aload_n rfl rfl rfl ?_
    refine x_getRi rfl rfl f_7_94 rfl (by show _ < 40; omega) rfl rfl ?_
    refine x_iload_n rfl rfl rfl ?_
    refine x_callVl (d2 := 0) (c_LL_at (len := (tL x).length) hG (lk_9 (by omega)) (j) ht0.2.2.2.1.1 (by omega) (by omega)) rfl rfl v_7_112 rfl rfl (by show _ < 40; omega) rfl rfl (Nat.le_of_ble_eq_true rfl) (by omega) (by omega) ?_
    refine x_topL (v := (tL x)[j]?.getD 0) (ht0.2.2.2.1.2.at (by omega)) ?_
    refine x_iload_n rfl rfl rfl ?_
    refine w_callV (d2 := dv) (hrec _ (hok _ (getD_mem (by omega))) s0 _ hw0 hC0) hS0 rfl rfl v_7_140 rfl rfl (by decide) rfl rfl (Nat.le_of_ble_eq_true rfl) hdv (fun s1 M1 e1 hw1 hS1 => ?_)
    refine x_iincN (a := j) (b := 1) rfl rfl rfl rfl rfl ?_
    refine x_goto rfl rfl ?_
    exact ih (j + 1) (by omega) s1 M1 hw1 hS1
set_option maxHeartbeats 4000000 in
set_option maxRecDepth 20000 in
theorem c_writeItems (hG : Gok G) (hw0 : WrC s0 M) (hC : Cn A M) {i : Nat} {x : Th} (hx : (aH A)[i]? = some x) (hok : ∀ v ∈ tL x, vOK A v) {dv dp : Nat} {rec : Int64 → WS → Option WS} (hrec : WV G A dv dp rec) (hdv : dv + 1 ≤ d) : CW G mX7_writeItems d [.ref (ga G (19, 0)), .ref (ga G (8, i)), .int (nI dp)] M (witem rec (tL x) s0) := by
  have hS0 : Eqn onW M M := Eqn.rf
  refine w_of hG okX7_writeItems (by decide +kernel) rfl (Nat.le_of_ble_eq_true rfl) ?_
  refine x_iconstN (b := 0) rfl rfl ?_
  refine x_istore_n rfl rfl rfl rfl ?_
  exact l_writeItems hG hx hrec hdv hok hC _ 0 (Nat.zero_add _) s0 M hw0 hS0
set_option maxHeartbeats 4000000 in
theorem l_writePairs (hG : Gok G) (hd : 9 ≤ d) {i : Nat} {x : Th} (hx : (aH A)[i]? = some x) {dv dp : Nat} {rec : Int64 → WS → Option WS} (hrec : WV G A dv dp rec) (hdv : dv + 1 ≤ d) (hok : ∀ v ∈ tV x, vOK A v) (hky : ∀ k ∈ tY x, isTx k ∧ ¬ k = 0) {M9 : Mm} (hC : Cn A M9) : ∀ (n j : Nat), j + n = (tY x).length → ∀ (s0 : WS) (M : Mm), WrC s0 M → Eqn onW M9 M → FW G mX7_writePairs d M9 (wpair rec ((tY x).drop j) ((tV x).drop j) s0) 2 [(0, .ref (ga G (19, 0))), (1, .ref (ga G (8, i))), (2, .int (nI dp)), (3, .int (nI j))] [] M := by
  intro n
  induction n with
  | zero =>
    intro j hj s0 M hw0 hS0
    have hC0 := hC.w hS0
    have ht0 := hC0.2.2.1 i x hx
    have hil := at_lt hx
    have hi40 := hC0.n40
    have hb8 := ht0.2.2.2.2.2.2.1
    have hb6 := ht0.2.2.2.2.2.2.2.1
    have hb7 := ht0.2.2.2.2.2.2.2.2.1
    rw [List.drop_eq_nil_of_le (show (tY x).length ≤ j by omega)]
    show FW G mX7_writePairs d M9 (wstr 0 s0) 2 _ [] M
    rw [← bsome (wstr 0 s0)]
    have htx : isTx 0 := Or.inl rfl
    refine x_iload_n rfl rfl rfl ?_
    refine x_aload_n rfl rfl rfl ?_
    refine x_getRi rfl rfl f_7_144 rfl (by show _ < 40; omega) rfl rfl ?_
    refine x_getIv (v := nI ((tY x).length)) ht0.2.2.2.2.1.1 rfl rfl f_7_101 rfl (by show _ < 40; omega) rfl ?_
    refine x_icmpN_ge (by omega) (by omega) rfl rfl (fun hc1 => ?_) (fun hc1 => absurd hc1 (by omega))
    refine x_aload_n rfl rfl rfl ?_
    refine x_lconst (v := 0) rfl rfl (by decide +kernel) ?_
    refine w_callV (d2 := 8) (c_writeString hG (by omega) hw0 (0) htx) hS0 rfl rfl v_7_70 rfl rfl (by decide) rfl rfl (Nat.le_of_ble_eq_true rfl) (by omega) (fun s1 M1 e1 hw1 hS1 => ?_)
    have hC1 := hC.w hS1
    have ht1 := hC1.2.2.1 i x hx
    exact w_ret rfl hw1 hS1 rfl rfl rfl
  | succ n ih =>
    intro j hj s0 M hw0 hS0
    have hC0 := hC.w hS0
    have ht0 := hC0.2.2.1 i x hx
    have hil := at_lt hx
    have hi40 := hC0.n40
    have hb8 := ht0.2.2.2.2.2.2.1
    have hb6 := ht0.2.2.2.2.2.2.2.1
    have hb7 := ht0.2.2.2.2.2.2.2.2.1
    rw [drop_cons (show j < (tY x).length by omega), drop_cons (show j < (tV x).length by omega)]
    show FW G mX7_writePairs d M9 ((wstr ((tY x)[j]?.getD 0) s0).bind fun s1 => (rec ((tV x)[j]?.getD 0) s1).bind (wpair rec ((tY x).drop (j + 1)) ((tV x).drop (j + 1)))) 2 _ [] M
    have htx := (hky _ (getD_mem (show j < (tY x).length by omega))).1
    refine x_iload_n rfl rfl rfl ?_
    refine x_aload_n rfl rfl rfl ?_
    refine x_getRi rfl rfl f_7_144 rfl (by show _ < 40; omega) rfl rfl ?_
    refine x_getIv (v := nI ((tY x).length)) ht0.2.2.2.2.1.1 rfl rfl f_7_101 rfl (by show _ < 40; omega) rfl ?_
    refine x_icmpN_ge (by omega) (by omega) rfl rfl (fun hc1 => absurd hc1 (by omega)) (fun hc1 => ?_)
    refine x_aload_n rfl rfl rfl ?_
    refine x_aload_n rfl rfl rfl ?_
    refine x_getRi rfl rfl f_7_144 rfl (by show _ < 40; omega) rfl rfl ?_
    refine x_iload_n rfl rfl rfl ?_
    refine x_callVl (d2 := 0) (c_LL_at (len := (tY x).length) hG (lk_11 (by omega)) (j) ht0.2.2.2.2.1.1 (by omega) (by omega)) rfl rfl v_7_112 rfl rfl (by show _ < 40; omega) rfl rfl (Nat.le_of_ble_eq_true rfl) (by omega) (by omega) ?_
    refine x_topL (v := (tY x)[j]?.getD 0) (ht0.2.2.2.2.1.2.at (by omega)) ?_
    refine w_callV (d2 := 8) (c_writeString hG (by omega) hw0 ((tY x)[j]?.getD 0) htx) hS0 rfl rfl v_7_70 rfl rfl (by decide) rfl rfl (Nat.le_of_ble_eq_true rfl) (by omega) (fun s1 M1 e1 hw1 hS1 => ?_)
    have hC1 := hC.w hS1
    have ht1 := hC1.2.2.1 i x hx
    refine x_aload_n rfl rfl rfl ?_
    refine x_aload_n rfl rfl rfl ?_
    refine x_getRi rfl rfl f_7_147 rfl (by show _ < 40; omega) rfl rfl ?_
    refine x_iload_n rfl rfl rfl ?_
    refine x_callVl (d2 := 0) (c_LL_at (len := (tV x).length) hG (lk_13 (by omega)) (j) ht1.2.2.2.2.2.1.1 (by omega) (by omega)) rfl rfl v_7_112 rfl rfl (by show _ < 40; omega) rfl rfl (Nat.le_of_ble_eq_true rfl) (by omega) (by omega) ?_
    refine x_topL (v := (tV x)[j]?.getD 0) (ht1.2.2.2.2.2.1.2.at (by omega)) ?_
    refine x_iload_n rfl rfl rfl ?_
    refine w_callV (d2 := dv) (hrec _ (hok _ (getD_mem (by omega))) s1 _ hw1 hC1) hS1 rfl rfl v_7_140 rfl rfl (by decide) rfl rfl (Nat.le_of_ble_eq_true rfl) hdv (fun s2 M2 e2 hw2 hS2 => ?_)
    have hC2 := hC.w hS2
    have ht2 := hC2.2.2.1 i x hx
    refine x_iincN (a := j) (b := 1) rfl rfl rfl rfl rfl ?_
    refine x_goto rfl rfl ?_
    exact ih (j + 1) (by omega) s2 M2 hw2 hS2
set_option maxHeartbeats 4000000 in
set_option maxRecDepth 20000 in
theorem c_writePairs (hG : Gok G) (hd : 9 ≤ d) (hw0 : WrC s0 M) (hC : Cn A M) {i : Nat} {x : Th} (hx : (aH A)[i]? = some x) (hok : ∀ v ∈ tV x, vOK A v) (hky : ∀ k ∈ tY x, isTx k ∧ ¬ k = 0) {dv dp : Nat} {rec : Int64 → WS → Option WS} (hrec : WV G A dv dp rec) (hdv : dv + 1 ≤ d) : CW G mX7_writePairs d [.ref (ga G (19, 0)), .ref (ga G (8, i)), .int (nI dp)] M (wpair rec (tY x) (tV x) s0) := by
  have hS0 : Eqn onW M M := Eqn.rf
  refine w_of hG okX7_writePairs (by decide +kernel) rfl (Nat.le_of_ble_eq_true rfl) ?_
  refine x_iconstN (b := 0) rfl rfl ?_
  refine x_istore_n rfl rfl rfl rfl ?_
  exact l_writePairs hG hd hx hrec hdv hok hky hC _ 0 (Nat.zero_add _) s0 M hw0 hS0
set_option maxHeartbeats 4000000 in
set_option maxRecDepth 20000 in
theorem c_writeObject (hG : Gok G) (hd : 10 ≤ d) (hwf : wfA A) (hw0 : WrC s0 M) (hC : Cn A M) {i : Nat} {x : Th} (hx : (aH A)[i]? = some x) (hk : tK x = 10) {dv dp : Nat} {rec : Int64 → WS → Option WS} (hrec : WV G A dv dp rec) (hdv : dv + 2 ≤ d) : CW G mX7_writeObject d [.ref (ga G (19, 0)), .ref (ga G (8, i)), .int (nI dp)] M (wobj A rec x s0) := by
  have hS0 : Eqn onW M M := Eqn.rf
  have hok := hwf.2.2.1 _ (at_mem hx)
  obtain ⟨y, hy, -, -, -⟩ := hok.2.2.2.2.1 hk
  have hC0 := hC
  have ht0 := hC0.2.2.1 i x hx
  have hil := at_lt hx
  have hi40 := hC0.n40
  have hyl := at_lt hy
  have hy12 := hC0.n12
  have htT : trv x = nI (tT x) := if_pos hk
  have hdy : dynA A x = rD y := by unfold dynA; rw [hy]
  unfold wobj
  rw [hdy]
  refine w_of hG okX7_writeObject (by decide +kernel) rfl (Nat.le_of_ble_eq_true rfl) ?_
  refine x_aload_n rfl rfl rfl ?_
  refine x_aload_n rfl rfl rfl ?_
  refine x_getIv (v := nI (tT x)) (ht0.2.1.trans htT) rfl rfl f_7_116 rfl (by show _ < 40; omega) rfl ?_
  refine w_callV (d2 := 9) (c_writeTraits hG (Nat.le_refl _) hw0 hy (hwf.1 _ (at_mem hy)) hC0.n12 (hC0.2.1 _ _ hy)) hS0 rfl rfl v_7_118 rfl rfl (by decide) rfl rfl (Nat.le_of_ble_eq_true rfl) (by omega) (fun s1 M1 e1 hw1 hS1 => ?_)
  have hC1 := hC.w hS1
  have ht1 := hC1.2.2.1 i x hx
  refine x_aload_n rfl rfl rfl ?_
  refine x_aload_n rfl rfl rfl ?_
  refine x_iload_n rfl rfl rfl ?_
  refine w_callV (d2 := (dv + 1)) (c_writeItems hG hw1 hC1 hx hok.2.1 hrec (Nat.le_refl _)) hS1 rfl rfl v_7_106 rfl rfl (by decide) rfl rfl (Nat.le_of_ble_eq_true rfl) (by omega) (fun s2 M2 e2 hw2 hS2 => ?_)
  have hC2 := hC.w hS2
  have ht2 := hC2.2.2.1 i x hx
  refine x_aload_n rfl rfl rfl ?_
  refine x_getR0 rfl rfl f_7_30 rfl (by decide) rfl rfl ?_
  refine x_aload_n rfl rfl rfl ?_
  refine x_callVi (d2 := 0) (c_chp10 (t := tT x) hG (by omega) (by omega) (rD y = true) (ht2.1.trans (by rw [hk])) (ht2.2.1.trans htT) (hC2.2.1 _ _ hy).2.1) rfl rfl v_7_121 rfl rfl (by decide) rfl rfl (Nat.le_of_ble_eq_true rfl) (by omega) (by omega) ?_
  refine x_ifB_eq rfl rfl (fun hc1 => ?_) (fun hc1 => ?_)
  · exact w_ret (if_neg hc1) hw2 hS2 rfl rfl rfl
  · rw [if_pos hc1, ← bsome (wpair rec (tY x) (tV x) s2)]
    refine x_aload_n rfl rfl rfl ?_
    refine x_aload_n rfl rfl rfl ?_
    refine x_iload_n rfl rfl rfl ?_
    refine w_callV (d2 := (d - 1)) (c_writePairs hG (by omega) hw2 hC2 hx hok.2.2.1 hok.2.2.2.1 hrec (by omega)) hS2 rfl rfl v_7_102 rfl rfl (by decide) rfl rfl (Nat.le_of_ble_eq_true rfl) (by omega) (fun s3 M3 e3 hw3 hS3 => ?_)
    have hC3 := hC.w hS3
    have ht3 := hC3.2.2.1 i x hx
    exact w_ret rfl hw3 hS3 rfl rfl rfl
end W4
