/-! what is well formed -/
def vOK (A : Ab) (v : Int64) : Prop := isV (aW A).length (aH A).length v
def trOK (x : Tr) : Prop := isTx (rN x) ∧ (rM x).length ≤ 3 ∧ (rM x).Nodup ∧ ∀ m ∈ rM x, isTx m ∧ ¬ m = 0
def thOK (A : Ab) (x : Th) : Prop := (tK x = 8 ∨ tK x = 9 ∨ tK x = 10 ∨ tK x = 12) ∧ (∀ v ∈ tL x, vOK A v) ∧ (∀ v ∈ tV x, vOK A v) ∧ (∀ k ∈ tY x, isTx k ∧ ¬ k = 0) ∧
  (tK x = 10 → ∃ y, (aT A)[tT x]? = some y ∧ (tL x).length = (rM y).length ∧ (rD y = false → tY x = []) ∧ ∀ k ∈ tY x, ¬ k ∈ rM y) ∧
  (tK x = 12 → ∀ v ∈ tL x, ∃ b, b < 256 ∧ v = 16 * lN b + 4) ∧ (¬ tK x = 8 → tD x = 0) ∧ (tK x = 8 ∨ tK x = 12 → tY x = []) ∧ (tK x = 8 → tL x = []) ∧ (tY x).Nodup
def wfA (A : Ab) : Prop := (∀ x ∈ aT A, trOK x) ∧ (aT A).Nodup ∧ (∀ x ∈ aH A, thOK A x) ∧ (∀ n ∈ aA A, isTx n ∧ ¬ n = 0) ∧ (aA A).Nodup ∧ (∀ b ∈ aR A, b < 256)
theorem drop_cons {l : List Int64} {j : Nat} (h : j < l.length) : l.drop j = (l[j]?.getD 0) :: l.drop (j + 1) := by
  rw [List.drop_eq_getElem_cons h, List.getElem?_eq_getElem h]; rfl
theorem getD_mem {l : List Int64} {j : Nat} (h : j < l.length) : l[j]?.getD 0 ∈ l := by
  rw [List.getElem?_eq_getElem h]; exact List.getElem_mem h
theorem at_lt {α : Type} {l : List α} {i : Nat} {x : α} (h : l[i]? = some x) : i < l.length := (List.getElem?_eq_some_iff.mp h).1
theorem at_mem {α : Type} {l : List α} {i : Nat} {x : α} (h : l[i]? = some x) : x ∈ l := List.mem_of_getElem? h
theorem onW_lt {r : Nat} (h : r < 19) : onW r := by unfold onW; omega
theorem LL.w {M M1 : Mm} {q q' : Ky} {l : List Int64} (h : LL M q q' l) (he : Eqn onW M M1) (h1 : q.1 < 19) (h2 : q'.1 < 19) : LL M1 q q' l := h.eqn he (onW_lt h1) (onW_lt h2)
theorem cTr.w {M M1 : Mm} {x : Tr} {t : Nat} (h : cTr x M t) (he : Eqn onW M M1) : cTr x M1 t := h.eqn he (onW_lt (by decide)) (onW_lt (by decide)) (onW_lt (by decide))
theorem cTh.w {M M1 : Mm} {x : Th} {i : Nat} (h : cTh x M i) (he : Eqn onW M M1) : cTh x M1 i := h.eqn he (fun r _ h2 => onW_lt (by omega))
theorem Cn.w {M M1 : Mm} {A : Ab} (h : Cn A M) (he : Eqn onW M M1) : Cn A M1 := h.eqn he (fun r _ h2 => onW_lt (by omega))
theorem Cn.n40 {M : Mm} {A : Ab} (h : Cn A M) : (aH A).length ≤ 40 := h.2.2.2.2.2.2.2.2.1
theorem Cn.n12 {M : Mm} {A : Ab} (h : Cn A M) : (aT A).length ≤ 12 := h.2.2.2.2.2.2.2.1
theorem Cn.nW {M : Mm} {A : Ab} (h : Cn A M) : (aW A).length ≤ 40 := h.2.2.2.2.2.2.1
section W3
variable {G : Gd} {d : Nat} {M : Mm} {s0 : WS} {A : Ab}
set_option maxHeartbeats 4000000 in
theorem l_writeBytes (hG : Gok G) (hd : 8 ≤ d) {i : Nat} (hi : i < 40) {l : List Int64} (hl8 : l.length ≤ 8) (hbs : ∀ v ∈ l, uN (sh4 v) < 256) {M9 : Mm} (hl9 : LL M9 (9, i) (10, i) l) : ∀ (n j : Nat), j + n = l.length → ∀ (s0 : WS) (M : Mm), WrC s0 M → Eqn onW M9 M → FW G mX7_writeBytes d M9 (wbs (itB (l.drop j)) s0) 14 [(0, .ref (ga G (19, 0))), (1, .ref (ga G (9, i))), (2, .int (nI j))] [] M := by
  intro n
  induction n with
  | zero =>
    intro j hj s0 M hw0 hS0
    have hl0 := hl9.w hS0 (by show 9 < 19; decide) (by show 10 < 19; decide)
    rw [List.drop_eq_nil_of_le (by omega)]
    refine x_iload_n rfl rfl rfl ?_
    refine x_aload_n rfl rfl rfl ?_
    refine x_getIv (v := nI (l.length)) hl0.1 rfl rfl f_7_101 rfl (by show _ < 40; omega) rfl ?_
    refine x_icmpN_ge (by omega) (by omega) rfl rfl (fun hc1 => ?_) (fun hc1 => absurd hc1 (by omega))
    exact w_ret rfl hw0 hS0 rfl rfl rfl
  | succ n ih =>
    intro j hj s0 M hw0 hS0
    have hl0 := hl9.w hS0 (by show 9 < 19; decide) (by show 10 < 19; decide)
    rw [drop_cons (show j < l.length by omega)]
    show FW G mX7_writeBytes d M9 ((wb (uN (sh4 (l[j]?.getD 0))) s0).bind (wbs (itB (l.drop (j + 1))))) 14 _ [] M
    refine x_iload_n rfl rfl rfl ?_
    refine x_aload_n rfl rfl rfl ?_
    refine x_getIv (v := nI (l.length)) hl0.1 rfl rfl f_7_101 rfl (by show _ < 40; omega) rfl ?_
    refine x_icmpN_ge (by omega) (by omega) rfl rfl (fun hc1 => absurd hc1 (by omega)) (fun hc1 => ?_)
    refine x_aload_n rfl rfl rfl ?_
    refine x_aload_n rfl rfl rfl ?_
    refine x_iload_n rfl rfl rfl ?_
    refine x_callVl (d2 := 0) (c_LL_at (len := l.length) hG (lk_9 (by omega)) (j) hl0.1 (by omega) (by omega)) rfl rfl v_7_112 rfl rfl (by show _ < 40; omega) rfl rfl (Nat.le_of_ble_eq_true rfl) (by omega) (by omega) ?_
    refine x_topL (v := l[j]?.getD 0) (hl0.2.at (by omega)) ?_
    refine x_callSl (d2 := 0) (c_aboveKind hG (l[j]?.getD 0)) rfl rfl s_7_45 rfl rfl (Nat.le_of_ble_eq_true rfl) (by omega) (by omega) ?_
    refine x_topL (v := sh4 (l[j]?.getD 0)) rfl ?_
    refine x_l2i rfl rfl ?_
    refine x_topI (v := nI (uN (sh4 (l[j]?.getD 0)))) (l2i_small (by have := hbs _ (getD_mem (show j < l.length by omega)); omega)) ?_
    refine w_callV (d2 := 6) (c_writeByte hG (by omega) hw0 (uN (sh4 (l[j]?.getD 0)))) hS0 rfl rfl v_7_53 rfl rfl (by decide) rfl rfl (Nat.le_of_ble_eq_true rfl) (by omega) (fun s1 M1 e1 hw1 hS1 => ?_)
    refine x_iincN (a := j) (b := 1) rfl rfl rfl rfl rfl ?_
    refine x_goto rfl rfl ?_
    exact ih (j + 1) (by omega) s1 M1 hw1 hS1
set_option maxHeartbeats 4000000 in
set_option maxRecDepth 20000 in
theorem c_writeBytes (hG : Gok G) (hd : 8 ≤ d) (hw0 : WrC s0 M) {i : Nat} (hi : i < 40) {l : List Int64} (hl8 : l.length ≤ 8) (hbs : ∀ v ∈ l, uN (sh4 v) < 256) (hl : LL M (9, i) (10, i) l) : CW G mX7_writeBytes d [.ref (ga G (19, 0)), .ref (ga G (9, i))] M (wbytes l s0) := by
  have hS0 : Eqn onW M M := Eqn.rf
  have hl0 := hl
  unfold wbytes
  refine w_of hG okX7_writeBytes (by decide +kernel) rfl (Nat.le_of_ble_eq_true rfl) ?_
  refine x_aload_n rfl rfl rfl ?_
  refine x_iconstN (b := 2) rfl rfl ?_
  refine x_aload_n rfl rfl rfl ?_
  refine x_getIv (v := nI (l.length)) hl0.1 rfl rfl f_7_101 rfl (by show _ < 40; omega) rfl ?_
  refine x_imulN (a := 2) (b := l.length) rfl rfl ?_
  refine x_iconstN (b := 1) rfl rfl ?_
  refine x_iaddN (a := 2 * l.length) (b := 1) rfl rfl ?_
  refine w_callV (d2 := 7) (c_writeNumber hG (by omega) hw0 (n := (2 * l.length) + 1) (by omega)) hS0 rfl rfl v_7_57 rfl rfl (by decide) rfl rfl (Nat.le_of_ble_eq_true rfl) (by omega) (fun s1 M1 e1 hw1 hS1 => ?_)
  refine x_iconstN (b := 0) rfl rfl ?_
  refine x_istore_n rfl rfl rfl rfl ?_
  exact l_writeBytes hG hd hi hl8 hbs hl _ 0 (Nat.zero_add _) s1 M1 hw1 hS1
set_option maxHeartbeats 4000000 in
theorem l_writeTraits (hG : Gok G) (hd : 9 ≤ d) {t : Nat} {x : Tr} (hx : (aT A)[t]? = some x) (hxo : trOK x) (hn12 : (aT A).length ≤ 12) {M9 : Mm} (htr : cTr x M9 t) : ∀ (n j : Nat), j + n = (rM x).length → ∀ (s0 : WS) (M : Mm), WrC s0 M → Eqn onW M9 M → FW G mX7_writeTraits d M9 (wstrs ((rM x).drop j) s0) 85 [(0, .ref (ga G (19, 0))), (1, .int (nI t)), (2, .int ((-1))), (3, .ref (ga G (5, t))), (4, .int (nI j))] [] M := by
  intro n
  have hlt := at_lt hx
  have hl3 := hxo.2.1
  induction n with
  | zero =>
    intro j hj s0 M hw0 hS0
    have htr0 := htr.w hS0
    rw [List.drop_eq_nil_of_le (by omega)]
    refine x_iload rfl rfl rfl ?_
    refine x_aload_n rfl rfl rfl ?_
    refine x_getRi rfl rfl f_7_128 rfl (by show _ < 13; omega) rfl rfl ?_
    refine x_getIv (v := nI ((rM x).length)) htr0.2.2.1.1 rfl rfl f_7_101 rfl (by show _ < 13; omega) rfl ?_
    refine x_icmpN_ge (by omega) (by omega) rfl rfl (fun hc1 => ?_) (fun hc1 => absurd hc1 (by omega))
    exact w_ret rfl hw0 hS0 rfl rfl rfl
  | succ n ih =>
    intro j hj s0 M hw0 hS0
    have htr0 := htr.w hS0
    rw [drop_cons (show j < (rM x).length by omega)]
    show FW G mX7_writeTraits d M9 ((wstr ((rM x)[j]?.getD 0) s0).bind (wstrs ((rM x).drop (j + 1)))) 85 _ [] M
    have htx := (hxo.2.2.2 _ (getD_mem (show j < (rM x).length by omega))).1
    refine x_iload rfl rfl rfl ?_
    refine x_aload_n rfl rfl rfl ?_
    refine x_getRi rfl rfl f_7_128 rfl (by show _ < 13; omega) rfl rfl ?_
    refine x_getIv (v := nI ((rM x).length)) htr0.2.2.1.1 rfl rfl f_7_101 rfl (by show _ < 13; omega) rfl ?_
    refine x_icmpN_ge (by omega) (by omega) rfl rfl (fun hc1 => absurd hc1 (by omega)) (fun hc1 => ?_)
    refine x_aload_n rfl rfl rfl ?_
    refine x_aload_n rfl rfl rfl ?_
    refine x_getRi rfl rfl f_7_128 rfl (by show _ < 13; omega) rfl rfl ?_
    refine x_iload rfl rfl rfl ?_
    refine x_callVl (d2 := 0) (c_LL_at (len := (rM x).length) hG (lk_6 (by omega)) (j) htr0.2.2.1.1 (by omega) (by omega)) rfl rfl v_7_112 rfl rfl (by show _ < 13; omega) rfl rfl (Nat.le_of_ble_eq_true rfl) (by omega) (by omega) ?_
    refine x_topL (v := (rM x)[j]?.getD 0) (htr0.2.2.1.2.at (by omega)) ?_
    refine w_callV (d2 := 8) (c_writeString hG (by omega) hw0 ((rM x)[j]?.getD 0) htx) hS0 rfl rfl v_7_70 rfl rfl (by decide) rfl rfl (Nat.le_of_ble_eq_true rfl) (by omega) (fun s1 M1 e1 hw1 hS1 => ?_)
    have htr1 := htr.w hS1
    refine x_iincN (a := j) (b := 1) rfl rfl rfl rfl rfl ?_
    refine x_goto rfl rfl ?_
    exact ih (j + 1) (by omega) s1 M1 hw1 hS1
set_option maxHeartbeats 4000000 in
set_option maxRecDepth 20000 in
theorem c_writeTraitsK (hG : Gok G) (hd : 9 ≤ d) (hw0 : WrC s0 M) {t p : Nat} (ht : t < 12) (hp : lfx (s0.2.2.2.map lN) (lN t) = some p) : CW G mX7_writeTraits d [.ref (ga G (19, 0)), .int (nI t)] M ((wbs (numB (4 * p + 1)) s0).bind some) := by
  have hS0 : Eqn onW M M := Eqn.rf
  have hb := hw0.b24
  have hpl := lfx_lt hp
  rw [List.length_map] at hpl
  refine w_of hG okX7_writeTraits (by decide +kernel) rfl (Nat.le_of_ble_eq_true rfl) ?_
  refine x_aload_n rfl rfl rfl ?_
  refine x_getR0 rfl rfl f_7_23 rfl (by decide) rfl rfl ?_
  refine x_iload_n rfl rfl rfl ?_
  refine x_i2lN (a := t) (by omega) rfl rfl ?_
  refine x_callVi (d2 := 0) (c_LL_placeOf (len := s0.2.2.2.length) hG (lk_24 (by decide)) (lN (t)) hw0.l24 (by omega)) rfl rfl v_7_81 rfl rfl (by decide) rfl rfl (Nat.le_of_ble_eq_true rfl) (by omega) (by omega) ?_
  refine x_topI (v := nI p) (by rw [hw0.x24, hp]; rfl) ?_
  refine x_istore_n rfl rfl rfl rfl ?_
  refine x_iload_n rfl rfl rfl ?_
  refine x_iconst (v := -1) rfl rfl (by decide +kernel) ?_
  refine x_icmp_eq rfl rfl (fun hc1 => absurd hc1 (nI_m1 (by omega))) (fun hc1 => ?_)
  refine x_aload_n rfl rfl rfl ?_
  refine x_iconstN (b := 4) rfl rfl ?_
  refine x_iload_n rfl rfl rfl ?_
  refine x_imulN (a := 4) (b := p) rfl rfl ?_
  refine x_iconstN (b := 1) rfl rfl ?_
  refine x_iaddN (a := 4 * p) (b := 1) rfl rfl ?_
  refine w_callV (d2 := 7) (c_writeNumber hG (by omega) hw0 (n := (4 * p) + 1) (by omega)) hS0 rfl rfl v_7_57 rfl rfl (by decide) rfl rfl (Nat.le_of_ble_eq_true rfl) (by omega) (fun s1 M1 e1 hw1 hS1 => ?_)
  exact w_ret rfl hw1 hS1 rfl rfl rfl
set_option maxHeartbeats 4000000 in
set_option maxRecDepth 20000 in
theorem c_writeTraitsD (hG : Gok G) (hd : 9 ≤ d) (hw0 : WrC s0 M) {t : Nat} {x : Tr} (hx : (aT A)[t]? = some x) (hxo : trOK x) (hn12 : (aT A).length ≤ 12) (htr : cTr x M t) (hp : lfx (s0.2.2.2.map lN) (lN t) = none) (hdy : rD x = true) : CW G mX7_writeTraits d [.ref (ga G (19, 0)), .int (nI t)] M ((wbs (numB (16 * (rM x).length + 8 + 3)) (addR t s0)).bind fun s1 => (wstr (rN x) s1).bind (wstrs (rM x))) := by
  have hS0 : Eqn onW M M := Eqn.rf
  have htr0 := htr
  have hlt := at_lt hx
  have hlt12 : t < 12 := by omega
  have hl3 := hxo.2.1
  have hb := hw0.b24
  have hlen : s0.2.2.2.length < 12 := by have := (hw0.pR hlt12 hp).b24; simp [addR] at this; omega
  refine w_of hG okX7_writeTraits (by decide +kernel) rfl (Nat.le_of_ble_eq_true rfl) ?_
  refine x_aload_n rfl rfl rfl ?_
  refine x_getR0 rfl rfl f_7_23 rfl (by decide) rfl rfl ?_
  refine x_iload_n rfl rfl rfl ?_
  refine x_i2lN (a := t) (by omega) rfl rfl ?_
  refine x_callVi (d2 := 0) (c_LL_placeOf (len := s0.2.2.2.length) hG (lk_24 (by decide)) (lN (t)) hw0.l24 (by omega)) rfl rfl v_7_81 rfl rfl (by decide) rfl rfl (Nat.le_of_ble_eq_true rfl) (by omega) (by omega) ?_
  refine x_topI (v := -1) (by rw [hw0.x24, hp]; rfl) ?_
  refine x_istore_n rfl rfl rfl rfl ?_
  refine x_iload_n rfl rfl rfl ?_
  refine x_iconst (v := -1) rfl rfl (by decide +kernel) ?_
  refine x_icmp_eq rfl rfl (fun hc1 => ?_) (fun hc1 => absurd rfl hc1)
  refine x_aload_n rfl rfl rfl ?_
  refine x_getR0 rfl rfl f_7_23 rfl (by decide) rfl rfl ?_
  refine x_iload_n rfl rfl rfl ?_
  refine x_i2lN (a := t) (by omega) rfl rfl ?_
  refine x_callVv (d2 := 0) (c_LL_add (len := s0.2.2.2.length) hG (lk_24 (by decide)) (lN (t)) hw0.l24 hlen) rfl rfl v_7_87 rfl rfl (by decide) rfl rfl (Nat.le_of_ble_eq_true rfl) (by omega) (by omega) ?_
  have hw1 := hw0.pR hlt12 hp
  have hS1 : Eqn onW M (ui (ul M (25, 0) s0.2.2.2.length (lN (t))) (24, 0) 1 (nI (s0.2.2.2.length + 1))) := (hS0.ul (by unfold onW; omega)).ui (by unfold onW; omega)
  have htr1 := htr.w hS1
  refine x_aload_n rfl rfl rfl ?_
  refine x_getR0 rfl rfl f_7_30 rfl (by decide) rfl rfl ?_
  refine x_getR0 rfl rfl f_7_125 rfl (by decide) rfl rfl ?_
  refine x_iload_n rfl rfl rfl ?_
  refine x_aaldi (a := t) rfl rfl rfl (by decide) (by decide) (by omega) (by decide) rfl ?_
  refine x_astore_n rfl rfl rfl rfl ?_
  refine x_aload_n rfl rfl rfl ?_
  refine x_bipush (v := nI 16) rfl rfl (by decide +kernel) ?_
  refine x_aload_n rfl rfl rfl ?_
  refine x_getRi rfl rfl f_7_128 rfl (by show _ < 13; omega) rfl rfl ?_
  refine x_getIv (v := nI ((rM x).length)) htr1.2.2.1.1 rfl rfl f_7_101 rfl (by show _ < 13; omega) rfl ?_
  refine x_imulN (a := 16) (b := (rM x).length) rfl rfl ?_
  refine x_aload_n rfl rfl rfl ?_
  refine x_getZv (v := bI (rD x = true)) htr1.2.1 rfl rfl f_7_133 rfl (by show _ < 13; omega) rfl ?_
  refine x_ifB_eq rfl rfl (fun hc2 => absurd hdy hc2) (fun hc2 => ?_)
  refine x_bipush (v := nI 8) rfl rfl (by decide +kernel) ?_
  refine x_goto rfl rfl ?_
  refine x_iaddN (a := 16 * ((rM x).length)) (b := 8) rfl rfl ?_
  refine x_iconstN (b := 3) rfl rfl ?_
  refine x_iaddN (a := (16 * ((rM x).length)) + 8) (b := 3) rfl rfl ?_
  refine w_callV (d2 := 7) (c_writeNumber hG (by omega) hw1 (n := ((16 * ((rM x).length)) + 8) + 3) (by omega)) hS1 rfl rfl v_7_57 rfl rfl (by decide) rfl rfl (Nat.le_of_ble_eq_true rfl) (by omega) (fun s2 M2 e2 hw2 hS2 => ?_)
  have htr2 := htr.w hS2
  refine x_aload_n rfl rfl rfl ?_
  refine x_aload_n rfl rfl rfl ?_
  refine x_getLv (v := rN x) htr2.1 rfl rfl f_7_137 rfl (by show _ < 13; omega) rfl ?_
  refine w_callV (d2 := 8) (c_writeString hG (by omega) hw2 (rN x) hxo.1) hS2 rfl rfl v_7_70 rfl rfl (by decide) rfl rfl (Nat.le_of_ble_eq_true rfl) (by omega) (fun s3 M3 e3 hw3 hS3 => ?_)
  have htr3 := htr.w hS3
  refine x_iconstN (b := 0) rfl rfl ?_
  refine x_istore rfl rfl rfl rfl ?_
  exact l_writeTraits hG hd hx hxo hn12 htr _ 0 (Nat.zero_add _) s3 M3 hw3 hS3
set_option maxHeartbeats 4000000 in
set_option maxRecDepth 20000 in
theorem c_writeTraitsS (hG : Gok G) (hd : 9 ≤ d) (hw0 : WrC s0 M) {t : Nat} {x : Tr} (hx : (aT A)[t]? = some x) (hxo : trOK x) (hn12 : (aT A).length ≤ 12) (htr : cTr x M t) (hp : lfx (s0.2.2.2.map lN) (lN t) = none) (hdy : ¬ rD x = true) : CW G mX7_writeTraits d [.ref (ga G (19, 0)), .int (nI t)] M ((wbs (numB (16 * (rM x).length + 0 + 3)) (addR t s0)).bind fun s1 => (wstr (rN x) s1).bind (wstrs (rM x))) := by
  have hS0 : Eqn onW M M := Eqn.rf
  have htr0 := htr
  have hlt := at_lt hx
  have hlt12 : t < 12 := by omega
  have hl3 := hxo.2.1
  have hb := hw0.b24
  have hlen : s0.2.2.2.length < 12 := by have := (hw0.pR hlt12 hp).b24; simp [addR] at this; omega
  refine w_of hG okX7_writeTraits (by decide +kernel) rfl (Nat.le_of_ble_eq_true rfl) ?_
  refine x_aload_n rfl rfl rfl ?_
  refine x_getR0 rfl rfl f_7_23 rfl (by decide) rfl rfl ?_
  refine x_iload_n rfl rfl rfl ?_
  refine x_i2lN (a := t) (by omega) rfl rfl ?_
  refine x_callVi (d2 := 0) (c_LL_placeOf (len := s0.2.2.2.length) hG (lk_24 (by decide)) (lN (t)) hw0.l24 (by omega)) rfl rfl v_7_81 rfl rfl (by decide) rfl rfl (Nat.le_of_ble_eq_true rfl) (by omega) (by omega) ?_
  refine x_topI (v := -1) (by rw [hw0.x24, hp]; rfl) ?_
  refine x_istore_n rfl rfl rfl rfl ?_
  refine x_iload_n rfl rfl rfl ?_
  refine x_iconst (v := -1) rfl rfl (by decide +kernel) ?_
  refine x_icmp_eq rfl rfl (fun hc1 => ?_) (fun hc1 => absurd rfl hc1)
  refine x_aload_n rfl rfl rfl ?_
  refine x_getR0 rfl rfl f_7_23 rfl (by decide) rfl rfl ?_
  refine x_iload_n rfl rfl rfl ?_
  refine x_i2lN (a := t) (by omega) rfl rfl ?_
  refine x_callVv (d2 := 0) (c_LL_add (len := s0.2.2.2.length) hG (lk_24 (by decide)) (lN (t)) hw0.l24 hlen) rfl rfl v_7_87 rfl rfl (by decide) rfl rfl (Nat.le_of_ble_eq_true rfl) (by omega) (by omega) ?_
  have hw1 := hw0.pR hlt12 hp
  have hS1 : Eqn onW M (ui (ul M (25, 0) s0.2.2.2.length (lN (t))) (24, 0) 1 (nI (s0.2.2.2.length + 1))) := (hS0.ul (by unfold onW; omega)).ui (by unfold onW; omega)
  have htr1 := htr.w hS1
  refine x_aload_n rfl rfl rfl ?_
  refine x_getR0 rfl rfl f_7_30 rfl (by decide) rfl rfl ?_
  refine x_getR0 rfl rfl f_7_125 rfl (by decide) rfl rfl ?_
  refine x_iload_n rfl rfl rfl ?_
  refine x_aaldi (a := t) rfl rfl rfl (by decide) (by decide) (by omega) (by decide) rfl ?_
  refine x_astore_n rfl rfl rfl rfl ?_
  refine x_aload_n rfl rfl rfl ?_
  refine x_bipush (v := nI 16) rfl rfl (by decide +kernel) ?_
  refine x_aload_n rfl rfl rfl ?_
  refine x_getRi rfl rfl f_7_128 rfl (by show _ < 13; omega) rfl rfl ?_
  refine x_getIv (v := nI ((rM x).length)) htr1.2.2.1.1 rfl rfl f_7_101 rfl (by show _ < 13; omega) rfl ?_
  refine x_imulN (a := 16) (b := (rM x).length) rfl rfl ?_
  refine x_aload_n rfl rfl rfl ?_
  refine x_getZv (v := bI (rD x = true)) htr1.2.1 rfl rfl f_7_133 rfl (by show _ < 13; omega) rfl ?_
  refine x_ifB_eq rfl rfl (fun hc2 => ?_) (fun hc2 => absurd hc2 hdy)
  refine x_iconstN (b := 0) rfl rfl ?_
  refine x_iaddN (a := 16 * ((rM x).length)) (b := 0) rfl rfl ?_
  refine x_iconstN (b := 3) rfl rfl ?_
  refine x_iaddN (a := (16 * ((rM x).length)) + 0) (b := 3) rfl rfl ?_
  refine w_callV (d2 := 7) (c_writeNumber hG (by omega) hw1 (n := ((16 * ((rM x).length)) + 0) + 3) (by omega)) hS1 rfl rfl v_7_57 rfl rfl (by decide) rfl rfl (Nat.le_of_ble_eq_true rfl) (by omega) (fun s2 M2 e2 hw2 hS2 => ?_)
  have htr2 := htr.w hS2
  refine x_aload_n rfl rfl rfl ?_
  refine x_aload_n rfl rfl rfl ?_
  refine x_getLv (v := rN x) htr2.1 rfl rfl f_7_137 rfl (by show _ < 13; omega) rfl ?_
  refine w_callV (d2 := 8) (c_writeString hG (by omega) hw2 (rN x) hxo.1) hS2 rfl rfl v_7_70 rfl rfl (by decide) rfl rfl (Nat.le_of_ble_eq_true rfl) (by omega) (fun s3 M3 e3 hw3 hS3 => ?_)
  have htr3 := htr.w hS3
  refine x_iconstN (b := 0) rfl rfl ?_
  refine x_istore rfl rfl rfl rfl ?_
  exact l_writeTraits hG hd hx hxo hn12 htr _ 0 (Nat.zero_add _) s3 M3 hw3 hS3
theorem c_writeTraits (hG : Gok G) (hd : 9 ≤ d) (hw0 : WrC s0 M) {t : Nat} {x : Tr} (hx : (aT A)[t]? = some x) (hxo : trOK x) (hn12 : (aT A).length ≤ 12) (htr : cTr x M t) : CW G mX7_writeTraits d [.ref (ga G (19, 0)), .int (nI t)] M (wtr A t s0) := by
  have hlt := at_lt hx
  unfold wtr
  cases hp : lfx (s0.2.2.2.map lN) (lN t) with
  | some p => have hz := c_writeTraitsK hG hd hw0 (t := t) (by omega) hp; rw [bsome] at hz; exact hz
  | none =>
    dsimp only
    rw [hx]
    dsimp only
    by_cases hdy : rD x = true
    · rw [if_pos hdy]; exact c_writeTraitsD hG hd hw0 hx hxo hn12 htr hp hdy
    · rw [if_neg hdy]; exact c_writeTraitsS hG hd hw0 hx hxo hn12 htr hp hdy
end W3
