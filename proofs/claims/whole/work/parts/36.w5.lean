theorem wth1_K {A : Ab} {rec : Option (Int64 → WS → Option WS)} {x : Th} {i p : Nat} {s : WS} (h : lfx (s.2.2.1.map lN) (lN i) = some p) : wth1 A rec x i s = (wbs (numB (2 * p)) s).bind some := by
  unfold wth1; rw [h, bsome]
theorem wth1_X {A : Ab} {x : Th} {i : Nat} {s : WS} (h : lfx (s.2.2.1.map lN) (lN i) = none) : wth1 A none x i s = none := by
  unfold wth1; rw [h]
theorem wth1_8 {A : Ab} {rec : Int64 → WS → Option WS} {x : Th} {i : Nat} {s : WS} (h : lfx (s.2.2.1.map lN) (lN i) = none) (hk : tK x = 8) : wth1 A (some rec) x i s = (wbs (numB 1) (addH i s)).bind fun s2 => (wbs (eightB (tD x)) s2).bind some := by
  unfold wth1 win wdate; rw [h]; simp only [hk, if_true]; congr; funext s2; rw [bsome]
theorem wth1_12 {A : Ab} {rec : Int64 → WS → Option WS} {x : Th} {i : Nat} {s : WS} (h : lfx (s.2.2.1.map lN) (lN i) = none) (hk : tK x = 12) : wth1 A (some rec) x i s = (wbytes (tL x) (addH i s)).bind some := by
  unfold wth1 win; rw [h, bsome]; simp [hk]
theorem wth1_9 {A : Ab} {rec : Int64 → WS → Option WS} {x : Th} {i : Nat} {s : WS} (h : lfx (s.2.2.1.map lN) (lN i) = none) (hk : tK x = 9) : wth1 A (some rec) x i s = (wbs (numB (2 * (tL x).length + 1)) (addH i s)).bind fun s2 => (wpair rec (tY x) (tV x) s2).bind fun s3 => (witem rec (tL x) s3).bind some := by
  unfold wth1 win warr; rw [h]; simp [hk, bsome]
theorem wth1_10 {A : Ab} {rec : Int64 → WS → Option WS} {x : Th} {i : Nat} {s : WS} (h : lfx (s.2.2.1.map lN) (lN i) = none) (hk : tK x = 10) : wth1 A (some rec) x i s = (wobj A rec x (addH i s)).bind some := by
  unfold wth1 win; rw [h, bsome]; simp [hk]
theorem wv1_4 {A : Ab} {v : Int64} {s : WS} (h : uN v % 16 = 4) : wv1 A v s = (wbs (numB (uN (sh4 v) % 536870912)) s).bind some := by unfold wv1; rw [bsome, if_pos h]
theorem wv1_5 {A : Ab} {v : Int64} {s : WS} (h : uN v % 16 = 5) : wv1 A v s = (wbs (eightB ((aW A)[uN (sh4 v)]?.getD 0)) s).bind some := by unfold wv1; rw [bsome, if_neg (by omega), if_pos h]
theorem wv1_6 {A : Ab} {v : Int64} {s : WS} (h : uN v % 16 = 6) : wv1 A v s = (wstr (sh4 v) s).bind some := by unfold wv1; rw [bsome, if_neg (by omega), if_neg (by omega), if_pos h]
theorem wv1_O {A : Ab} {v : Int64} {s : WS} (h : uN v % 16 ≤ 3) : wv1 A v s = some s := by unfold wv1; rw [if_neg (by omega), if_neg (by omega), if_neg (by omega)]
section XW2
variable {G : Gd} {y : Mt} {d : Nat} {pc n t : Nat} {lv lv' : List (Nat × Value)} {st : List Value} {M M0 : Mm} {r : Option WS}
theorem w_throw {ik ic n2 n3 n4 t2 t3 t4 : Nat} (hr : r = none) (hS : Eqn onW M0 M) (hi : tget (yT y) pc = some (.new ik, n, t)) (hn : pc + 3 = n) (hi2 : tget (yT y) n = some (.dup, n2, t2)) (hn2 : pc + 4 = n2) (hi3 : tget (yT y) n2 = some (.invokespecial ic, n3, t3)) (hn3 : pc + 7 = n3) (hi4 : tget (yT y) n3 = some (.athrow, n4, t4)) (hn4 : pc + 8 = n4)
    (hl : ThL (yC y) ik ic ISE) (hW : (st.map fun v => v.category).sum ≤ 8) (hd : 6 ≤ d) : FW G y d M0 r pc lv st M := by
  subst hr
  exact fr_e (x_throw hi hn hi2 hn2 hi3 hn3 hi4 hn4 hl hW hd (Nat.le_refl 1)) ⟨hS, fun s' h => by cases h⟩
end XW2
theorem by16 {b : Nat} (h : b < 256) : uN (sh4 (16 * lN b + 4)) = b := by
  have e : ∀ x : Fin 256, uN (sh4 (16 * lN x.val + 4)) = x.val := by decide +kernel
  exact e ⟨b, h⟩
section W5
variable {G : Gd} {d : Nat} {M : Mm} {s0 : WS} {A : Ab}
set_option maxHeartbeats 4000000 in
set_option maxRecDepth 20000 in
theorem c_writeThingK (hG : Gok G) (hd : 11 ≤ d) (hwf : wfA A) (hw0 : WrC s0 M) (hC : Cn A M) {i : Nat} {x : Th} (hx : (aH A)[i]? = some x) {rec : Option (Int64 → WS → Option WS)} {dp p : Nat} (hp0 : lfx (s0.2.2.1.map lN) (lN i) = some p) : CW G mX7_writeThing d [.ref (ga G (19, 0)), .int (nI i), .int (nI dp)] M ((wb (tK x) s0).bind (wth1 A rec x i)) := by
  have hS0 : Eqn onW M M := Eqn.rf
  have hok := hwf.2.2.1 _ (at_mem hx)
  have hC0 := hC
  have ht0 := hC0.2.2.1 i x hx
  have hil := at_lt hx
  have hi40 := hC0.n40
  have hb8 := ht0.2.2.2.2.2.2.1
  have hlt12 : i < 40 := by omega
  have hk16 := ht0.2.2.2.2.2.2.2.2.2
  refine w_of hG okX7_writeThing (by decide +kernel) rfl (Nat.le_of_ble_eq_true rfl) ?_
  refine x_aload_n rfl rfl rfl ?_
  refine x_getR0 rfl rfl f_7_30 rfl (by decide) rfl rfl ?_
  refine x_getR0 rfl rfl f_7_73 rfl (by decide) rfl rfl ?_
  refine x_iload_n rfl rfl rfl ?_
  refine x_aaldi (a := i) rfl rfl rfl (by decide) (by decide) (by omega) (by decide) rfl ?_
  refine x_astore_n rfl rfl rfl rfl ?_
  refine x_aload_n rfl rfl rfl ?_
  refine x_aload_n rfl rfl rfl ?_
  refine x_getIv (v := nI (tK x)) ht0.1 rfl rfl f_7_76 rfl (by show _ < 40; omega) rfl ?_
  refine w_callV (d2 := 6) (c_writeByte hG (by omega) hw0 (tK x)) hS0 rfl rfl v_7_53 rfl rfl (by decide) rfl rfl (Nat.le_of_ble_eq_true rfl) (by omega) (fun s1 M1 e1 hw1 hS1 => ?_)
  have hC1 := hC.w hS1
  have ht1 := hC1.2.2.1 i x hx
  have hp : lfx (s1.2.2.1.map lN) (lN i) = some p := by rw [(wb_some e1).1]; exact hp0
  rw [wth1_K hp]
  have hb22 := hw1.b22
  have hpl := lfx_lt hp
  rw [List.length_map] at hpl
  refine x_aload_n rfl rfl rfl ?_
  refine x_getR0 rfl rfl f_7_20 rfl (by decide) rfl rfl ?_
  refine x_iload_n rfl rfl rfl ?_
  refine x_i2lN (a := i) (by omega) rfl rfl ?_
  refine x_callVi (d2 := 0) (c_LL_placeOf (len := s1.2.2.1.length) hG (lk_22 (by decide)) (lN (i)) hw1.l22 (by omega)) rfl rfl v_7_81 rfl rfl (by decide) rfl rfl (Nat.le_of_ble_eq_true rfl) (by omega) (by omega) ?_
  refine x_topI (v := nI p) (by rw [hw1.x22, hp]; rfl) ?_
  refine x_istore rfl rfl rfl rfl ?_
  refine x_iload rfl rfl rfl ?_
  refine x_iconst (v := -1) rfl rfl (by decide +kernel) ?_
  refine x_icmp_eq rfl rfl (fun hc1 => absurd hc1 (nI_m1 (by omega))) (fun hc1 => ?_)
  refine x_aload_n rfl rfl rfl ?_
  refine x_iconstN (b := 2) rfl rfl ?_
  refine x_iload rfl rfl rfl ?_
  refine x_imulN (a := 2) (b := p) rfl rfl ?_
  refine w_callV (d2 := 7) (c_writeNumber hG (by omega) hw1 (n := 2 * p) (by omega)) hS1 rfl rfl v_7_57 rfl rfl (by decide) rfl rfl (Nat.le_of_ble_eq_true rfl) (by omega) (fun s2 M2 e2 hw2 hS2 => ?_)
  have hC2 := hC.w hS2
  have ht2 := hC2.2.2.1 i x hx
  exact w_ret rfl hw2 hS2 rfl rfl rfl
set_option maxHeartbeats 4000000 in
set_option maxRecDepth 20000 in
theorem c_writeThingX (hG : Gok G) (hd : 11 ≤ d) (hwf : wfA A) (hw0 : WrC s0 M) (hC : Cn A M) {i : Nat} {x : Th} (hx : (aH A)[i]? = some x) (hp0 : lfx (s0.2.2.1.map lN) (lN i) = none) : CW G mX7_writeThing d [.ref (ga G (19, 0)), .int (nI i), .int (nI 12)] M ((wb (tK x) s0).bind (wth1 A none x i)) := by
  have hS0 : Eqn onW M M := Eqn.rf
  have hok := hwf.2.2.1 _ (at_mem hx)
  have hC0 := hC
  have ht0 := hC0.2.2.1 i x hx
  have hil := at_lt hx
  have hi40 := hC0.n40
  have hb8 := ht0.2.2.2.2.2.2.1
  have hlt12 : i < 40 := by omega
  have hk16 := ht0.2.2.2.2.2.2.2.2.2
  refine w_of hG okX7_writeThing (by decide +kernel) rfl (Nat.le_of_ble_eq_true rfl) ?_
  refine x_aload_n rfl rfl rfl ?_
  refine x_getR0 rfl rfl f_7_30 rfl (by decide) rfl rfl ?_
  refine x_getR0 rfl rfl f_7_73 rfl (by decide) rfl rfl ?_
  refine x_iload_n rfl rfl rfl ?_
  refine x_aaldi (a := i) rfl rfl rfl (by decide) (by decide) (by omega) (by decide) rfl ?_
  refine x_astore_n rfl rfl rfl rfl ?_
  refine x_aload_n rfl rfl rfl ?_
  refine x_aload_n rfl rfl rfl ?_
  refine x_getIv (v := nI (tK x)) ht0.1 rfl rfl f_7_76 rfl (by show _ < 40; omega) rfl ?_
  refine w_callV (d2 := 6) (c_writeByte hG (by omega) hw0 (tK x)) hS0 rfl rfl v_7_53 rfl rfl (by decide) rfl rfl (Nat.le_of_ble_eq_true rfl) (by omega) (fun s1 M1 e1 hw1 hS1 => ?_)
  have hC1 := hC.w hS1
  have ht1 := hC1.2.2.1 i x hx
  have hp : lfx (s1.2.2.1.map lN) (lN i) = none := by rw [(wb_some e1).1]; exact hp0
  rw [wth1_X hp]
  have hb22 := hw1.b22
  refine x_aload_n rfl rfl rfl ?_
  refine x_getR0 rfl rfl f_7_20 rfl (by decide) rfl rfl ?_
  refine x_iload_n rfl rfl rfl ?_
  refine x_i2lN (a := i) (by omega) rfl rfl ?_
  refine x_callVi (d2 := 0) (c_LL_placeOf (len := s1.2.2.1.length) hG (lk_22 (by decide)) (lN (i)) hw1.l22 (by omega)) rfl rfl v_7_81 rfl rfl (by decide) rfl rfl (Nat.le_of_ble_eq_true rfl) (by omega) (by omega) ?_
  refine x_topI (v := -1) (by rw [hw1.x22, hp]; rfl) ?_
  refine x_istore rfl rfl rfl rfl ?_
  refine x_iload rfl rfl rfl ?_
  refine x_iconst (v := -1) rfl rfl (by decide +kernel) ?_
  refine x_icmp_eq rfl rfl (fun hc1 => ?_) (fun hc1 => absurd rfl hc1)
  refine x_iload_n rfl rfl rfl ?_
  refine x_bipush (v := nI 12) rfl rfl (by decide +kernel) ?_
  refine x_icmpN_ne (by omega) (by omega) rfl rfl (fun hc2 => absurd hc2 (by omega)) (fun hc2 => ?_)
  exact w_throw rfl hS1 rfl rfl rfl rfl rfl rfl rfl rfl th_7_84_86 (Nat.le_of_ble_eq_true rfl) (by omega)
set_option maxHeartbeats 4000000 in
set_option maxRecDepth 20000 in
theorem c_writeThing8 (hG : Gok G) (hd : 11 ≤ d) (hwf : wfA A) (hw0 : WrC s0 M) (hC : Cn A M) {i : Nat} {x : Th} (hx : (aH A)[i]? = some x) (hk : tK x = 8) {dv dp : Nat} {rec : Int64 → WS → Option WS} (hrec : WV G A dv (dp + 1) rec) (hdv : dv + 3 ≤ d) (hdp : dp < 12) (hp0 : lfx (s0.2.2.1.map lN) (lN i) = none) : CW G mX7_writeThing d [.ref (ga G (19, 0)), .int (nI i), .int (nI dp)] M ((wb (tK x) s0).bind (wth1 A (some rec) x i)) := by
  have hS0 : Eqn onW M M := Eqn.rf
  have hok := hwf.2.2.1 _ (at_mem hx)
  have hC0 := hC
  have ht0 := hC0.2.2.1 i x hx
  have hil := at_lt hx
  have hi40 := hC0.n40
  have hb8 := ht0.2.2.2.2.2.2.1
  have hlt12 : i < 40 := by omega
  have hk16 := ht0.2.2.2.2.2.2.2.2.2
  refine w_of hG okX7_writeThing (by decide +kernel) rfl (Nat.le_of_ble_eq_true rfl) ?_
  refine x_aload_n rfl rfl rfl ?_
  refine x_getR0 rfl rfl f_7_30 rfl (by decide) rfl rfl ?_
  refine x_getR0 rfl rfl f_7_73 rfl (by decide) rfl rfl ?_
  refine x_iload_n rfl rfl rfl ?_
  refine x_aaldi (a := i) rfl rfl rfl (by decide) (by decide) (by omega) (by decide) rfl ?_
  refine x_astore_n rfl rfl rfl rfl ?_
  refine x_aload_n rfl rfl rfl ?_
  refine x_aload_n rfl rfl rfl ?_
  refine x_getIv (v := nI (tK x)) ht0.1 rfl rfl f_7_76 rfl (by show _ < 40; omega) rfl ?_
  refine w_callV (d2 := 6) (c_writeByte hG (by omega) hw0 (tK x)) hS0 rfl rfl v_7_53 rfl rfl (by decide) rfl rfl (Nat.le_of_ble_eq_true rfl) (by omega) (fun s1 M1 e1 hw1 hS1 => ?_)
  have hC1 := hC.w hS1
  have ht1 := hC1.2.2.1 i x hx
  have hp : lfx (s1.2.2.1.map lN) (lN i) = none := by rw [(wb_some e1).1]; exact hp0
  rw [wth1_8 hp hk]
  have hb22 := hw1.b22
  refine x_aload_n rfl rfl rfl ?_
  refine x_getR0 rfl rfl f_7_20 rfl (by decide) rfl rfl ?_
  refine x_iload_n rfl rfl rfl ?_
  refine x_i2lN (a := i) (by omega) rfl rfl ?_
  refine x_callVi (d2 := 0) (c_LL_placeOf (len := s1.2.2.1.length) hG (lk_22 (by decide)) (lN (i)) hw1.l22 (by omega)) rfl rfl v_7_81 rfl rfl (by decide) rfl rfl (Nat.le_of_ble_eq_true rfl) (by omega) (by omega) ?_
  refine x_topI (v := -1) (by rw [hw1.x22, hp]; rfl) ?_
  refine x_istore rfl rfl rfl rfl ?_
  refine x_iload rfl rfl rfl ?_
  refine x_iconst (v := -1) rfl rfl (by decide +kernel) ?_
  refine x_icmp_eq rfl rfl (fun hc1 => ?_) (fun hc1 => absurd rfl hc1)
  refine x_iload_n rfl rfl rfl ?_
  refine x_bipush (v := nI 12) rfl rfl (by decide +kernel) ?_
  refine x_icmpN_ne (by omega) (by omega) rfl rfl (fun hc2 => ?_) (fun hc2 => absurd hc2 (by omega))
  have hlen : s1.2.2.1.length < 40 := by have := (hw1.pH hlt12 hp).b22; simp [addH] at this; omega
  refine x_aload_n rfl rfl rfl ?_
  refine x_getR0 rfl rfl f_7_20 rfl (by decide) rfl rfl ?_
  refine x_iload_n rfl rfl rfl ?_
  refine x_i2lN (a := i) (by omega) rfl rfl ?_
  refine x_callVv (d2 := 0) (c_LL_add (len := s1.2.2.1.length) hG (lk_22 (by decide)) (lN (i)) hw1.l22 hlen) rfl rfl v_7_87 rfl rfl (by decide) rfl rfl (Nat.le_of_ble_eq_true rfl) (by omega) (by omega) ?_
  have hw2 := hw1.pH hlt12 hp
  have hS2 : Eqn onW M (ui (ul M1 (23, 0) s1.2.2.1.length (lN (i))) (22, 0) 1 (nI (s1.2.2.1.length + 1))) := (hS1.ul (by unfold onW; omega)).ui (by unfold onW; omega)
  have hC2 := hC.w hS2
  have ht2 := hC2.2.2.1 i x hx
  refine x_aload_n rfl rfl rfl ?_
  refine x_getIv (v := nI 8) (ht2.1.trans (by rw [hk])) rfl rfl f_7_76 rfl (by show _ < 40; omega) rfl ?_
  refine x_swIn (off := 33) (tg := 104) rfl (by decide +kernel) (by decide +kernel) rfl (by decide) ?_
  refine x_aload_n rfl rfl rfl ?_
  refine x_iconstN (b := 1) rfl rfl ?_
  refine w_callV (d2 := 7) (c_writeNumber hG (by omega) hw2 (n := 1) (by omega)) hS2 rfl rfl v_7_57 rfl rfl (by decide) rfl rfl (Nat.le_of_ble_eq_true rfl) (by omega) (fun s3 M3 e3 hw3 hS3 => ?_)
  have hC3 := hC.w hS3
  have ht3 := hC3.2.2.1 i x hx
  refine x_aload_n rfl rfl rfl ?_
  refine x_aload_n rfl rfl rfl ?_
  refine x_getLv (v := tD x) ht3.2.2.1 rfl rfl f_7_90 rfl (by show _ < 40; omega) rfl ?_
  refine w_callV (d2 := 7) (c_writeEight hG (by omega) hw3 (tD x)) hS3 rfl rfl v_7_66 rfl rfl (by decide) rfl rfl (Nat.le_of_ble_eq_true rfl) (by omega) (fun s4 M4 e4 hw4 hS4 => ?_)
  have hC4 := hC.w hS4
  have ht4 := hC4.2.2.1 i x hx
  refine x_goto rfl rfl ?_
  exact w_ret rfl hw4 hS4 rfl rfl rfl
set_option maxHeartbeats 4000000 in
set_option maxRecDepth 20000 in
theorem c_writeThing9 (hG : Gok G) (hd : 11 ≤ d) (hwf : wfA A) (hw0 : WrC s0 M) (hC : Cn A M) {i : Nat} {x : Th} (hx : (aH A)[i]? = some x) (hk : tK x = 9) {dv dp : Nat} {rec : Int64 → WS → Option WS} (hrec : WV G A dv (dp + 1) rec) (hdv : dv + 3 ≤ d) (hdp : dp < 12) (hp0 : lfx (s0.2.2.1.map lN) (lN i) = none) : CW G mX7_writeThing d [.ref (ga G (19, 0)), .int (nI i), .int (nI dp)] M ((wb (tK x) s0).bind (wth1 A (some rec) x i)) := by
  have hS0 : Eqn onW M M := Eqn.rf
  have hok := hwf.2.2.1 _ (at_mem hx)
  have hC0 := hC
  have ht0 := hC0.2.2.1 i x hx
  have hil := at_lt hx
  have hi40 := hC0.n40
  have hb8 := ht0.2.2.2.2.2.2.1
  have hlt12 : i < 40 := by omega
  have hk16 := ht0.2.2.2.2.2.2.2.2.2
  refine w_of hG okX7_writeThing (by decide +kernel) rfl (Nat.le_of_ble_eq_true rfl) ?_
  refine x_aload_n rfl rfl rfl ?_
  refine x_getR0 rfl rfl f_7_30 rfl (by decide) rfl rfl ?_
  refine x_getR0 rfl rfl f_7_73 rfl (by decide) rfl rfl ?_
  refine x_iload_n rfl rfl rfl ?_
  refine x_aaldi (a := i) rfl rfl rfl (by decide) (by decide) (by omega) (by decide) rfl ?_
  refine x_astore_n rfl rfl rfl rfl ?_
  refine x_aload_n rfl rfl rfl ?_
  refine x_aload_n rfl rfl rfl ?_
  refine x_getIv (v := nI (tK x)) ht0.1 rfl rfl f_7_76 rfl (by show _ < 40; omega) rfl ?_
  refine w_callV (d2 := 6) (c_writeByte hG (by omega) hw0 (tK x)) hS0 rfl rfl v_7_53 rfl rfl (by decide) rfl rfl (Nat.le_of_ble_eq_true rfl) (by omega) (fun s1 M1 e1 hw1 hS1 => ?_)
  have hC1 := hC.w hS1
  have ht1 := hC1.2.2.1 i x hx
  have hp : lfx (s1.2.2.1.map lN) (lN i) = none := by rw [(wb_some e1).1]; exact hp0
  rw [wth1_9 hp hk]
  have hb22 := hw1.b22
  refine x_aload_n rfl rfl rfl ?_
  refine x_getR0 rfl rfl f_7_20 rfl (by decide) rfl rfl ?_
  refine x_iload_n rfl rfl rfl ?_
  refine x_i2lN (a := i) (by omega) rfl rfl ?_
  refine x_callVi (d2 := 0) (c_LL_placeOf (len := s1.2.2.1.length) hG (lk_22 (by decide)) (lN (i)) hw1.l22 (by omega)) rfl rfl v_7_81 rfl rfl (by decide) rfl rfl (Nat.le_of_ble_eq_true rfl) (by omega) (by omega) ?_
  refine x_topI (v := -1) (by rw [hw1.x22, hp]; rfl) ?_
  refine x_istore rfl rfl rfl rfl ?_
  refine x_iload rfl rfl rfl ?_
  refine x_iconst (v := -1) rfl rfl (by decide +kernel) ?_
  refine x_icmp_eq rfl rfl (fun hc1 => ?_) (fun hc1 => absurd rfl hc1)
  refine x_iload_n rfl rfl rfl ?_
  refine x_bipush (v := nI 12) rfl rfl (by decide +kernel) ?_
  refine x_icmpN_ne (by omega) (by omega) rfl rfl (fun hc2 => ?_) (fun hc2 => absurd hc2 (by omega))
  have hlen : s1.2.2.1.length < 40 := by have := (hw1.pH hlt12 hp).b22; simp [addH] at this; omega
  refine x_aload_n rfl rfl rfl ?_
  refine x_getR0 rfl rfl f_7_20 rfl (by decide) rfl rfl ?_
  refine x_iload_n rfl rfl rfl ?_
  refine x_i2lN (a := i) (by omega) rfl rfl ?_
  refine x_callVv (d2 := 0) (c_LL_add (len := s1.2.2.1.length) hG (lk_22 (by decide)) (lN (i)) hw1.l22 hlen) rfl rfl v_7_87 rfl rfl (by decide) rfl rfl (Nat.le_of_ble_eq_true rfl) (by omega) (by omega) ?_
  have hw2 := hw1.pH hlt12 hp
  have hS2 : Eqn onW M (ui (ul M1 (23, 0) s1.2.2.1.length (lN (i))) (22, 0) 1 (nI (s1.2.2.1.length + 1))) := (hS1.ul (by unfold onW; omega)).ui (by unfold onW; omega)
  have hC2 := hC.w hS2
  have ht2 := hC2.2.2.1 i x hx
  refine x_aload_n rfl rfl rfl ?_
  refine x_getIv (v := nI 9) (ht2.1.trans (by rw [hk])) rfl rfl f_7_76 rfl (by show _ < 40; omega) rfl ?_
  refine x_swIn (off := 60) (tg := 131) rfl (by decide +kernel) (by decide +kernel) rfl (by decide) ?_
  refine x_aload_n rfl rfl rfl ?_
  refine x_iconstN (b := 2) rfl rfl ?_
  refine x_aload_n rfl rfl rfl ?_
  refine x_getRi rfl rfl f_7_94 rfl (by show _ < 40; omega) rfl rfl ?_
  refine x_getIv (v := nI ((tL x).length)) ht2.2.2.2.1.1 rfl rfl f_7_101 rfl (by show _ < 40; omega) rfl ?_
  refine x_imulN (a := 2) (b := (tL x).length) rfl rfl ?_
  refine x_iconstN (b := 1) rfl rfl ?_
  refine x_iaddN (a := 2 * ((tL x).length)) (b := 1) rfl rfl ?_
  refine w_callV (d2 := 7) (c_writeNumber hG (by omega) hw2 (n := (2 * ((tL x).length)) + 1) (by omega)) hS2 rfl rfl v_7_57 rfl rfl (by decide) rfl rfl (Nat.le_of_ble_eq_true rfl) (by omega) (fun s3 M3 e3 hw3 hS3 => ?_)
  have hC3 := hC.w hS3
  have ht3 := hC3.2.2.1 i x hx
  refine x_aload_n rfl rfl rfl ?_
  refine x_aload_n rfl rfl rfl ?_
  refine x_iload_n rfl rfl rfl ?_
  refine x_iconstN (b := 1) rfl rfl ?_
  refine x_iaddN (a := dp) (b := 1) rfl rfl ?_
  refine w_callV (d2 := (d - 1)) (c_writePairs hG (by omega) hw3 hC3 hx hok.2.2.1 hok.2.2.2.1 hrec (by omega)) hS3 rfl rfl v_7_102 rfl rfl (by decide) rfl rfl (Nat.le_of_ble_eq_true rfl) (by omega) (fun s4 M4 e4 hw4 hS4 => ?_)
  have hC4 := hC.w hS4
  have ht4 := hC4.2.2.1 i x hx
  refine x_aload_n rfl rfl rfl ?_
  refine x_aload_n rfl rfl rfl ?_
  refine x_iload_n rfl rfl rfl ?_
  refine x_iconstN (b := 1) rfl rfl ?_
  refine x_iaddN (a := dp) (b := 1) rfl rfl ?_
  refine w_callV (d2 := (dv + 1)) (c_writeItems hG hw4 hC4 hx hok.2.1 hrec (Nat.le_refl _)) hS4 rfl rfl v_7_106 rfl rfl (by decide) rfl rfl (Nat.le_of_ble_eq_true rfl) (by omega) (fun s5 M5 e5 hw5 hS5 => ?_)
  have hC5 := hC.w hS5
  have ht5 := hC5.2.2.1 i x hx
  refine x_goto rfl rfl ?_
  exact w_ret rfl hw5 hS5 rfl rfl rfl
set_option maxHeartbeats 4000000 in
set_option maxRecDepth 20000 in
theorem c_writeThing10 (hG : Gok G) (hd : 11 ≤ d) (hwf : wfA A) (hw0 : WrC s0 M) (hC : Cn A M) {i : Nat} {x : Th} (hx : (aH A)[i]? = some x) (hk : tK x = 10) {dv dp : Nat} {rec : Int64 → WS → Option WS} (hrec : WV G A dv (dp + 1) rec) (hdv : dv + 3 ≤ d) (hdp : dp < 12) (hp0 : lfx (s0.2.2.1.map lN) (lN i) = none) : CW G mX7_writeThing d [.ref (ga G (19, 0)), .int (nI i), .int (nI dp)] M ((wb (tK x) s0).bind (wth1 A (some rec) x i)) := by
  have hS0 : Eqn onW M M := Eqn.rf
  have hok := hwf.2.2.1 _ (at_mem hx)
  have hC0 := hC
  have ht0 := hC0.2.2.1 i x hx
  have hil := at_lt hx
  have hi40 := hC0.n40
  have hb8 := ht0.2.2.2.2.2.2.1
  have hlt12 : i < 40 := by omega
  have hk16 := ht0.2.2.2.2.2.2.2.2.2
  refine w_of hG okX7_writeThing (by decide +kernel) rfl (Nat.le_of_ble_eq_true rfl) ?_
  refine x_aload_n rfl rfl rfl ?_
  refine x_getR0 rfl rfl f_7_30 rfl (by decide) rfl rfl ?_
  refine x_getR0 rfl rfl f_7_73 rfl (by decide) rfl rfl ?_
  refine x_iload_n rfl rfl rfl ?_
  refine x_aaldi (a := i) rfl rfl rfl (by decide) (by decide) (by omega) (by decide) rfl ?_
  refine x_astore_n rfl rfl rfl rfl ?_
  refine x_aload_n rfl rfl rfl ?_
  refine x_aload_n rfl rfl rfl ?_
  refine x_getIv (v := nI (tK x)) ht0.1 rfl rfl f_7_76 rfl (by show _ < 40; omega) rfl ?_
  refine w_callV (d2 := 6) (c_writeByte hG (by omega) hw0 (tK x)) hS0 rfl rfl v_7_53 rfl rfl (by decide) rfl rfl (Nat.le_of_ble_eq_true rfl) (by omega) (fun s1 M1 e1 hw1 hS1 => ?_)
  have hC1 := hC.w hS1
  have ht1 := hC1.2.2.1 i x hx
  have hp : lfx (s1.2.2.1.map lN) (lN i) = none := by rw [(wb_some e1).1]; exact hp0
  rw [wth1_10 hp hk]
  have hb22 := hw1.b22
  refine x_aload_n rfl rfl rfl ?_
  refine x_getR0 rfl rfl f_7_20 rfl (by decide) rfl rfl ?_
  refine x_iload_n rfl rfl rfl ?_
  refine x_i2lN (a := i) (by omega) rfl rfl ?_
  refine x_callVi (d2 := 0) (c_LL_placeOf (len := s1.2.2.1.length) hG (lk_22 (by decide)) (lN (i)) hw1.l22 (by omega)) rfl rfl v_7_81 rfl rfl (by decide) rfl rfl (Nat.le_of_ble_eq_true rfl) (by omega) (by omega) ?_
  refine x_topI (v := -1) (by rw [hw1.x22, hp]; rfl) ?_
  refine x_istore rfl rfl rfl rfl ?_
  refine x_iload rfl rfl rfl ?_
  refine x_iconst (v := -1) rfl rfl (by decide +kernel) ?_
  refine x_icmp_eq rfl rfl (fun hc1 => ?_) (fun hc1 => absurd rfl hc1)
  refine x_iload_n rfl rfl rfl ?_
  refine x_bipush (v := nI 12) rfl rfl (by decide +kernel) ?_
  refine x_icmpN_ne (by omega) (by omega) rfl rfl (fun hc2 => ?_) (fun hc2 => absurd hc2 (by omega))
  have hlen : s1.2.2.1.length < 40 := by have := (hw1.pH hlt12 hp).b22; simp [addH] at this; omega
  refine x_aload_n rfl rfl rfl ?_
  refine x_getR0 rfl rfl f_7_20 rfl (by decide) rfl rfl ?_
  refine x_iload_n rfl rfl rfl ?_
  refine x_i2lN (a := i) (by omega) rfl rfl ?_
  refine x_callVv (d2 := 0) (c_LL_add (len := s1.2.2.1.length) hG (lk_22 (by decide)) (lN (i)) hw1.l22 hlen) rfl rfl v_7_87 rfl rfl (by decide) rfl rfl (Nat.le_of_ble_eq_true rfl) (by omega) (by omega) ?_
  have hw2 := hw1.pH hlt12 hp
  have hS2 : Eqn onW M (ui (ul M1 (23, 0) s1.2.2.1.length (lN (i))) (22, 0) 1 (nI (s1.2.2.1.length + 1))) := (hS1.ul (by unfold onW; omega)).ui (by unfold onW; omega)
  have hC2 := hC.w hS2
  have ht2 := hC2.2.2.1 i x hx
  refine x_aload_n rfl rfl rfl ?_
  refine x_getIv (v := nI 10) (ht2.1.trans (by rw [hk])) rfl rfl f_7_76 rfl (by show _ < 40; omega) rfl ?_
  refine x_swIn (off := 94) (tg := 165) rfl (by decide +kernel) (by decide +kernel) rfl (by decide) ?_
  refine x_aload_n rfl rfl rfl ?_
  refine x_aload_n rfl rfl rfl ?_
  refine x_iload_n rfl rfl rfl ?_
  refine x_iconstN (b := 1) rfl rfl ?_
  refine x_iaddN (a := dp) (b := 1) rfl rfl ?_
  refine w_callV (d2 := (d - 1)) (c_writeObject hG (by omega) hwf hw2 hC2 hx hk hrec (by omega)) hS2 rfl rfl v_7_109 rfl rfl (by decide) rfl rfl (Nat.le_of_ble_eq_true rfl) (by omega) (fun s3 M3 e3 hw3 hS3 => ?_)
  have hC3 := hC.w hS3
  have ht3 := hC3.2.2.1 i x hx
  exact w_ret rfl hw3 hS3 rfl rfl rfl
set_option maxHeartbeats 4000000 in
set_option maxRecDepth 20000 in
theorem c_writeThing12 (hG : Gok G) (hd : 11 ≤ d) (hwf : wfA A) (hw0 : WrC s0 M) (hC : Cn A M) {i : Nat} {x : Th} (hx : (aH A)[i]? = some x) (hk : tK x = 12) {dv dp : Nat} {rec : Int64 → WS → Option WS} (hrec : WV G A dv (dp + 1) rec) (hdv : dv + 3 ≤ d) (hdp : dp < 12) (hp0 : lfx (s0.2.2.1.map lN) (lN i) = none) : CW G mX7_writeThing d [.ref (ga G (19, 0)), .int (nI i), .int (nI dp)] M ((wb (tK x) s0).bind (wth1 A (some rec) x i)) := by
  have hS0 : Eqn onW M M := Eqn.rf
  have hok := hwf.2.2.1 _ (at_mem hx)
  have hC0 := hC
  have ht0 := hC0.2.2.1 i x hx
  have hil := at_lt hx
  have hi40 := hC0.n40
  have hb8 := ht0.2.2.2.2.2.2.1
  have hlt12 : i < 40 := by omega
  have hk16 := ht0.2.2.2.2.2.2.2.2.2
  refine w_of hG okX7_writeThing (by decide +kernel) rfl (Nat.le_of_ble_eq_true rfl) ?_
  refine x_aload_n rfl rfl rfl ?_
  refine x_getR0 rfl rfl f_7_30 rfl (by decide) rfl rfl ?_
  refine x_getR0 rfl rfl f_7_73 rfl (by decide) rfl rfl ?_
  refine x_iload_n rfl rfl rfl ?_
  refine x_aaldi (a := i) rfl rfl rfl (by decide) (by decide) (by omega) (by decide) rfl ?_
  refine x_astore_n rfl rfl rfl rfl ?_
  refine x_aload_n rfl rfl rfl ?_
  refine x_aload_n rfl rfl rfl ?_
  refine x_getIv (v := nI (tK x)) ht0.1 rfl rfl f_7_76 rfl (by show _ < 40; omega) rfl ?_
  refine w_callV (d2 := 6) (c_writeByte hG (by omega) hw0 (tK x)) hS0 rfl rfl v_7_53 rfl rfl (by decide) rfl rfl (Nat.le_of_ble_eq_true rfl) (by omega) (fun s1 M1 e1 hw1 hS1 => ?_)
  have hC1 := hC.w hS1
  have ht1 := hC1.2.2.1 i x hx
  have hp : lfx (s1.2.2.1.map lN) (lN i) = none := by rw [(wb_some e1).1]; exact hp0
  rw [wth1_12 hp hk]
  have hb22 := hw1.b22
  refine x_aload_n rfl rfl rfl ?_
  refine x_getR0 rfl rfl f_7_20 rfl (by decide) rfl rfl ?_
  refine x_iload_n rfl rfl rfl ?_
  refine x_i2lN (a := i) (by omega) rfl rfl ?_
  refine x_callVi (d2 := 0) (c_LL_placeOf (len := s1.2.2.1.length) hG (lk_22 (by decide)) (lN (i)) hw1.l22 (by omega)) rfl rfl v_7_81 rfl rfl (by decide) rfl rfl (Nat.le_of_ble_eq_true rfl) (by omega) (by omega) ?_
  refine x_topI (v := -1) (by rw [hw1.x22, hp]; rfl) ?_
  refine x_istore rfl rfl rfl rfl ?_
  refine x_iload rfl rfl rfl ?_
  refine x_iconst (v := -1) rfl rfl (by decide +kernel) ?_
  refine x_icmp_eq rfl rfl (fun hc1 => ?_) (fun hc1 => absurd rfl hc1)
  refine x_iload_n rfl rfl rfl ?_
  refine x_bipush (v := nI 12) rfl rfl (by decide +kernel) ?_
  refine x_icmpN_ne (by omega) (by omega) rfl rfl (fun hc2 => ?_) (fun hc2 => absurd hc2 (by omega))
  have hlen : s1.2.2.1.length < 40 := by have := (hw1.pH hlt12 hp).b22; simp [addH] at this; omega
  refine x_aload_n rfl rfl rfl ?_
  refine x_getR0 rfl rfl f_7_20 rfl (by decide) rfl rfl ?_
  refine x_iload_n rfl rfl rfl ?_
  refine x_i2lN (a := i) (by omega) rfl rfl ?_
  refine x_callVv (d2 := 0) (c_LL_add (len := s1.2.2.1.length) hG (lk_22 (by decide)) (lN (i)) hw1.l22 hlen) rfl rfl v_7_87 rfl rfl (by decide) rfl rfl (Nat.le_of_ble_eq_true rfl) (by omega) (by omega) ?_
  have hw2 := hw1.pH hlt12 hp
  have hS2 : Eqn onW M (ui (ul M1 (23, 0) s1.2.2.1.length (lN (i))) (22, 0) 1 (nI (s1.2.2.1.length + 1))) := (hS1.ul (by unfold onW; omega)).ui (by unfold onW; omega)
  have hC2 := hC.w hS2
  have ht2 := hC2.2.2.1 i x hx
  refine x_aload_n rfl rfl rfl ?_
  refine x_getIv (v := nI 12) (ht2.1.trans (by rw [hk])) rfl rfl f_7_76 rfl (by show _ < 40; omega) rfl ?_
  refine x_swIn (off := 49) (tg := 120) rfl (by decide +kernel) (by decide +kernel) rfl (by decide) ?_
  refine x_aload_n rfl rfl rfl ?_
  refine x_aload_n rfl rfl rfl ?_
  refine x_getRi rfl rfl f_7_94 rfl (by show _ < 40; omega) rfl rfl ?_
  refine w_callV (d2 := 8) (c_writeBytes hG (Nat.le_refl _) hw2 (i := i) (by omega) (l := tL x) hb8 (fun v hv => by obtain ⟨b, hb, e⟩ := hok.2.2.2.2.2.1 hk v hv; rw [e, by16 hb]; exact hb) ht2.2.2.2.1) hS2 rfl rfl v_7_97 rfl rfl (by decide) rfl rfl (Nat.le_of_ble_eq_true rfl) (by omega) (fun s3 M3 e3 hw3 hS3 => ?_)
  have hC3 := hC.w hS3
  have ht3 := hC3.2.2.1 i x hx
  refine x_goto rfl rfl ?_
  exact w_ret rfl hw3 hS3 rfl rfl rfl
theorem c_writeThingN (hG : Gok G) (hd : 11 ≤ d) (hwf : wfA A) (hw0 : WrC s0 M) (hC : Cn A M) {i : Nat} {x : Th} (hx : (aH A)[i]? = some x) : CW G mX7_writeThing d [.ref (ga G (19, 0)), .int (nI i), .int (nI 12)] M (wthing A none i s0) := by
  unfold wthing
  rw [hx]
  cases hp : lfx (s0.2.2.1.map lN) (lN i) with
  | some p => exact c_writeThingK hG hd hwf hw0 hC hx hp
  | none => exact c_writeThingX hG hd hwf hw0 hC hx hp
theorem c_writeThingR (hG : Gok G) (hd : 11 ≤ d) (hwf : wfA A) (hw0 : WrC s0 M) (hC : Cn A M) {i : Nat} {x : Th} (hx : (aH A)[i]? = some x) {dv dp : Nat} {rec : Int64 → WS → Option WS} (hrec : WV G A dv (dp + 1) rec) (hdv : dv + 3 ≤ d) (hdp : dp < 12) : CW G mX7_writeThing d [.ref (ga G (19, 0)), .int (nI i), .int (nI dp)] M (wthing A (some rec) i s0) := by
  unfold wthing
  rw [hx]
  cases hp : lfx (s0.2.2.1.map lN) (lN i) with
  | some p => exact c_writeThingK hG hd hwf hw0 hC hx hp
  | none =>
    rcases (hwf.2.2.1 _ (at_mem hx)).1 with hk | hk | hk | hk
    · exact c_writeThing8 hG hd hwf hw0 hC hx hk hrec hdv hdp hp
    · exact c_writeThing9 hG hd hwf hw0 hC hx hk hrec hdv hdp hp
    · exact c_writeThing10 hG hd hwf hw0 hC hx hk hrec hdv hdp hp
    · exact c_writeThing12 hG hd hwf hw0 hC hx hk hrec hdv hdp hp
set_option maxHeartbeats 4000000 in
set_option maxRecDepth 20000 in
theorem c_writeValue7 (hG : Gok G) (hd : 12 ≤ d) (hwf : wfA A) (hw0 : WrC s0 M) (hC : Cn A M) (v : Int64) (hv : vOK A v) {dp : Nat} {rec : Option (Int64 → WS → Option WS)} (hk : uN v % 16 = 7) (hth : ∀ i x, (aH A)[i]? = some x → ∀ (s : WS) (M : Mm), WrC s M → Cn A M → CW G mX7_writeThing (d - 1) [.ref (ga G (19, 0)), .int (nI i), .int (nI dp)] M (wthing A rec i s)) : CW G mX7_writeValue d [.ref (ga G (19, 0)), .long (v), .int (nI dp)] M ((wthing A rec (uN (sh4 v)) s0).bind some) := by
  have hS0 : Eqn onW M M := Eqn.rf
  have hv7 := (isV_7 hk).mp hv
  have hin := uN_in hC.n40 hv7.1 hv7.2
  have hn40 := hC.n40
  have hx := List.getElem?_eq_getElem hin
  refine w_of hG okX7_writeValue (by decide +kernel) rfl (Nat.le_of_ble_eq_true rfl) ?_
  refine x_lload_n rfl rfl rfl ?_
  refine x_callSi (d2 := 0) (c_kindOf hG (v)) rfl rfl s_7_41 rfl rfl (Nat.le_of_ble_eq_true rfl) (by omega) (by omega) ?_
  refine x_topI (v := nI (7)) (by rw [kd_eq, hk]) ?_
  refine x_istore rfl rfl rfl rfl ?_
  refine x_lload_n rfl rfl rfl ?_
  refine x_callSl (d2 := 0) (c_aboveKind hG (v)) rfl rfl s_7_45 rfl rfl (Nat.le_of_ble_eq_true rfl) (by omega) (by omega) ?_
  refine x_topL (v := sh4 v) rfl ?_
  refine x_lstore rfl rfl rfl rfl ?_
  refine x_iload rfl rfl rfl ?_
  refine x_bipush (v := nI 7) rfl rfl (by decide +kernel) ?_
  refine x_icmpN_ne (by omega) (by omega) rfl rfl (fun hc1 => absurd hc1 (by omega)) (fun hc1 => ?_)
  refine x_aload_n rfl rfl rfl ?_
  refine x_lload rfl rfl rfl ?_
  refine x_l2i rfl rfl ?_
  refine x_topI (v := nI (uN (sh4 v))) (l2i_small (by omega)) ?_
  refine x_iload_n rfl rfl rfl ?_
  refine w_callV (d2 := d - 1) (hth _ _ hx s0 M hw0 hC) hS0 rfl rfl v_7_49 rfl rfl (by decide) rfl rfl (Nat.le_of_ble_eq_true rfl) (by omega) (fun s1 M1 e1 hw1 hS1 => ?_)
  exact w_ret rfl hw1 hS1 rfl rfl rfl
set_option maxHeartbeats 4000000 in
set_option maxRecDepth 20000 in
theorem c_writeValue4 (hG : Gok G) (hd : 12 ≤ d) (hwf : wfA A) (hw0 : WrC s0 M) (hC : Cn A M) (v : Int64) (hv : vOK A v) {dp : Nat} (hk : uN v % 16 = 4) : CW G mX7_writeValue d [.ref (ga G (19, 0)), .long (v), .int (nI dp)] M ((wb 4 s0).bind (wv1 A v)) := by
  have hS0 : Eqn onW M M := Eqn.rf
  refine w_of hG okX7_writeValue (by decide +kernel) rfl (Nat.le_of_ble_eq_true rfl) ?_
  refine x_lload_n rfl rfl rfl ?_
  refine x_callSi (d2 := 0) (c_kindOf hG (v)) rfl rfl s_7_41 rfl rfl (Nat.le_of_ble_eq_true rfl) (by omega) (by omega) ?_
  refine x_topI (v := nI (4)) (by rw [kd_eq, hk]) ?_
  refine x_istore rfl rfl rfl rfl ?_
  refine x_lload_n rfl rfl rfl ?_
  refine x_callSl (d2 := 0) (c_aboveKind hG (v)) rfl rfl s_7_45 rfl rfl (Nat.le_of_ble_eq_true rfl) (by omega) (by omega) ?_
  refine x_topL (v := sh4 v) rfl ?_
  refine x_lstore rfl rfl rfl rfl ?_
  refine x_iload rfl rfl rfl ?_
  refine x_bipush (v := nI 7) rfl rfl (by decide +kernel) ?_
  refine x_icmpN_ne (by omega) (by omega) rfl rfl (fun hc1 => ?_) (fun hc1 => absurd hc1 (by omega))
  refine x_aload_n rfl rfl rfl ?_
  refine x_iload rfl rfl rfl ?_
  refine w_callV (d2 := 6) (c_writeByte hG (by omega) hw0 (4)) hS0 rfl rfl v_7_53 rfl rfl (by decide) rfl rfl (Nat.le_of_ble_eq_true rfl) (by omega) (fun s1 M1 e1 hw1 hS1 => ?_)
  rw [wv1_4 hk]
  refine x_iload rfl rfl rfl ?_
  refine x_iconstN (b := 4) rfl rfl ?_
  refine x_icmpN_ne (by omega) (by omega) rfl rfl (fun hc2 => absurd hc2 (by omega)) (fun hc2 => ?_)
  refine x_aload_n rfl rfl rfl ?_
  refine x_lload rfl rfl rfl ?_
  refine x_l2i rfl rfl ?_
  refine x_ldc (v := 536870911) rfl rfl k_7_56 ?_
  refine x_topI (v := nI 536870911) (by decide +kernel) ?_
  refine x_iand rfl rfl ?_
  refine x_topI (v := nI (uN (sh4 v) % 536870912)) (sh_30 _) ?_
  refine w_callV (d2 := 7) (c_writeNumber hG (by omega) hw1 (n := uN (sh4 v) % 536870912) (by omega)) hS1 rfl rfl v_7_57 rfl rfl (by decide) rfl rfl (Nat.le_of_ble_eq_true rfl) (by omega) (fun s2 M2 e2 hw2 hS2 => ?_)
  refine x_goto rfl rfl ?_
  exact w_ret rfl hw2 hS2 rfl rfl rfl
set_option maxHeartbeats 4000000 in
set_option maxRecDepth 20000 in
theorem c_writeValue5 (hG : Gok G) (hd : 12 ≤ d) (hwf : wfA A) (hw0 : WrC s0 M) (hC : Cn A M) (v : Int64) (hv : vOK A v) {dp : Nat} (hk : uN v % 16 = 5) : CW G mX7_writeValue d [.ref (ga G (19, 0)), .long (v), .int (nI dp)] M ((wb 5 s0).bind (wv1 A v)) := by
  have hS0 : Eqn onW M M := Eqn.rf
  have hv5 := (isV_5 hk).mp hv
  have hin := uN_in hC.nW hv5.1 hv5.2
  have hnW := hC.nW
  refine w_of hG okX7_writeValue (by decide +kernel) rfl (Nat.le_of_ble_eq_true rfl) ?_
  refine x_lload_n rfl rfl rfl ?_
  refine x_callSi (d2 := 0) (c_kindOf hG (v)) rfl rfl s_7_41 rfl rfl (Nat.le_of_ble_eq_true rfl) (by omega) (by omega) ?_
  refine x_topI (v := nI (5)) (by rw [kd_eq, hk]) ?_
  refine x_istore rfl rfl rfl rfl ?_
  refine x_lload_n rfl rfl rfl ?_
  refine x_callSl (d2 := 0) (c_aboveKind hG (v)) rfl rfl s_7_45 rfl rfl (Nat.le_of_ble_eq_true rfl) (by omega) (by omega) ?_
  refine x_topL (v := sh4 v) rfl ?_
  refine x_lstore rfl rfl rfl rfl ?_
  refine x_iload rfl rfl rfl ?_
  refine x_bipush (v := nI 7) rfl rfl (by decide +kernel) ?_
  refine x_icmpN_ne (by omega) (by omega) rfl rfl (fun hc1 => ?_) (fun hc1 => absurd hc1 (by omega))
  refine x_aload_n rfl rfl rfl ?_
  refine x_iload rfl rfl rfl ?_
  refine w_callV (d2 := 6) (c_writeByte hG (by omega) hw0 (5)) hS0 rfl rfl v_7_53 rfl rfl (by decide) rfl rfl (Nat.le_of_ble_eq_true rfl) (by omega) (fun s1 M1 e1 hw1 hS1 => ?_)
  rw [wv1_5 hk]
  refine x_iload rfl rfl rfl ?_
  refine x_iconstN (b := 4) rfl rfl ?_
  refine x_icmpN_ne (by omega) (by omega) rfl rfl (fun hc2 => ?_) (fun hc2 => absurd hc2 (by omega))
  refine x_iload rfl rfl rfl ?_
  refine x_iconstN (b := 5) rfl rfl ?_
  refine x_icmpN_ne (by omega) (by omega) rfl rfl (fun hc3 => absurd hc3 (by omega)) (fun hc3 => ?_)
  refine x_aload_n rfl rfl rfl ?_
  refine x_aload_n rfl rfl rfl ?_
  refine x_getR0 rfl rfl f_7_30 rfl (by decide) rfl rfl ?_
  refine x_getR0 rfl rfl f_7_60 rfl (by decide) rfl rfl ?_
  refine x_lload rfl rfl rfl ?_
  refine x_l2i rfl rfl ?_
  refine x_topI (v := nI (uN (sh4 v))) (l2i_small (by omega)) ?_
  refine x_laldv (a := uN (sh4 v)) (v := (aW A)[uN (sh4 v)]?.getD 0) ((hC.w hS1).1.at (by omega)) rfl rfl rfl (by decide) (by omega) (by decide) ?_
  refine w_callV (d2 := 7) (c_writeEight hG (by omega) hw1 ((aW A)[uN (sh4 v)]?.getD 0)) hS1 rfl rfl v_7_66 rfl rfl (by decide) rfl rfl (Nat.le_of_ble_eq_true rfl) (by omega) (fun s2 M2 e2 hw2 hS2 => ?_)
  refine x_goto rfl rfl ?_
  exact w_ret rfl hw2 hS2 rfl rfl rfl
set_option maxHeartbeats 4000000 in
set_option maxRecDepth 20000 in
theorem c_writeValue6 (hG : Gok G) (hd : 12 ≤ d) (hwf : wfA A) (hw0 : WrC s0 M) (hC : Cn A M) (v : Int64) (hv : vOK A v) {dp : Nat} (hk : uN v % 16 = 6) : CW G mX7_writeValue d [.ref (ga G (19, 0)), .long (v), .int (nI dp)] M ((wb 6 s0).bind (wv1 A v)) := by
  have hS0 : Eqn onW M M := Eqn.rf
  refine w_of hG okX7_writeValue (by decide +kernel) rfl (Nat.le_of_ble_eq_true rfl) ?_
  refine x_lload_n rfl rfl rfl ?_
  refine x_callSi (d2 := 0) (c_kindOf hG (v)) rfl rfl s_7_41 rfl rfl (Nat.le_of_ble_eq_true rfl) (by omega) (by omega) ?_
  refine x_topI (v := nI (6)) (by rw [kd_eq, hk]) ?_
  refine x_istore rfl rfl rfl rfl ?_
  refine x_lload_n rfl rfl rfl ?_
  refine x_callSl (d2 := 0) (c_aboveKind hG (v)) rfl rfl s_7_45 rfl rfl (Nat.le_of_ble_eq_true rfl) (by omega) (by omega) ?_
  refine x_topL (v := sh4 v) rfl ?_
  refine x_lstore rfl rfl rfl rfl ?_
  refine x_iload rfl rfl rfl ?_
  refine x_bipush (v := nI 7) rfl rfl (by decide +kernel) ?_
  refine x_icmpN_ne (by omega) (by omega) rfl rfl (fun hc1 => ?_) (fun hc1 => absurd hc1 (by omega))
  refine x_aload_n rfl rfl rfl ?_
  refine x_iload rfl rfl rfl ?_
  refine w_callV (d2 := 6) (c_writeByte hG (by omega) hw0 (6)) hS0 rfl rfl v_7_53 rfl rfl (by decide) rfl rfl (Nat.le_of_ble_eq_true rfl) (by omega) (fun s1 M1 e1 hw1 hS1 => ?_)
  rw [wv1_6 hk]
  refine x_iload rfl rfl rfl ?_
  refine x_iconstN (b := 4) rfl rfl ?_
  refine x_icmpN_ne (by omega) (by omega) rfl rfl (fun hc2 => ?_) (fun hc2 => absurd hc2 (by omega))
  refine x_iload rfl rfl rfl ?_
  refine x_iconstN (b := 5) rfl rfl ?_
  refine x_icmpN_ne (by omega) (by omega) rfl rfl (fun hc3 => ?_) (fun hc3 => absurd hc3 (by omega))
  refine x_iload rfl rfl rfl ?_
  refine x_bipush (v := nI 6) rfl rfl (by decide +kernel) ?_
  refine x_icmpN_ne (by omega) (by omega) rfl rfl (fun hc4 => absurd hc4 (by omega)) (fun hc4 => ?_)
  refine x_aload_n rfl rfl rfl ?_
  refine x_lload rfl rfl rfl ?_
  refine w_callV (d2 := 8) (c_writeString hG (by omega) hw1 (sh4 v) ((isV_6 hk).mp hv)) hS1 rfl rfl v_7_70 rfl rfl (by decide) rfl rfl (Nat.le_of_ble_eq_true rfl) (by omega) (fun s2 M2 e2 hw2 hS2 => ?_)
  exact w_ret rfl hw2 hS2 rfl rfl rfl
set_option maxHeartbeats 4000000 in
set_option maxRecDepth 20000 in
theorem c_writeValueO (hG : Gok G) (hd : 12 ≤ d) (hwf : wfA A) (hw0 : WrC s0 M) (hC : Cn A M) (v : Int64) (hv : vOK A v) {dp : Nat} (hk : uN v % 16 ≤ 3) : CW G mX7_writeValue d [.ref (ga G (19, 0)), .long (v), .int (nI dp)] M ((wb (uN v % 16) s0).bind (wv1 A v)) := by
  have hS0 : Eqn onW M M := Eqn.rf
  refine w_of hG okX7_writeValue (by decide +kernel) rfl (Nat.le_of_ble_eq_true rfl) ?_
  refine x_lload_n rfl rfl rfl ?_
  refine x_callSi (d2 := 0) (c_kindOf hG (v)) rfl rfl s_7_41 rfl rfl (Nat.le_of_ble_eq_true rfl) (by omega) (by omega) ?_
  refine x_topI (v := nI (uN v % 16)) (by rw [kd_eq]) ?_
  refine x_istore rfl rfl rfl rfl ?_
  refine x_lload_n rfl rfl rfl ?_
  refine x_callSl (d2 := 0) (c_aboveKind hG (v)) rfl rfl s_7_45 rfl rfl (Nat.le_of_ble_eq_true rfl) (by omega) (by omega) ?_
  refine x_topL (v := sh4 v) rfl ?_
  refine x_lstore rfl rfl rfl rfl ?_
  refine x_iload rfl rfl rfl ?_
  refine x_bipush (v := nI 7) rfl rfl (by decide +kernel) ?_
  refine x_icmpN_ne (by omega) (by omega) rfl rfl (fun hc1 => ?_) (fun hc1 => absurd hc1 (by omega))
  refine x_aload_n rfl rfl rfl ?_
  refine x_iload rfl rfl rfl ?_
  refine w_callV (d2 := 6) (c_writeByte hG (by omega) hw0 (uN v % 16)) hS0 rfl rfl v_7_53 rfl rfl (by decide) rfl rfl (Nat.le_of_ble_eq_true rfl) (by omega) (fun s1 M1 e1 hw1 hS1 => ?_)
  rw [wv1_O hk]
  refine x_iload rfl rfl rfl ?_
  refine x_iconstN (b := 4) rfl rfl ?_
  refine x_icmpN_ne (by omega) (by omega) rfl rfl (fun hc2 => ?_) (fun hc2 => absurd hc2 (by omega))
  refine x_iload rfl rfl rfl ?_
  refine x_iconstN (b := 5) rfl rfl ?_
  refine x_icmpN_ne (by omega) (by omega) rfl rfl (fun hc3 => ?_) (fun hc3 => absurd hc3 (by omega))
  refine x_iload rfl rfl rfl ?_
  refine x_bipush (v := nI 6) rfl rfl (by decide +kernel) ?_
  refine x_icmpN_ne (by omega) (by omega) rfl rfl (fun hc4 => ?_) (fun hc4 => absurd hc4 (by omega))
  exact w_ret rfl hw1 hS1 rfl rfl rfl
theorem c_writeValueS (hG : Gok G) (hd : 12 ≤ d) (hwf : wfA A) (hw0 : WrC s0 M) (hC : Cn A M) (v : Int64) (hv : vOK A v) {dp : Nat} {rec : Option (Int64 → WS → Option WS)} (hth : ∀ i x, (aH A)[i]? = some x → ∀ (s : WS) (M : Mm), WrC s M → Cn A M → CW G mX7_writeThing (d - 1) [.ref (ga G (19, 0)), .int (nI i), .int (nI dp)] M (wthing A rec i s)) : CW G mX7_writeValue d [.ref (ga G (19, 0)), .long v, .int (nI dp)] M (wvalS A rec v s0) := by
  unfold wvalS
  by_cases h7 : uN v % 16 = 7
  · rw [if_pos h7]
    have hz := c_writeValue7 (dp := dp) hG hd hwf hw0 hC v hv h7 hth
    rw [bsome] at hz; exact hz
  rw [if_neg h7]
  by_cases h4 : uN v % 16 = 4
  · have hz := c_writeValue4 (dp := dp) hG hd hwf hw0 hC v hv h4
    rw [h4]; exact hz
  by_cases h5 : uN v % 16 = 5
  · have hz := c_writeValue5 (dp := dp) hG hd hwf hw0 hC v hv h5
    rw [h5]; exact hz
  by_cases h6 : uN v % 16 = 6
  · have hz := c_writeValue6 (dp := dp) hG hd hwf hw0 hC v hv h6
    rw [h6]; exact hz
  exact c_writeValueO hG hd hwf hw0 hC v hv ((isV_O h4 h5 h6 h7).mp hv).1
theorem c_writeValue (hG : Gok G) (hwf : wfA A) : ∀ (dl dp : Nat), dp + dl = 12 → ∀ d, 4 * dl + 13 ≤ d → WV G A d dp (wval A dl)
  | 0, dp, hdp, d, hd => fun v hv s M hw hC => by
    have e : dp = 12 := hdp
    subst e
    exact c_writeValueS hG (by omega) hwf hw hC v hv fun i x hx s M hw hC => c_writeThingN hG (by omega) hwf hw hC hx
  | dl + 1, dp, hdp, d, hd => fun v hv s M hw hC =>
    c_writeValueS hG (by omega) hwf hw hC v hv fun i x hx s M hw hC => c_writeThingR (dv := 4 * dl + 13) hG (by omega) hwf hw hC hx (c_writeValue hG hwf dl (dp + 1) (by omega) _ (Nat.le_refl _)) (by omega) (by omega)
end W5
