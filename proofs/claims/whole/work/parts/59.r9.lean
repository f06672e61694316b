theorem rTr_H {row : List Nat} {al : List Int64} {n np : Nat} {s s1 : RS} {t : Nat} (h : rTr row al n np s = .inr (t, s1)) : pH s1 = pH s := by
  by_cases h1 : n % 4 = 1
  · rw [rTr_k h1] at h
    obtain ⟨q, hq, h2⟩ := rb_some h
    cases h2
    unfold rKR at hq
    cases hj : (pR s)[n / 4]? with
    | none => rw [hj] at hq; cases hq
    | some t => rw [hj] at hq; cases hq; rfl
  · by_cases h2 : n % 8 = 7 ∨ 3 < n / 16
    · rw [rTr_x h1 h2] at h; cases h
    · rw [rTr_m h1 h2] at h
      obtain ⟨q, hq, h3⟩ := rb_some h
      have hp := (rStr_2 (t := q.1) (s1 := q.2) hq).1
      split at h3
      · cases h3
      · obtain ⟨z, hz, h4⟩ := rb_some h3
        have hp2 := rMem_2 (l := z.1) (s1 := z.2) hz
        have e : pH z.2 = pH s := by unfold pH; rw [hp2, hp]
        unfold keepT at h4
        split at h4
        · cases h4
        · split at h4 <;> (cases h4; exact e)
section R9
variable {G : Gd} {d : Nat} {M : Mm}
set_option maxHeartbeats 4000000 in
theorem l_ra (hG : Gok G) (hd : 10 ≤ d) {row : List Nat} {al : List Int64} {s9 : RS} {i dp dv m np : Nat} {rec : Rec} (hrec : RV G row al dv dp rec) (hpre : RecPre rec) (hdv : dv + 2 ≤ d) (hm : m ≤ 8) (hi40 : i < 40) {y : Th} (hy : (pH s9)[i]? = some y) (hki : tK y = 9) {ks vs : List Int64} (hk6 : ks.length ≤ 6) (hvk : vs.length = ks.length) {M9 : Mm} : ∀ (n c : Nat), c + n = m → ∀ (acc : List Int64) (s0 : RS) (M : Mm), acc.length = c → RdC row al s0 M → Pre s9 s0 → i < (pH s0).length → Pt 9 (-1) 0 acc ks vs i M → Cmp (i + 1) s0 M → EqF (onDi s9 i) M9 M → FR2 G mX2_readArray d M9 (onDi s9 i) (fun _ s' M' => RdC row al s' M' ∧ Cmp i s' M') vNo (rb (rItems rec n acc s0) fun z => .inr ((), setH i (9, 0, 0, z.1, ks, vs) z.2)) 21 [(0, .ref (ga G (27, 0))), (1, .ref (ga G (8, i))), (2, .int (nI m)), (3, .int (nI np)), (4, .int (nI dp)), (5, .int (nI c))] [] M := by
  intro n
  induction n with
  | zero =>
    intro c hc acc s0 M hal hw0 hp0 hil0 hpt0 hcm0 hS0
    refine x_iload rfl rfl rfl ?_
    refine x_iload_n rfl rfl rfl ?_
    refine x_icmpN_ge (by omega) (by omega) rfl rfl (fun hc1 => ?_) (fun hc1 => absurd hc1 (by omega))
    exact r_retV2 rfl hS0 (fin_th (t := 0) (tr := -1) hw0 hcm0 hpt0 rfl (by show acc.length ≤ 8; omega) hk6 hvk (by decide) hy hp0 hki) rfl rfl rfl
  | succ n ih =>
    intro c hc acc s0 M hal hw0 hp0 hil0 hpt0 hcm0 hS0
    rw [show rItems rec (n + 1) acc s0 = rb (rec s0) (fun q => rItems rec n (acc ++ [q.1]) q.2) from rfl, rb_assoc]
    refine x_iload rfl rfl rfl ?_
    refine x_iload_n rfl rfl rfl ?_
    refine x_icmpN_ge (by omega) (by omega) rfl rfl (fun hc1 => absurd hc1 (by omega)) (fun hc1 => ?_)
    refine x_aload_n rfl rfl rfl ?_
    refine x_getRi rfl rfl f_2_143 rfl (by show _ < 40; omega) rfl rfl ?_
    refine x_aload_n rfl rfl rfl ?_
    refine x_iload rfl rfl rfl ?_
    refine r_call2 (d2 := dv) (hrec s0 _ hw0) hS0 (fun k j z => onD_pre hp0 z.1) rfl rfl v_2_150 rfl rfl (by decide) rfl rfl (Nat.le_of_ble_eq_true rfl) (by omega) (fun b1 s1 M1 e1 hq1 hE1 hS1 => ?_)
    have hw1 := hq1.1
    have hpr1 := hpre _ _ _ e1
    have hpt1 := hpt0.eqF hE1 (fun r h1 h2 j => by have := hil0; unfold onD; simp; omega)
    have hcm1 := hcm0.step hpr1 hE1 hq1.2
    have hp1 := hp0.tr hpr1
    have hil1 := Nat.lt_of_lt_of_le hil0 hpr1.2.2.2
    refine x_callVv (d2 := 0) (c_LL_add (len := acc.length) hG (lk_9 (by omega)) (b1) hpt1.2.2.2.1.1 (by omega)) rfl rfl v_2_114 rfl rfl (by show _ < 40; omega) rfl rfl (Nat.le_of_ble_eq_true rfl) (by omega) (by omega) ?_
    have hpt2 := hpt1.aL (e := b1)
    have hSt2 : EqF (fun k _ => ¬ (9 ≤ k.1 ∧ k.1 ≤ 14 ∧ k.2 = i)) M1 (ui (ul M1 (10, i) acc.length (b1)) (9, i) 1 (nI (acc.length + 1))) := (EqF.rf.ul (by simp)).ui (by simp)
    have hw2 := hw1.eqT (hSt2.sub fun k j z => by omega)
    have hcm2 := hcm1.eq (Nat.lt_succ_self i) (hSt2.sub fun k j z => by omega)
    have hS2 := hS1.tr (hSt2.sub fun k j z => by unfold onDi at z; omega)
    have hp2 := hp1
    have hil2 := hil1
    refine x_iincN (a := c) (b := 1) rfl rfl rfl rfl rfl ?_
    refine x_goto rfl rfl ?_
    exact ih (c + 1) (by omega) _ s1 _ (by simp; omega) hw2 hp2 hil2 hpt2 hcm2 hS2
set_option maxHeartbeats 4000000 in
set_option maxRecDepth 20000 in
theorem c_readArray (hG : Gok G) (hd : 10 ≤ d) {row : List Nat} {al : List Int64} {s0 : RS} (hw0 : RdC row al s0 M) {i : Nat} {y : Th} (hy : (pH s0)[i]? = some y) (hki : tK y = 9) (hpt0 : Pt 9 (-1) 0 [] [] [] i M) (hcm0 : Cmp (i + 1) s0 M) {dp dv : Nat} {rec : Rec} (hrec : RV G row al dv dp rec) (hpre : RecPre rec) (hdv : dv + 2 ≤ d) {m np : Nat} (hm : m < 536870912) : CR2 G mX2_readArray d [.ref (ga G (27, 0)), .ref (ga G (8, i)), .int (nI m), .int (nI np), .int (nI dp)] M (onDi s0 i) (fun _ s' M' => RdC row al s' M' ∧ Cmp i s' M') vNo (rU (rArr row rec m np i s0)) := by
  have hS0 : EqF (onDi s0 i) M M := EqF.rf
  have hp0 : Pre s0 s0 := Pre.rf
  have hil0 := at_lt hy
  have hA0 := hw0.2.1.1
  have hL6 := hw0.2.2.2.2.2.2.1
  obtain ⟨i1, i2, i3, i4, i5, i6, i7, i8, i9⟩ := id hw0.2.2.2.1
  refine r_of2 hG okX2_readArray (by decide +kernel) rfl (Nat.le_of_ble_eq_true rfl) ?_
  refine x_iload_n rfl rfl rfl ?_
  refine x_bipush (v := nI 8) rfl rfl (by decide +kernel) ?_
  refine x_icmpN_le (by omega) (by omega) rfl rfl (fun hc1 => ?_) (fun hc1 => ?_)
  · have eB : rU (rArr row rec m np i s0) = rb (rPairs row rec [] 7 [] [] s0) (fun q => rb (rItems rec m [] q.2) fun z => .inr ((), setH i (9, 0, 0, z.1, q.1.1, q.1.2) z.2)) := by unfold rArr; rw [if_neg (by omega), rU_rb]; congr 1; funext q; rw [rU_rb]; rfl
    rw [eB]
    refine x_aload_n rfl rfl rfl ?_
    refine x_aload_n rfl rfl rfl ?_
    refine x_iload rfl rfl rfl ?_
    refine r_call2 (d2 := (d - 1)) (c_readPairs9 (d := d - 1) hG (by omega) hrec hpre (by omega) (by omega) hw0 hil0 hpt0 hcm0) hS0 (fun k j z => z) rfl rfl v_2_146 rfl rfl (by decide) rfl rfl (Nat.le_of_ble_eq_true rfl) (by omega) (fun b1 s1 M1 e1 hq1 hE1 hS1 => ?_)
    obtain ⟨hw1, hp1, hil1, hpt1, hcm1, hk6, hvk⟩ := hq1
    refine x_iconstN (b := 0) rfl rfl ?_
    refine x_istore rfl rfl rfl rfl ?_
    exact l_ra hG hd hrec hpre hdv (by omega) (by omega) hy hki hk6 hvk _ 0 (Nat.zero_add _) [] s1 M1 rfl hw1 hp1 hil1 hpt1 hcm1 hS1
  · refine x_aload_n rfl rfl rfl ?_
    refine x_iload_n rfl rfl rfl ?_
    exact r_stop2 (f := np) (by unfold rArr; rw [if_pos (by omega)]; rfl) (c_stopAt hG (Nat.le_refl 6) _) (hS0.fo.ui (by simp [fq])) (by simp [ui]) rfl rfl v_2_88 rfl rfl (by decide) rfl rfl (Nat.le_of_ble_eq_true rfl) (by omega)
theorem c_give (hG : Gok G) (hd : 1 ≤ d) {i t m : Nat} (hi : i < 40) (ht : t < 13) (hpt : Pt 10 (-1) 0 [] [] [] i M) (hm : M.1 (6, t) 1 = nI m) (hm3 : m ≤ 3) :
    ∃ M', Ct G mX4_giveTraits d [.ref (ga G (1, 0)), .ref (ga G (8, i)), .int (nI t)] M (.inl none) M' 0 ∧ Pt 10 (nI t) 0 (List.replicate m 0) [] [] i M' ∧ EqF (fun k j => ¬ (8 ≤ k.1 ∧ k.1 ≤ 14 ∧ k.2 = i) ∨ (k.1 = 8 ∧ j = 3)) M M' := by
  have h0 : M.1 (9, i) 1 = nI 0 := hpt.2.2.2.1.1
  have hS : EqF (fun k j => ¬ (8 ≤ k.1 ∧ k.1 ≤ 14 ∧ k.2 = i) ∨ (k.1 = 8 ∧ j = 3)) M (ui M (8, i) 4 (nI t)) := EqF.rf.ui (by simp)
  have hq : Pt 10 (nI t) 0 [] [] [] i (ui M (8, i) 4 (nI t)) := by
    have he : EqF (fun k j => k.1 ≠ 8) M (ui M (8, i) 4 (nI t)) := EqF.rf.ui (by simp)
    obtain ⟨a1, a2, a3, a4, a5, a6⟩ := hpt
    exact ⟨by simpa [ui] using a1, by simp [ui], a3, a4.eqF he (by simp) (fun j => by simp), a5.eqF he (by simp) (fun j => by simp), a6.eqF he (by simp) (fun j => by simp)⟩
  rcases (show m = 0 ∨ m = 1 ∨ m = 2 ∨ m = 3 by omega) with rfl | rfl | rfl | rfl
  · exact ⟨_, c_giveTraits0 hG hd hi ht h0 hm, hq, hS⟩
  · exact ⟨_, c_giveTraits1 hG hd hi ht h0 hm, hq.aL (e := 0), (hS.ul (by simp)).ui (by simp)⟩
  · exact ⟨_, c_giveTraits2 hG hd hi ht h0 hm, (hq.aL (e := 0)).aL (e := 0), (((hS.ul (by simp)).ui (by simp)).ul (by simp)).ui (by simp)⟩
  · exact ⟨_, c_giveTraits3 hG hd hi ht h0 hm, ((hq.aL (e := 0)).aL (e := 0)).aL (e := 0), (((((hS.ul (by simp)).ui (by simp)).ul (by simp)).ui (by simp)).ul (by simp)).ui (by simp)⟩
theorem set_rep {acc : List Int64} {n : Nat} {e : Int64} : (acc ++ List.replicate (n + 1) 0).set acc.length e = (acc ++ [e]) ++ List.replicate n 0 := by
  rw [List.replicate_succ, List.set_append_right _ _ (Nat.le_refl _), Nat.sub_self]; simp
set_option maxHeartbeats 4000000 in
theorem l_ro (hG : Gok G) (hd : 11 ≤ d) {row : List Nat} {al : List Int64} {s9 : RS} {i dp dv nn np t : Nat} {rec : Rec} (hrec : RV G row al dv dp rec) (hpre : RecPre rec) (hdv : dv + 2 ≤ d) (hi40 : i < 40) {y : Th} (hy : (pH s9)[i]? = some y) (hki : tK y = 10) {y2 : Tr} (hl3 : (rM y2).length ≤ 3) {M9 : Mm} : ∀ (n c : Nat), c + n = (rM y2).length → ∀ (acc : List Int64) (s0 : RS) (M : Mm), acc.length = c → RdC row al s0 M → Pre s9 s0 → (pT s0)[t]? = some y2 → i < (pH s0).length → Pt 10 (nI t) 0 (acc ++ List.replicate n 0) [] [] i M → Cmp (i + 1) s0 M → EqF (onDi s9 i) M9 M → FR2 G mX2_readObject d M9 (onDi s9 i) (fun _ s' M' => RdC row al s' M' ∧ Cmp i s' M') vNo (rb (rItems rec n acc s0) fun z => if rD y2 = true then rb (rPairs row rec (rM y2) 7 [] [] z.2) fun q => .inr ((), setH i (10, 0, t, z.1, q.1.1, q.1.2) q.2) else .inr ((), setH i (10, 0, t, z.1, [], []) z.2)) 17 [(0, .ref (ga G (27, 0))), (1, .ref (ga G (8, i))), (2, .int (nI nn)), (3, .int (nI np)), (4, .int (nI dp)), (5, .int (nI c))] [] M := by
  intro n
  induction n with
  | zero =>
    intro c hc acc s0 M hal hw0 hp0 hyt hil0 hpt0 hcm0 hS0
    rw [List.replicate_zero, List.append_nil] at hpt0
    have hyc := hw0.2.2.1.2.2.2.2.2.1 t y2 hyt
    have ht12 := Nat.lt_of_lt_of_le (at_lt hyt) hw0.2.2.2.1.2.1
    show FR2 G mX2_readObject d M9 (onDi s9 i) _ vNo (if rD y2 = true then rb (rPairs row rec (rM y2) 7 [] [] s0) fun q => .inr ((), setH i (10, 0, t, acc, q.1.1, q.1.2) q.2) else .inr ((), setH i (10, 0, t, acc, [], []) s0)) 17 _ [] M
    refine x_iload rfl rfl rfl ?_
    refine x_aload_n rfl rfl rfl ?_
    refine x_getRi rfl rfl f_2_143 rfl (by show _ < 40; omega) rfl rfl ?_
    refine x_getIv (v := nI (acc.length)) hpt0.2.2.2.1.1 rfl rfl f_2_160 rfl (by show _ < 40; omega) rfl ?_
    refine x_icmpN_ge (by omega) (by omega) rfl rfl (fun hc1 => ?_) (fun hc1 => absurd hc1 (by omega))
    refine x_aload_n rfl rfl rfl ?_
    refine x_getR0 rfl rfl f_2_30 rfl (by decide) rfl rfl ?_
    refine x_aload_n rfl rfl rfl ?_
    refine x_callVi (d2 := 0) (c_chp10 (t := t) hG (by omega) (by omega) (rD y2 = true) hpt0.1 hpt0.2.1 hyc.2.1) rfl rfl v_2_167 rfl rfl (by decide) rfl rfl (Nat.le_of_ble_eq_true rfl) (by omega) (by omega) ?_
    refine x_ifB_eq rfl rfl (fun hc2 => ?_) (fun hc2 => ?_)
    · exact r_retV2 (if_neg hc2) hS0 (fin_th (t := t) (tr := nI t) hw0 hcm0 hpt0 rfl (by show acc.length ≤ 8; omega) (by decide) rfl (by decide) hy hp0 hki) rfl rfl rfl
    · rw [if_pos hc2]
      refine x_aload_n rfl rfl rfl ?_
      refine x_aload_n rfl rfl rfl ?_
      refine x_iload rfl rfl rfl ?_
      refine r_call2 (d2 := (d - 1)) (c_readPairs10 (d := d - 1) hG (by omega) hrec hpre (by omega) hi40 hyt rfl hw0 hil0 hpt0 hcm0) hS0 (fun k j z => ⟨onD_pre hp0 z.1, z.2⟩) rfl rfl v_2_146 rfl rfl (by decide) rfl rfl (Nat.le_of_ble_eq_true rfl) (by omega) (fun b1 s1 M1 e1 hq1 hE1 hS1 => ?_)
      obtain ⟨hw1, hpq1, hil1, hpt1, hcm1, hk6, hvk⟩ := hq1
      have hp1 := hp0.tr hpq1
      exact r_retV2 rfl hS1 (fin_th (t := t) (tr := nI t) hw1 hcm1 hpt1 rfl (by show acc.length ≤ 8; omega) hk6 hvk (by decide) hy hp1 hki) rfl rfl rfl
  | succ n ih =>
    intro c hc acc s0 M hal hw0 hp0 hyt hil0 hpt0 hcm0 hS0
    have hlr : (acc ++ List.replicate (n + 1) (0 : Int64)).length = (rM y2).length := by simp; omega
    rw [show rItems rec (n + 1) acc s0 = rb (rec s0) (fun q => rItems rec n (acc ++ [q.1]) q.2) from rfl, rb_assoc]
    refine x_iload rfl rfl rfl ?_
    refine x_aload_n rfl rfl rfl ?_
    refine x_getRi rfl rfl f_2_143 rfl (by show _ < 40; omega) rfl rfl ?_
    refine x_getIv (v := nI (((acc ++ List.replicate (n + 1) (0 : Int64))).length)) hpt0.2.2.2.1.1 rfl rfl f_2_160 rfl (by show _ < 40; omega) rfl ?_
    refine x_topI (v := nI ((rM y2).length)) (by rw [hlr]) ?_
    refine x_icmpN_ge (by omega) (by omega) rfl rfl (fun hc1 => absurd hc1 (by omega)) (fun hc1 => ?_)
    refine x_aload_n rfl rfl rfl ?_
    refine x_getRi rfl rfl f_2_143 rfl (by show _ < 40; omega) rfl rfl ?_
    refine x_iload rfl rfl rfl ?_
    refine x_aload_n rfl rfl rfl ?_
    refine x_iload rfl rfl rfl ?_
    refine r_call2 (d2 := dv) (hrec s0 _ hw0) hS0 (fun k j z => onD_pre hp0 z.1) rfl rfl v_2_150 rfl rfl (by decide) rfl rfl (Nat.le_of_ble_eq_true rfl) (by omega) (fun b1 s1 M1 e1 hq1 hE1 hS1 => ?_)
    have hw1 := hq1.1
    have hpr1 := hpre _ _ _ e1
    have hpt1 := hpt0.eqF hE1 (fun r h1 h2 j => by have := hil0; unfold onD; simp; omega)
    have hcm1 := hcm0.step hpr1 hE1 hq1.2
    have hp1 := hp0.tr hpr1
    have hil1 := Nat.lt_of_lt_of_le hil0 hpr1.2.2.2
    refine x_callVv (d2 := 0) (c_LL_replace (len := (acc ++ List.replicate (n + 1) (0 : Int64)).length) hG (lk_9 (by omega)) c (b1) hpt1.2.2.2.1.1 (by rw [hlr]; omega) (by rw [hlr]; omega)) rfl rfl v_2_163 rfl rfl (by show _ < 40; omega) rfl rfl (Nat.le_of_ble_eq_true rfl) (by omega) (by omega) ?_
    have hpt2 := hpt1.sL (e := b1) (c := c) (by rw [hlr]; omega)
    rw [← hal, set_rep] at hpt2
    have hSt2 : EqF (fun k _ => ¬ (9 ≤ k.1 ∧ k.1 ≤ 14 ∧ k.2 = i)) M1 (ul M1 (10, i) c (b1)) := EqF.rf.ul (by simp)
    have hw2 := hw1.eqT (hSt2.sub fun k j z => by omega)
    have hcm2 := hcm1.eq (Nat.lt_succ_self i) (hSt2.sub fun k j z => by omega)
    have hS2 := hS1.tr (hSt2.sub fun k j z => by unfold onDi at z; omega)
    have hp2 := hp1
    have hil2 := hil1
    refine x_iincN (a := c) (b := 1) rfl rfl rfl rfl rfl ?_
    refine x_goto rfl rfl ?_
    exact ih (c + 1) (by omega) _ s1 _ (by simp; omega) hw2 hp2 (hpr1.Tat hyt) hil2 (hal ▸ hpt2) hcm2 (hal ▸ hS2)
set_option maxHeartbeats 4000000 in
set_option maxRecDepth 20000 in
theorem c_readObject (hG : Gok G) (hd : 11 ≤ d) {row : List Nat} {al : List Int64} {s0 : RS} (hw0 : RdC row al s0 M) {i : Nat} {y : Th} (hy : (pH s0)[i]? = some y) (hki : tK y = 10) (hpt0 : Pt 10 (-1) 0 [] [] [] i M) (hcm0 : Cmp (i + 1) s0 M) {dp dv : Nat} {rec : Rec} (hrec : RV G row al dv dp rec) (hpre : RecPre rec) (hdv : dv + 2 ≤ d) {nn np : Nat} (hnn : nn < 536870912) (hRL : (pR s0).length < (pL s0).length) : CR2 G mX2_readObject d [.ref (ga G (27, 0)), .ref (ga G (8, i)), .int (nI nn), .int (nI np), .int (nI dp)] M (onDi s0 i) (fun _ s' M' => RdC row al s' M' ∧ Cmp i s' M') vNo (rU (rObj row al rec nn np i s0)) := by
  have hS0 : EqF (onDi s0 i) M M := EqF.rf
  have hp0 : Pre s0 s0 := Pre.rf
  have hil0 := at_lt hy
  have hA0 := hw0.2.1.1
  have hL6 := hw0.2.2.2.2.2.2.1
  obtain ⟨i1, i2, i3, i4, i5, i6, i7, i8, i9⟩ := id hw0.2.2.2.1
  have eB : rU (rObj row al rec nn np i s0) = rb (rTr row al nn np s0) (fun t => rb (rItems rec (rM (trAt t.2 t.1)).length [] t.2) fun z => if rD (trAt t.2 t.1) = true then rb (rPairs row rec (rM (trAt t.2 t.1)) 7 [] [] z.2) fun q => .inr ((), setH i (10, 0, t.1, z.1, q.1.1, q.1.2) q.2) else .inr ((), setH i (10, 0, t.1, z.1, [], []) z.2)) := by
    unfold rObj
    rw [rU_rb]
    congr 1; funext t
    rw [rU_rb]
    congr 1; funext z
    split
    · rw [rU_rb]; rfl
    · rfl
  rw [eB]
  refine r_of2 hG okX2_readObject (by decide +kernel) rfl (Nat.le_of_ble_eq_true rfl) ?_
  refine x_aload_n rfl rfl rfl ?_
  refine x_getR0 rfl rfl f_2_30 rfl (by decide) rfl rfl ?_
  refine x_aload_n rfl rfl rfl ?_
  refine x_aload_n rfl rfl rfl ?_
  refine x_iload_n rfl rfl rfl ?_
  refine x_iload_n rfl rfl rfl ?_
  refine r_call2 (d2 := 10) ((c_readTraits (nn := nn) (np := np) hG (Nat.le_refl 10) hw0 hRL hnn).two) hS0 (fun k j z => z.1) rfl rfl v_2_153 rfl rfl (by decide) rfl rfl (Nat.le_of_ble_eq_true rfl) (by omega) (fun b1 s1 M1 e1 hq1 hE1 hS1 => ?_)
  have hw1 := hq1
  have hpp1 := rTr_pre e1 i7
  have hpt1 := hpt0.eqF hE1 (fun r h1 h2 j => by unfold onD; simp; omega)
  have hcm1 := hcm0.step hpp1.1 hE1 (fun j x hj hx => by have hh := rTr_H e1; rw [hh] at hx; exact absurd (at_lt hx) (by omega))
  have hp1 := hp0.tr hpp1.1
  have hil1 := Nat.lt_of_lt_of_le hil0 hpp1.1.2.2.2
  obtain ⟨y2, hyt⟩ : ∃ y2, (pT s1)[b1]? = some y2 := ⟨_, List.getElem?_eq_getElem hpp1.2⟩
  have hyc := hw1.2.2.1.2.2.2.2.2.1 b1 y2 hyt
  have ht12 := Nat.lt_of_lt_of_le hpp1.2 hw1.2.2.2.1.2.1
  obtain ⟨M2, hcg, hpt2, hSg⟩ := c_give (d := 1) hG (Nat.le_refl 1) (by omega) (by omega : b1 < 13) hpt1 hyc.2.2.1.1 hyc.2.2.2
  have hw2 := hw1.eqT (hSg.sub fun k j z => by omega)
  have hcm2 : Cmp (i + 1) s1 M2 := fun j x hj hx => (hcm1 j x hj hx).eqF hSg (fun r h1 h2 j' => by simp; omega)
  have hS2 := hS1.tr (hSg.sub fun k j z => by unfold onDi at z; omega)
  refine x_callVv (d2 := 1) (hcg) rfl rfl v_2_157 rfl rfl (by decide) rfl rfl (Nat.le_of_ble_eq_true rfl) (by omega) (by omega) ?_
  refine x_iconstN (b := 0) rfl rfl ?_
  refine x_istore rfl rfl rfl rfl ?_
  have eT : trAt s1 b1 = y2 := by unfold trAt; rw [hyt]; rfl
  dsimp only
  rw [eT]
  exact l_ro hG hd hrec hpre hdv (by omega) hy hki hyc.2.2.2 _ 0 (Nat.zero_add _) [] s1 M2 rfl hw2 hp1 hyt hil1 hpt2 hcm2 hS2
end R9
