def rU (r : Nat ⊕ RS) : Nat ⊕ (Unit × RS) := rb r fun s => .inr ((), s)
theorem rU_rb {α : Type} (r : Nat ⊕ α) (f : α → Nat ⊕ RS) : rU (rb r f) = rb r fun a => rU (f a) := by cases r <;> rfl
/-- the thing i is complete -/
theorem fin_th {row : List Nat} {al : List Int64} {s0 s : RS} {M : Mm} {i k t : Nat} {b : Int64} {L Y V : List Int64} {tr : Int32} {y : Th} (hw : RdC row al s M) (hc : Cmp (i + 1) s M) (hpt : Pt k tr b L Y V i M) (htr : tr = trv (k, b, t, L, Y, V)) (h1 : L.length ≤ 8) (h2 : Y.length ≤ 6) (h3 : V.length = Y.length) (hk16 : k < 16) (hy : (pH s0)[i]? = some y) (hp : Pre s0 s) (hky : tK y = k) : RdC row al (setH i (k, b, t, L, Y, V) s) M ∧ Cmp i (setH i (k, b, t, L, Y, V) s) M :=
  ⟨hw.set (y := y) ((hp.2.2.1 i (at_lt hy)).trans hy) hky.symm, hc.set (hpt.th htr h1 h2 h3 hk16)⟩
section R7
variable {G : Gd} {d : Nat} {M : Mm}
set_option maxHeartbeats 4000000 in
set_option maxRecDepth 20000 in
theorem c_readDateX (hG : Gok G) (hd : 8 ≤ d) {row : List Nat} {al : List Int64} {s0 : RS} (hw0 : RdC row al s0 M) {i : Nat} {y : Th} (hy : (pH s0)[i]? = some y) (hki : tK y = 8) (hpt0 : Pt 8 (-1) 0 [] [] [] i M) (hcm0 : Cmp (i + 1) s0 M) {nn np : Nat} (hnn : nn < 536870912) (hn1 : ¬ nn = 1) : CR2 G mX2_readDate d [.ref (ga G (27, 0)), .ref (ga G (8, i)), .int (nI nn), .int (nI np)] M (onDi s0 i) (fun _ s' M' => RdC row al s' M' ∧ Cmp i s' M') vNo (rU (rDate row nn np i s0)) := by
  have hS0 : EqF (onDi s0 i) M M := EqF.rf
  have hp0 : Pre s0 s0 := Pre.rf
  have hil0 := at_lt hy
  have hA0 := hw0.2.1.1
  have hL6 := hw0.2.2.2.2.2.2.1
  obtain ⟨i1, i2, i3, i4, i5, i6, i7, i8, i9⟩ := id hw0.2.2.2.1
  refine r_of2 hG okX2_readDate (by decide +kernel) rfl (Nat.le_of_ble_eq_true rfl) ?_
  refine x_iload_n rfl rfl rfl ?_
  refine x_iconstN (b := 1) rfl rfl ?_
  refine x_icmpN_eq (by omega) (by omega) rfl rfl (fun hc1 => absurd hc1 (by omega)) (fun hc1 => ?_)
  refine x_aload_n rfl rfl rfl ?_
  refine x_iload_n rfl rfl rfl ?_
  exact r_stop2 (f := np) (by unfold rDate; rw [if_pos hn1]; rfl) (c_stopAt hG (Nat.le_refl 6) _) (hS0.fo.ui (by simp [fq])) (by simp [ui]) rfl rfl v_2_88 rfl rfl (by decide) rfl rfl (Nat.le_of_ble_eq_true rfl) (by omega)
set_option maxHeartbeats 4000000 in
set_option maxRecDepth 20000 in
theorem c_readDateO (hG : Gok G) (hd : 8 ≤ d) {row : List Nat} {al : List Int64} {s0 : RS} (hw0 : RdC row al s0 M) {i : Nat} {y : Th} (hy : (pH s0)[i]? = some y) (hki : tK y = 8) (hpt0 : Pt 8 (-1) 0 [] [] [] i M) (hcm0 : Cmp (i + 1) s0 M) {np : Nat} : CR2 G mX2_readDate d [.ref (ga G (27, 0)), .ref (ga G (8, i)), .int (nI 1), .int (nI np)] M (onDi s0 i) (fun _ s' M' => RdC row al s' M' ∧ Cmp i s' M') vNo (rb (rEight row s0) fun q => .inr ((), setH i (8, q.1, 0, [], [], []) q.2)) := by
  have hS0 : EqF (onDi s0 i) M M := EqF.rf
  have hp0 : Pre s0 s0 := Pre.rf
  have hil0 := at_lt hy
  have hA0 := hw0.2.1.1
  have hL6 := hw0.2.2.2.2.2.2.1
  obtain ⟨i1, i2, i3, i4, i5, i6, i7, i8, i9⟩ := id hw0.2.2.2.1
  refine r_of2 hG okX2_readDate (by decide +kernel) rfl (Nat.le_of_ble_eq_true rfl) ?_
  refine x_iload_n rfl rfl rfl ?_
  refine x_iconstN (b := 1) rfl rfl ?_
  refine x_icmpN_eq (by omega) (by omega) rfl rfl (fun hc1 => ?_) (fun hc1 => absurd hc1 (by omega))
  refine x_aload_n rfl rfl rfl ?_
  refine x_aload_n rfl rfl rfl ?_
  refine r_call2 (d2 := 7) ((c_readEight hG (Nat.le_refl 7) hw0).two) hS0 (fun k j z => by unfold onDi onD at z; unfold onA; omega) rfl rfl v_2_100 rfl rfl (by decide) rfl rfl (Nat.le_of_ble_eq_true rfl) (by omega) (fun b1 s1 M1 e1 hq1 hE1 hS1 => ?_)
  have hz1 : s1.2.2 = s0.2.2 := by rw [rEightF_2 e1]
  have hw1 := hq1
  have hpt1 := hpt0.eqF hE1 (fun r h1 h2 j => by unfold onA; simp; omega)
  have hcm1 := hcm0.leaf hz1 hE1
  have hp1 := hp0.tr (Pre.of2 hz1)
  refine x_putL rfl rfl f_2_139 rfl rfl (by show _ < 40; omega) rfl ?_
  exact r_retV2 rfl (hS1.ul (by unfold onDi onD; simp)) (fin_th (t := 0) (tr := -1) (hw1.eqT (EqF.rf.ul (by simp))) (hcm1.eq (Nat.lt_succ_self i) (EqF.rf.ul (by simp))) ⟨by simpa [ul] using hpt1.1, by simpa [ul] using hpt1.2.1, by simp [ul], hpt1.2.2.2.1.eqF (on := fun k _ => k.1 ≠ 8) (EqF.rf.ul (by simp)) (by simp) (fun j => by simp), hpt1.2.2.2.2.1.eqF (on := fun k _ => k.1 ≠ 8) (EqF.rf.ul (by simp)) (by simp) (fun j => by simp), hpt1.2.2.2.2.2.eqF (on := fun k _ => k.1 ≠ 8) (EqF.rf.ul (by simp)) (by simp) (fun j => by simp)⟩ rfl (by decide) (by decide) rfl (by decide) hy hp1 hki) rfl rfl rfl
theorem c_readDate (hG : Gok G) (hd : 8 ≤ d) {row : List Nat} {al : List Int64} {s0 : RS} (hw0 : RdC row al s0 M) {i : Nat} {y : Th} (hy : (pH s0)[i]? = some y) (hki : tK y = 8) (hpt0 : Pt 8 (-1) 0 [] [] [] i M) (hcm0 : Cmp (i + 1) s0 M) {nn np : Nat} (hnn : nn < 536870912) : CR2 G mX2_readDate d [.ref (ga G (27, 0)), .ref (ga G (8, i)), .int (nI nn), .int (nI np)] M (onDi s0 i) (fun _ s' M' => RdC row al s' M' ∧ Cmp i s' M') vNo (rU (rDate row nn np i s0)) := by
  by_cases h : nn = 1
  · subst h
    have hz := c_readDateO (np := np) hG hd hw0 hy hki hpt0 hcm0
    unfold rDate
    rw [if_neg (by simp), rU_rb]
    exact hz
  · exact c_readDateX hG hd hw0 hy hki hpt0 hcm0 hnn h
set_option maxHeartbeats 4000000 in
theorem l_rby (hG : Gok G) (hd : 8 ≤ d) {row : List Nat} {al : List Int64} {s9 : RS} {i m np : Nat} {y : Th} (hy : (pH s9)[i]? = some y) (hki : tK y = 12) (hm : m ≤ 8) (hi40 : i < 40) {M9 : Mm} : ∀ (n c : Nat), c + n = m → ∀ (acc : List Int64) (s0 : RS) (M : Mm), acc.length = c → RdC row al s0 M → Pre s9 s0 → i < (pH s0).length → Pt 12 (-1) 0 acc [] [] i M → Cmp (i + 1) s0 M → EqF (onDi s9 i) M9 M → FR2 G mX2_readBytes d M9 (onDi s9 i) (fun _ s' M' => RdC row al s' M' ∧ Cmp i s' M') vNo (rb (rBy row n acc s0) fun q => .inr ((), setH i (12, 0, 0, q.1, [], []) q.2)) 14 [(0, .ref (ga G (27, 0))), (1, .ref (ga G (8, i))), (2, .int (nI m)), (3, .int (nI np)), (4, .int (nI c))] [] M := by
  intro n
  induction n with
  | zero =>
    intro c hc acc s0 M hal hw0 hp0 hil0 hpt0 hcm0 hS0
    refine x_iload rfl rfl rfl ?_
    refine x_iload_n rfl rfl rfl ?_
    refine x_icmpN_ge (by omega) (by omega) rfl rfl (fun hc1 => ?_) (fun hc1 => absurd hc1 (by omega))
    exact r_retV2 rfl hS0 (fin_th (t := 0) (tr := -1) hw0 hcm0 hpt0 rfl (by show acc.length ≤ 8; omega) (by decide) rfl (by decide) hy hp0 hki) rfl rfl rfl
  | succ n ih =>
    intro c hc acc s0 M hal hw0 hp0 hil0 hpt0 hcm0 hS0
    rw [show rBy row (n + 1) acc s0 = rb (rByte row s0) (fun q => rBy row n (acc ++ [16 * lN q.1 + 4]) q.2) from rfl, rb_assoc]
    refine x_iload rfl rfl rfl ?_
    refine x_iload_n rfl rfl rfl ?_
    refine x_icmpN_ge (by omega) (by omega) rfl rfl (fun hc1 => absurd hc1 (by omega)) (fun hc1 => ?_)
    refine x_aload_n rfl rfl rfl ?_
    refine x_getRi rfl rfl f_2_143 rfl (by show _ < 40; omega) rfl rfl ?_
    refine x_iconstN (b := 4) rfl rfl ?_
    refine x_aload_n rfl rfl rfl ?_
    refine r_call2 (d2 := 6) ((c_readByte hG (Nat.le_refl 6) hw0).two) hS0 (fun k j z => by unfold onDi onD at z; unfold onA; omega) rfl rfl v_2_65 rfl rfl (by decide) rfl rfl (Nat.le_of_ble_eq_true rfl) (by omega) (fun b1 s1 M1 e1 hq1 hE1 hS1 => ?_)
    have hz1 : s1.2.2 = s0.2.2 := by rw [(rByte_inr e1).1]
    have hb1 := b256 hq1 e1
    have hw1 := hq1
    have hpt1 := hpt0.eqF hE1 (fun r h1 h2 j => by unfold onA; simp; omega)
    have hcm1 := hcm0.leaf hz1 hE1
    have hp1 := hp0.tr (Pre.of2 hz1)
    have hil1 := Nat.lt_of_lt_of_le hil0 (Pre.of2 hz1).2.2.2
    refine x_i2lN (a := b1) (by omega) rfl rfl ?_
    refine x_callSl (d2 := 0) (c_valueOf hG (nI 4) (lN (b1))) rfl rfl s_2_80 rfl rfl (Nat.le_of_ble_eq_true rfl) (by omega) (by omega) ?_
    refine x_topL (v := 16 * (lN (b1)) + 4) (by rw [show (nI 4).toInt64 = 4 by decide +kernel]) ?_
    refine x_callVv (d2 := 0) (c_LL_add (len := acc.length) hG (lk_9 (by omega)) (16 * (lN (b1)) + 4) hpt1.2.2.2.1.1 (by omega)) rfl rfl v_2_114 rfl rfl (by show _ < 40; omega) rfl rfl (Nat.le_of_ble_eq_true rfl) (by omega) (by omega) ?_
    have hpt2 := hpt1.aL (e := 16 * (lN (b1)) + 4)
    have hSt2 : EqF (fun k _ => ¬ (9 ≤ k.1 ∧ k.1 ≤ 14 ∧ k.2 = i)) M1 (ui (ul M1 (10, i) acc.length (16 * (lN (b1)) + 4)) (9, i) 1 (nI (acc.length + 1))) := (EqF.rf.ul (by simp)).ui (by simp)
    have hw2 := hw1.eqT (hSt2.sub fun k j z => by omega)
    have hcm2 := hcm1.eq (Nat.lt_succ_self i) (hSt2.sub fun k j z => by omega)
    have hS2 := hS1.tr (hSt2.sub fun k j z => by unfold onDi at z; omega)
    have hp2 := hp1
    have hil2 := hil1
    refine x_iincN (a := c) (b := 1) rfl rfl rfl rfl rfl ?_
    refine x_goto rfl rfl ?_
    exact ih (c + 1) (by omega) _ s1 _ (by simp; omega) hw2 hp2 hil2 hpt2 hcm2 hS2
set_option maxHeartbeats 4000000 in
set_option maxRecDepth 20000 in
theorem c_readBytes (hG : Gok G) (hd : 8 ≤ d) {row : List Nat} {al : List Int64} {s0 : RS} (hw0 : RdC row al s0 M) {i : Nat} {y : Th} (hy : (pH s0)[i]? = some y) (hki : tK y = 12) (hpt0 : Pt 12 (-1) 0 [] [] [] i M) (hcm0 : Cmp (i + 1) s0 M) {m np : Nat} (hm : m < 536870912) : CR2 G mX2_readBytes d [.ref (ga G (27, 0)), .ref (ga G (8, i)), .int (nI m), .int (nI np)] M (onDi s0 i) (fun _ s' M' => RdC row al s' M' ∧ Cmp i s' M') vNo (rU (rBytes row m np i s0)) := by
  have hS0 : EqF (onDi s0 i) M M := EqF.rf
  have hp0 : Pre s0 s0 := Pre.rf
  have hil0 := at_lt hy
  have hA0 := hw0.2.1.1
  have hL6 := hw0.2.2.2.2.2.2.1
  obtain ⟨i1, i2, i3, i4, i5, i6, i7, i8, i9⟩ := id hw0.2.2.2.1
  refine r_of2 hG okX2_readBytes (by decide +kernel) rfl (Nat.le_of_ble_eq_true rfl) ?_
  refine x_iload_n rfl rfl rfl ?_
  refine x_bipush (v := nI 8) rfl rfl (by decide +kernel) ?_
  refine x_icmpN_le (by omega) (by omega) rfl rfl (fun hc1 => ?_) (fun hc1 => ?_)
  · refine x_iconstN (b := 0) rfl rfl ?_
    refine x_istore rfl rfl rfl rfl ?_
    have eB : rU (rBytes row m np i s0) = rb (rBy row m [] s0) (fun q => .inr ((), setH i (12, 0, 0, q.1, [], []) q.2)) := by unfold rBytes; rw [if_neg (by omega), rU_rb]; rfl
    rw [eB]
    exact l_rby hG hd hy hki (by omega) (by omega) _ 0 (Nat.zero_add _) [] s0 M rfl hw0 hp0 hil0 hpt0 hcm0 hS0
  · refine x_aload_n rfl rfl rfl ?_
    refine x_iload_n rfl rfl rfl ?_
    exact r_stop2 (f := np) (by unfold rBytes; rw [if_pos (by omega)]; rfl) (c_stopAt hG (Nat.le_refl 6) _) (hS0.fo.ui (by simp [fq])) (by simp [ui]) rfl rfl v_2_88 rfl rfl (by decide) rfl rfl (Nat.le_of_ble_eq_true rfl) (by omega)
end R7
