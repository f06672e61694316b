def RV (G : Gd) (row : List Nat) (al : List Int64) (dv dp : Nat) (rec : Rec) : Prop := ∀ (s : RS) (M : Mm), RdC row al s M → CR2 G mX2_readValue dv [.ref (ga G (27, 0)), .int (nI dp)] M (onD s) (fun _ s' M' => RdC row al s' M' ∧ Cmp (pH s).length s' M') vLng (rec s)
section R8
variable {G : Gd} {d : Nat} {M : Mm}
set_option maxHeartbeats 4000000 in
theorem l_rp9 (hG : Gok G) (hd : 9 ≤ d) {row : List Nat} {al : List Int64} {s9 : RS} {i dp dv : Nat} {rec : Rec} (hrec : RV G row al dv dp rec) (hpre : RecPre rec) (hdv : dv + 1 ≤ d) (hi40 : i < 40) {tr : Int32} {b : Int64} {L : List Int64} {M9 : Mm} : ∀ (n c : Nat), c + n = 6 → ∀ (ks vs : List Int64) (s0 : RS) (M : Mm), ks.length = c → vs.length = c → RdC row al s0 M → Pre s9 s0 → i < (pH s0).length → Pt 9 tr b L ks vs i M → Cmp (i + 1) s0 M → EqF (onDi s9 i) M9 M → FR2 G mX2_readPairs d M9 (onDi s9 i) (fun (q : List Int64 × List Int64) s' M' => RdC row al s' M' ∧ Pre s9 s' ∧ i < (pH s').length ∧ Pt 9 tr b L q.1 q.2 i M' ∧ Cmp (i + 1) s' M' ∧ q.1.length ≤ 6 ∧ q.2.length = q.1.length) vNo (rPairs row rec [] (n + 1) ks vs s0) 2 [(0, .ref (ga G (27, 0))), (1, .ref (ga G (8, i))), (2, .int (nI dp)), (3, .int (nI c))] [] M := by
  intro n
  induction n with
  | zero =>
    intro c hc ks vs s0 M hkl hvl hw0 hp0 hil0 hpt0 hcm0 hS0
    have hA0 := hw0.2.1.1
    have hL6 := hw0.2.2.2.2.2.2.1
    unfold rPairs
    refine x_iload_n rfl rfl rfl ?_
    refine x_bipush (v := nI 6) rfl rfl (by decide +kernel) ?_
    refine x_icmpN_gt (by omega) (by omega) rfl rfl (fun hc1 => absurd hc1 (by omega)) (fun hc1 => ?_)
    refine x_aload_n rfl rfl rfl ?_
    refine x_getIv (v := nI (s0.1)) hw0.1.1 rfl rfl f_2_58 rfl (by decide) rfl ?_
    refine x_istore rfl rfl rfl rfl ?_
    refine x_aload_n rfl rfl rfl ?_
    refine r_call2 (d2 := 8) ((c_readString hG (Nat.le_refl 8) hw0).two) hS0 (fun k j z => by unfold onDi onD at z; unfold onA; omega) rfl rfl v_2_77 rfl rfl (by decide) rfl rfl (Nat.le_of_ble_eq_true rfl) (by omega) (fun b1 s1 M1 e1 hq1 hE1 hS1 => ?_)
    have hz1 := (rStr_2 e1).1
    have hx1 := rStr_tx (fun t h => (hw0.2.1.2.2 t h).1) e1
    have hw1 := hq1
    have hpt1 := hpt0.eqF hE1 (fun r h1 h2 j => by unfold onA; simp; omega)
    have hcm1 := hcm0.leaf hz1 hE1
    have hp1 := hp0.tr (Pre.of2 hz1)
    have hil1 := Nat.lt_of_lt_of_le hil0 (Pre.of2 hz1).2.2.2
    dsimp only
    refine x_lstore rfl rfl rfl rfl ?_
    refine x_lload rfl rfl rfl ?_
    refine x_lconst (v := 0) rfl rfl (by decide +kernel) ?_
    refine x_lc_ne rfl rfl rfl rfl (fun hc2 => ?_) (fun hc2 => ?_)
    · refine x_iload_n rfl rfl rfl ?_
      refine x_bipush (v := nI 6) rfl rfl (by decide +kernel) ?_
      refine x_icmpN_eq (by omega) (by omega) rfl rfl (fun hc3 => ?_) (fun hc3 => absurd hc3 (by omega))
      refine x_aload_n rfl rfl rfl ?_
      refine x_iload rfl rfl rfl ?_
      exact r_stop2 (f := s0.1) (by rw [if_neg hc2, if_pos (Or.inl (by omega))]) (c_stopAt hG (Nat.le_refl 6) _) (hS1.fo.ui (by simp [fq])) (by simp [ui]) rfl rfl v_2_88 rfl rfl (by decide) rfl rfl (Nat.le_of_ble_eq_true rfl) (by omega)
    · exact r_retV2 (by rw [if_pos hc2]) hS1 ⟨hw1, hp1, hil1, hpt1, hcm1, by show ks.length ≤ 6; omega, by show vs.length = ks.length; omega⟩ rfl rfl rfl
  | succ n ih =>
    intro c hc ks vs s0 M hkl hvl hw0 hp0 hil0 hpt0 hcm0 hS0
    have hA0 := hw0.2.1.1
    have hL6 := hw0.2.2.2.2.2.2.1
    rw [show rPairs row rec [] (n + 1 + 1) ks vs s0 = rb (rStr row s0) (fun q => if q.1 = 0 then .inr ((ks, vs), q.2) else if ks.length = 6 ∨ q.1 ∈ ks ∨ q.1 ∈ [] then .inl s0.1 else rb (rec q.2) fun z => rPairs row rec [] (n + 1) (ks ++ [q.1]) (vs ++ [z.1]) z.2) from rfl]
    refine x_iload_n rfl rfl rfl ?_
    refine x_bipush (v := nI 6) rfl rfl (by decide +kernel) ?_
    refine x_icmpN_gt (by omega) (by omega) rfl rfl (fun hc1 => absurd hc1 (by omega)) (fun hc1 => ?_)
    refine x_aload_n rfl rfl rfl ?_
    refine x_getIv (v := nI (s0.1)) hw0.1.1 rfl rfl f_2_58 rfl (by decide) rfl ?_
    refine x_istore rfl rfl rfl rfl ?_
    refine x_aload_n rfl rfl rfl ?_
    refine r_call2 (d2 := 8) ((c_readString hG (Nat.le_refl 8) hw0).two) hS0 (fun k j z => by unfold onDi onD at z; unfold onA; omega) rfl rfl v_2_77 rfl rfl (by decide) rfl rfl (Nat.le_of_ble_eq_true rfl) (by omega) (fun b1 s1 M1 e1 hq1 hE1 hS1 => ?_)
    have hz1 := (rStr_2 e1).1
    have hx1 := rStr_tx (fun t h => (hw0.2.1.2.2 t h).1) e1
    have hw1 := hq1
    have hpt1 := hpt0.eqF hE1 (fun r h1 h2 j => by unfold onA; simp; omega)
    have hcm1 := hcm0.leaf hz1 hE1
    have hp1 := hp0.tr (Pre.of2 hz1)
    have hil1 := Nat.lt_of_lt_of_le hil0 (Pre.of2 hz1).2.2.2
    dsimp only
    refine x_lstore rfl rfl rfl rfl ?_
    refine x_lload rfl rfl rfl ?_
    refine x_lconst (v := 0) rfl rfl (by decide +kernel) ?_
    refine x_lc_ne rfl rfl rfl rfl (fun hc2 => ?_) (fun hc2 => ?_)
    · refine x_iload_n rfl rfl rfl ?_
      refine x_bipush (v := nI 6) rfl rfl (by decide +kernel) ?_
      refine x_icmpN_eq (by omega) (by omega) rfl rfl (fun hc3 => ?_) (fun hc3 => ?_)
      · refine x_aload_n rfl rfl rfl ?_
        refine x_iload rfl rfl rfl ?_
        exact r_stop2 (f := s0.1) (by rw [if_neg hc2, if_pos (Or.inl (by omega))]) (c_stopAt hG (Nat.le_refl 6) _) (hS1.fo.ui (by simp [fq])) (by simp [ui]) rfl rfl v_2_88 rfl rfl (by decide) rfl rfl (Nat.le_of_ble_eq_true rfl) (by omega)
      · refine x_aload_n rfl rfl rfl ?_
        refine x_getRi rfl rfl f_2_196 rfl (by show _ < 40; omega) rfl rfl ?_
        refine x_lload rfl rfl rfl ?_
        refine x_callVi (d2 := 1) (c_LL_has (len := ks.length) hG (lk_11 (by omega)) b1 hpt1.2.2.2.2.1.1 (by omega) (by decide) (Nat.le_refl 1)) rfl rfl v_2_174 rfl rfl (by show _ < 40; omega) rfl rfl (Nat.le_of_ble_eq_true rfl) (by omega) (by omega) ?_
        refine x_topI (v := bI (b1 ∈ ks)) (bI_iff (fx_has hpt1.2.2.2.2.1.2)) ?_
        refine x_ifB_ne rfl rfl (fun hc4 => ?_) (fun hc4 => ?_)
        · refine x_aload_n rfl rfl rfl ?_
          refine x_iload rfl rfl rfl ?_
          exact r_stop2 (f := s0.1) (by rw [if_neg hc2, if_pos (Or.inr (Or.inl hc4))]) (c_stopAt hG (Nat.le_refl 6) _) (hS1.fo.ui (by simp [fq])) (by simp [ui]) rfl rfl v_2_88 rfl rfl (by decide) rfl rfl (Nat.le_of_ble_eq_true rfl) (by omega)
        · refine x_aload_n rfl rfl rfl ?_
          refine x_getR0 rfl rfl f_2_30 rfl (by decide) rfl rfl ?_
          refine x_aload_n rfl rfl rfl ?_
          refine x_lload rfl rfl rfl ?_
          refine x_callVi (d2 := 0) (c_isMemberO (kd := 9) hG (by omega) (by decide) b1 hpt1.1 (by decide)) rfl rfl v_2_199 rfl rfl (by decide) rfl rfl (Nat.le_of_ble_eq_true rfl) (by omega) (by omega) ?_
          refine x_if_eq rfl rfl (fun _ => ?_) (fun hc5 => absurd hc5 (by decide +kernel))
          rw [if_neg hc2, if_neg (fun z => z.elim (by omega) (fun z => z.elim hc4 (by simp)))]
          refine x_aload_n rfl rfl rfl ?_
          refine x_getRi rfl rfl f_2_196 rfl (by show _ < 40; omega) rfl rfl ?_
          refine x_lload rfl rfl rfl ?_
          refine x_callVv (d2 := 0) (c_LL_add (len := ks.length) hG (lk_11 (by omega)) (b1) hpt1.2.2.2.2.1.1 (by omega)) rfl rfl v_2_114 rfl rfl (by show _ < 40; omega) rfl rfl (Nat.le_of_ble_eq_true rfl) (by omega) (by omega) ?_
          have hpt2 := hpt1.aY (e := b1)
          have hSt2 : EqF (fun k _ => ¬ (9 ≤ k.1 ∧ k.1 ≤ 14 ∧ k.2 = i)) M1 (ui (ul M1 (12, i) ks.length (b1)) (11, i) 1 (nI (ks.length + 1))) := (EqF.rf.ul (by simp)).ui (by simp)
          have hw2 := hw1.eqT (hSt2.sub fun k j z => by omega)
          have hcm2 := hcm1.eq (Nat.lt_succ_self i) (hSt2.sub fun k j z => by omega)
          have hS2 := hS1.tr (hSt2.sub fun k j z => by unfold onDi at z; omega)
          have hp2 := hp1
          have hil2 := hil1
          refine x_aload_n rfl rfl rfl ?_
          refine x_getRi rfl rfl f_2_203 rfl (by show _ < 40; omega) rfl rfl ?_
          refine x_aload_n rfl rfl rfl ?_
          refine x_iload_n rfl rfl rfl ?_
          refine r_call2 (d2 := dv) (hrec s1 _ hw2) hS2 (fun k j z => onD_pre hp2 z.1) rfl rfl v_2_150 rfl rfl (by decide) rfl rfl (Nat.le_of_ble_eq_true rfl) (by omega) (fun b3 s3 M3 e3 hq3 hE3 hS3 => ?_)
          have hw3 := hq3.1
          have hpr3 := hpre _ _ _ e3
          have hpt3 := hpt2.eqF hE3 (fun r h1 h2 j => by have := hil2; unfold onD; simp; omega)
          have hcm3 := hcm2.step hpr3 hE3 hq3.2
          have hp3 := hp2.tr hpr3
          have hil3 := Nat.lt_of_lt_of_le hil2 hpr3.2.2.2
          refine x_callVv (d2 := 0) (c_LL_add (len := vs.length) hG (lk_13 (by omega)) (b3) hpt3.2.2.2.2.2.1 (by omega)) rfl rfl v_2_114 rfl rfl (by show _ < 40; omega) rfl rfl (Nat.le_of_ble_eq_true rfl) (by omega) (by omega) ?_
          have hpt4 := hpt3.aV (e := b3)
          have hSt4 : EqF (fun k _ => ¬ (9 ≤ k.1 ∧ k.1 ≤ 14 ∧ k.2 = i)) M3 (ui (ul M3 (14, i) vs.length (b3)) (13, i) 1 (nI (vs.length + 1))) := (EqF.rf.ul (by simp)).ui (by simp)
          have hw4 := hw3.eqT (hSt4.sub fun k j z => by omega)
          have hcm4 := hcm3.eq (Nat.lt_succ_self i) (hSt4.sub fun k j z => by omega)
          have hS4 := hS3.tr (hSt4.sub fun k j z => by unfold onDi at z; omega)
          have hp4 := hp3
          have hil4 := hil3
          refine x_iincN (a := c) (b := 1) rfl rfl rfl rfl rfl ?_
          refine x_goto rfl rfl ?_
          refine x_pick [0, 1, 2, 3] rfl ?_
          exact ih (c + 1) (by omega) _ _ s3 _ (by simp; omega) (by simp; omega) hw4 hp4 hil4 hpt4 hcm4 hS4
    · exact r_retV2 (by rw [if_pos hc2]) hS1 ⟨hw1, hp1, hil1, hpt1, hcm1, by show ks.length ≤ 6; omega, by show vs.length = ks.length; omega⟩ rfl rfl rfl
set_option maxHeartbeats 4000000 in
set_option maxRecDepth 20000 in
theorem c_readPairs9 (hG : Gok G) (hd : 9 ≤ d) {row : List Nat} {al : List Int64} {s0 : RS} {i dp dv : Nat} {rec : Rec} (hrec : RV G row al dv dp rec) (hpre : RecPre rec) (hdv : dv + 1 ≤ d) (hi40 : i < 40) {tr : Int32} {b : Int64} {L : List Int64} (hw0 : RdC row al s0 M) (hil0 : i < (pH s0).length) (hpt0 : Pt 9 tr b L [] [] i M) (hcm0 : Cmp (i + 1) s0 M) : CR2 G mX2_readPairs d [.ref (ga G (27, 0)), .ref (ga G (8, i)), .int (nI dp)] M (onDi s0 i) (fun (q : List Int64 × List Int64) s' M' => RdC row al s' M' ∧ Pre s0 s' ∧ i < (pH s').length ∧ Pt 9 tr b L q.1 q.2 i M' ∧ Cmp (i + 1) s' M' ∧ q.1.length ≤ 6 ∧ q.2.length = q.1.length) vNo (rPairs row rec [] 7 [] [] s0) := by
  refine r_of2 hG okX2_readPairs (by decide +kernel) rfl (Nat.le_of_ble_eq_true rfl) ?_
  refine x_iconstN (b := 0) rfl rfl ?_
  refine x_istore_n rfl rfl rfl rfl ?_
  exact l_rp9 hG hd hrec hpre hdv hi40 6 0 rfl [] [] s0 M rfl rfl hw0 Pre.rf hil0 hpt0 hcm0 EqF.rf
set_option maxHeartbeats 4000000 in
theorem l_rp10 (hG : Gok G) (hd : 9 ≤ d) {row : List Nat} {al : List Int64} {s9 : RS} {i dp dv : Nat} {rec : Rec} (hrec : RV G row al dv dp rec) (hpre : RecPre rec) (hdv : dv + 1 ≤ d) (hi40 : i < 40) {tr : Int32} {b : Int64} {L : List Int64} {t : Nat} {y2 : Tr} (hyt : (pT s9)[t]? = some y2) (htr : tr = nI t) {M9 : Mm} : ∀ (n c : Nat), c + n = 6 → ∀ (ks vs : List Int64) (s0 : RS) (M : Mm), ks.length = c → vs.length = c → RdC row al s0 M → Pre s9 s0 → i < (pH s0).length → Pt 10 tr b L ks vs i M → Cmp (i + 1) s0 M → EqF (onDi s9 i) M9 M → FR2 G mX2_readPairs d M9 (onDi s9 i) (fun (q : List Int64 × List Int64) s' M' => RdC row al s' M' ∧ Pre s9 s' ∧ i < (pH s').length ∧ Pt 10 tr b L q.1 q.2 i M' ∧ Cmp (i + 1) s' M' ∧ q.1.length ≤ 6 ∧ q.2.length = q.1.length) vNo (rPairs row rec (rM y2) (n + 1) ks vs s0) 2 [(0, .ref (ga G (27, 0))), (1, .ref (ga G (8, i))), (2, .int (nI dp)), (3, .int (nI c))] [] M := by
  intro n
  induction n with
  | zero =>
    intro c hc ks vs s0 M hkl hvl hw0 hp0 hil0 hpt0 hcm0 hS0
    have hA0 := hw0.2.1.1
    have hL6 := hw0.2.2.2.2.2.2.1
    unfold rPairs
    refine x_iload_n rfl rfl rfl ?_
    refine x_bipush (v := nI 6) rfl rfl (by decide +kernel) ?_
    refine x_icmpN_gt (by omega) (by omega) rfl rfl (fun hc1 => absurd hc1 (by omega)) (fun hc1 => ?_)
    refine x_aload_n rfl rfl rfl ?_
    refine x_getIv (v := nI (s0.1)) hw0.1.1 rfl rfl f_2_58 rfl (by decide) rfl ?_
    refine x_istore rfl rfl rfl rfl ?_
    refine x_aload_n rfl rfl rfl ?_
    refine r_call2 (d2 := 8) ((c_readString hG (Nat.le_refl 8) hw0).two) hS0 (fun k j z => by unfold onDi onD at z; unfold onA; omega) rfl rfl v_2_77 rfl rfl (by decide) rfl rfl (Nat.le_of_ble_eq_true rfl) (by omega) (fun b1 s1 M1 e1 hq1 hE1 hS1 => ?_)
    have hz1 := (rStr_2 e1).1
    have hx1 := rStr_tx (fun t h => (hw0.2.1.2.2 t h).1) e1
    have hw1 := hq1
    have hpt1 := hpt0.eqF hE1 (fun r h1 h2 j => by unfold onA; simp; omega)
    have hcm1 := hcm0.leaf hz1 hE1
    have hp1 := hp0.tr (Pre.of2 hz1)
    have hil1 := Nat.lt_of_lt_of_le hil0 (Pre.of2 hz1).2.2.2
    dsimp only
    have hyc := hw1.2.2.1.2.2.2.2.2.1 t y2 (hp1.Tat hyt)
    have hy12 := Nat.lt_of_lt_of_le (at_lt (hp1.Tat hyt)) hw1.2.2.2.1.2.1
    refine x_lstore rfl rfl rfl rfl ?_
    refine x_lload rfl rfl rfl ?_
    refine x_lconst (v := 0) rfl rfl (by decide +kernel) ?_
    refine x_lc_ne rfl rfl rfl rfl (fun hc2 => ?_) (fun hc2 => ?_)
    · refine x_iload_n rfl rfl rfl ?_
      refine x_bipush (v := nI 6) rfl rfl (by decide +kernel) ?_
      refine x_icmpN_eq (by omega) (by omega) rfl rfl (fun hc3 => ?_) (fun hc3 => absurd hc3 (by omega))
      refine x_aload_n rfl rfl rfl ?_
      refine x_iload rfl rfl rfl ?_
      exact r_stop2 (f := s0.1) (by rw [if_neg hc2, if_pos (Or.inl (by omega))]) (c_stopAt hG (Nat.le_refl 6) _) (hS1.fo.ui (by simp [fq])) (by simp [ui]) rfl rfl v_2_88 rfl rfl (by decide) rfl rfl (Nat.le_of_ble_eq_true rfl) (by omega)
    · exact r_retV2 (by rw [if_pos hc2]) hS1 ⟨hw1, hp1, hil1, hpt1, hcm1, by show ks.length ≤ 6; omega, by show vs.length = ks.length; omega⟩ rfl rfl rfl
  | succ n ih =>
    intro c hc ks vs s0 M hkl hvl hw0 hp0 hil0 hpt0 hcm0 hS0
    have hA0 := hw0.2.1.1
    have hL6 := hw0.2.2.2.2.2.2.1
    rw [show rPairs row rec (rM y2) (n + 1 + 1) ks vs s0 = rb (rStr row s0) (fun q => if q.1 = 0 then .inr ((ks, vs), q.2) else if ks.length = 6 ∨ q.1 ∈ ks ∨ q.1 ∈ (rM y2) then .inl s0.1 else rb (rec q.2) fun z => rPairs row rec (rM y2) (n + 1) (ks ++ [q.1]) (vs ++ [z.1]) z.2) from rfl]
    refine x_iload_n rfl rfl rfl ?_
    refine x_bipush (v := nI 6) rfl rfl (by decide +kernel) ?_
    refine x_icmpN_gt (by omega) (by omega) rfl rfl (fun hc1 => absurd hc1 (by omega)) (fun hc1 => ?_)
    refine x_aload_n rfl rfl rfl ?_
    refine x_getIv (v := nI (s0.1)) hw0.1.1 rfl rfl f_2_58 rfl (by decide) rfl ?_
    refine x_istore rfl rfl rfl rfl ?_
    refine x_aload_n rfl rfl rfl ?_
    refine r_call2 (d2 := 8) ((c_readString hG (Nat.le_refl 8) hw0).two) hS0 (fun k j z => by unfold onDi onD at z; unfold onA; omega) rfl rfl v_2_77 rfl rfl (by decide) rfl rfl (Nat.le_of_ble_eq_true rfl) (by omega) (fun b1 s1 M1 e1 hq1 hE1 hS1 => ?_)
    have hz1 := (rStr_2 e1).1
    have hx1 := rStr_tx (fun t h => (hw0.2.1.2.2 t h).1) e1
    have hw1 := hq1
    have hpt1 := hpt0.eqF hE1 (fun r h1 h2 j => by unfold onA; simp; omega)
    have hcm1 := hcm0.leaf hz1 hE1
    have hp1 := hp0.tr (Pre.of2 hz1)
    have hil1 := Nat.lt_of_lt_of_le hil0 (Pre.of2 hz1).2.2.2
    dsimp only
    have hyc := hw1.2.2.1.2.2.2.2.2.1 t y2 (hp1.Tat hyt)
    have hy12 := Nat.lt_of_lt_of_le (at_lt (hp1.Tat hyt)) hw1.2.2.2.1.2.1
    refine x_lstore rfl rfl rfl rfl ?_
    refine x_lload rfl rfl rfl ?_
    refine x_lconst (v := 0) rfl rfl (by decide +kernel) ?_
    refine x_lc_ne rfl rfl rfl rfl (fun hc2 => ?_) (fun hc2 => ?_)
    · refine x_iload_n rfl rfl rfl ?_
      refine x_bipush (v := nI 6) rfl rfl (by decide +kernel) ?_
      refine x_icmpN_eq (by omega) (by omega) rfl rfl (fun hc3 => ?_) (fun hc3 => ?_)
      · refine x_aload_n rfl rfl rfl ?_
        refine x_iload rfl rfl rfl ?_
        exact r_stop2 (f := s0.1) (by rw [if_neg hc2, if_pos (Or.inl (by omega))]) (c_stopAt hG (Nat.le_refl 6) _) (hS1.fo.ui (by simp [fq])) (by simp [ui]) rfl rfl v_2_88 rfl rfl (by decide) rfl rfl (Nat.le_of_ble_eq_true rfl) (by omega)
      · refine x_aload_n rfl rfl rfl ?_
        refine x_getRi rfl rfl f_2_196 rfl (by show _ < 40; omega) rfl rfl ?_
        refine x_lload rfl rfl rfl ?_
        refine x_callVi (d2 := 1) (c_LL_has (len := ks.length) hG (lk_11 (by omega)) b1 hpt1.2.2.2.2.1.1 (by omega) (by decide) (Nat.le_refl 1)) rfl rfl v_2_174 rfl rfl (by show _ < 40; omega) rfl rfl (Nat.le_of_ble_eq_true rfl) (by omega) (by omega) ?_
        refine x_topI (v := bI (b1 ∈ ks)) (bI_iff (fx_has hpt1.2.2.2.2.1.2)) ?_
        refine x_ifB_ne rfl rfl (fun hc4 => ?_) (fun hc4 => ?_)
        · refine x_aload_n rfl rfl rfl ?_
          refine x_iload rfl rfl rfl ?_
          exact r_stop2 (f := s0.1) (by rw [if_neg hc2, if_pos (Or.inr (Or.inl hc4))]) (c_stopAt hG (Nat.le_refl 6) _) (hS1.fo.ui (by simp [fq])) (by simp [ui]) rfl rfl v_2_88 rfl rfl (by decide) rfl rfl (Nat.le_of_ble_eq_true rfl) (by omega)
        · refine x_aload_n rfl rfl rfl ?_
          refine x_getR0 rfl rfl f_2_30 rfl (by decide) rfl rfl ?_
          refine x_aload_n rfl rfl rfl ?_
          refine x_lload rfl rfl rfl ?_
          refine x_callVi (d2 := 2) (c_isMember10 (t := t) (m := (rM y2).length) hG (Nat.le_refl 2) (by omega) (by omega) b1 hpt1.1 (hpt1.2.1.trans htr) hyc.2.2.1.1 hyc.2.2.2) rfl rfl v_2_199 rfl rfl (by decide) rfl rfl (Nat.le_of_ble_eq_true rfl) (by omega) (by omega) ?_
          refine x_topI (v := bI (b1 ∈ rM y2)) (bI_iff (fx_has hyc.2.2.1.2)) ?_
          refine x_ifB_eq rfl rfl (fun hc5 => ?_) (fun hc5 => ?_)
          · rw [if_neg hc2, if_neg (fun z => z.elim (by omega) (fun z => z.elim hc4 hc5))]
            refine x_aload_n rfl rfl rfl ?_
            refine x_getRi rfl rfl f_2_196 rfl (by show _ < 40; omega) rfl rfl ?_
            refine x_lload rfl rfl rfl ?_
            refine x_callVv (d2 := 0) (c_LL_add (len := ks.length) hG (lk_11 (by omega)) (b1) hpt1.2.2.2.2.1.1 (by omega)) rfl rfl v_2_114 rfl rfl (by show _ < 40; omega) rfl rfl (Nat.le_of_ble_eq_true rfl) (by omega) (by omega) ?_
            have hpt2 := hpt1.aY (e := b1)
            have hSt2 : EqF (fun k _ => ¬ (9 ≤ k.1 ∧ k.1 ≤ 14 ∧ k.2 = i)) M1 (ui (ul M1 (12, i) ks.length (b1)) (11, i) 1 (nI (ks.length + 1))) := (EqF.rf.ul (by simp)).ui (by simp)
            have hw2 := hw1.eqT (hSt2.sub fun k j z => by omega)
            have hcm2 := hcm1.eq (Nat.lt_succ_self i) (hSt2.sub fun k j z => by omega)
            have hS2 := hS1.tr (hSt2.sub fun k j z => by unfold onDi at z; omega)
            have hp2 := hp1
            have hil2 := hil1
            refine x_aload_n rfl rfl rfl ?_
            refine x_getRi rfl rfl f_2_203 rfl (by show _ < 40; omega) rfl rfl ?_
            refine x_aload_n rfl rfl rfl ?_
            refine x_iload_n rfl rfl rfl ?_
            refine r_call2 (d2 := dv) (hrec s1 _ hw2) hS2 (fun k j z => onD_pre hp2 z.1) rfl rfl v_2_150 rfl rfl (by decide) rfl rfl (Nat.le_of_ble_eq_true rfl) (by omega) (fun b3 s3 M3 e3 hq3 hE3 hS3 => ?_)
            have hw3 := hq3.1
            have hpr3 := hpre _ _ _ e3
            have hpt3 := hpt2.eqF hE3 (fun r h1 h2 j => by have := hil2; unfold onD; simp; omega)
            have hcm3 := hcm2.step hpr3 hE3 hq3.2
            have hp3 := hp2.tr hpr3
            have hil3 := Nat.lt_of_lt_of_le hil2 hpr3.2.2.2
            refine x_callVv (d2 := 0) (c_LL_add (len := vs.length) hG (lk_13 (by omega)) (b3) hpt3.2.2.2.2.2.1 (by omega)) rfl rfl v_2_114 rfl rfl (by show _ < 40; omega) rfl rfl (Nat.le_of_ble_eq_true rfl) (by omega) (by omega) ?_
            have hpt4 := hpt3.aV (e := b3)
            have hSt4 : EqF (fun k _ => ¬ (9 ≤ k.1 ∧ k.1 ≤ 14 ∧ k.2 = i)) M3 (ui (ul M3 (14, i) vs.length (b3)) (13, i) 1 (nI (vs.length + 1))) := (EqF.rf.ul (by simp)).ui (by simp)
            have hw4 := hw3.eqT (hSt4.sub fun k j z => by omega)
            have hcm4 := hcm3.eq (Nat.lt_succ_self i) (hSt4.sub fun k j z => by omega)
            have hS4 := hS3.tr (hSt4.sub fun k j z => by unfold onDi at z; omega)
            have hp4 := hp3
            have hil4 := hil3
            refine x_iincN (a := c) (b := 1) rfl rfl rfl rfl rfl ?_
            refine x_goto rfl rfl ?_
            refine x_pick [0, 1, 2, 3] rfl ?_
            exact ih (c + 1) (by omega) _ _ s3 _ (by simp; omega) (by simp; omega) hw4 hp4 hil4 hpt4 hcm4 hS4
          · refine x_aload_n rfl rfl rfl ?_
            refine x_iload rfl rfl rfl ?_
            exact r_stop2 (f := s0.1) (by rw [if_neg hc2, if_pos (Or.inr (Or.inr hc5))]) (c_stopAt hG (Nat.le_refl 6) _) (hS1.fo.ui (by simp [fq])) (by simp [ui]) rfl rfl v_2_88 rfl rfl (by decide) rfl rfl (Nat.le_of_ble_eq_true rfl) (by omega)
    · exact r_retV2 (by rw [if_pos hc2]) hS1 ⟨hw1, hp1, hil1, hpt1, hcm1, by show ks.length ≤ 6; omega, by show vs.length = ks.length; omega⟩ rfl rfl rfl
set_option maxHeartbeats 4000000 in
set_option maxRecDepth 20000 in
theorem c_readPairs10 (hG : Gok G) (hd : 9 ≤ d) {row : List Nat} {al : List Int64} {s0 : RS} {i dp dv : Nat} {rec : Rec} (hrec : RV G row al dv dp rec) (hpre : RecPre rec) (hdv : dv + 1 ≤ d) (hi40 : i < 40) {tr : Int32} {b : Int64} {L : List Int64} {t : Nat} {y2 : Tr} (hyt : (pT s0)[t]? = some y2) (htr : tr = nI t) (hw0 : RdC row al s0 M) (hil0 : i < (pH s0).length) (hpt0 : Pt 10 tr b L [] [] i M) (hcm0 : Cmp (i + 1) s0 M) : CR2 G mX2_readPairs d [.ref (ga G (27, 0)), .ref (ga G (8, i)), .int (nI dp)] M (onDi s0 i) (fun (q : List Int64 × List Int64) s' M' => RdC row al s' M' ∧ Pre s0 s' ∧ i < (pH s').length ∧ Pt 10 tr b L q.1 q.2 i M' ∧ Cmp (i + 1) s' M' ∧ q.1.length ≤ 6 ∧ q.2.length = q.1.length) vNo (rPairs row rec (rM y2) 7 [] [] s0) := by
  refine r_of2 hG okX2_readPairs (by decide +kernel) rfl (Nat.le_of_ble_eq_true rfl) ?_
  refine x_iconstN (b := 0) rfl rfl ?_
  refine x_istore_n rfl rfl rfl rfl ?_
  exact l_rp10 hG hd hrec hpre hdv hi40 hyt htr 6 0 rfl [] [] s0 M rfl rfl hw0 Pre.rf hil0 hpt0 hcm0 EqF.rf
end R8
