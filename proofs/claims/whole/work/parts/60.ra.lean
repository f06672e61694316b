theorem rTr_preP {row : List Nat} {al : List Int64} {n np : Nat} {s s1 : RS} {t : Nat} (h : rTr row al n np s = .inr (t, s1)) : Pre s s1 := by
  by_cases h1 : n % 4 = 1
  · rw [rTr_k h1] at h
    obtain ⟨q, hq, h2⟩ := rb_some h
    cases h2
    unfold rKR at hq
    cases hj : (pR s)[n / 4]? with
    | none => rw [hj] at hq; cases hq
    | some t => rw [hj] at hq; cases hq; exact Pre.rf
  · by_cases h2 : n % 8 = 7 ∨ 3 < n / 16
    · rw [rTr_x h1 h2] at h; cases h
    · rw [rTr_m h1 h2] at h
      obtain ⟨q, hq, h3⟩ := rb_some h
      have hp := Pre.of2 (rStr_2 (t := q.1) (s1 := q.2) hq).1
      split at h3
      · cases h3
      · obtain ⟨z, hz, h4⟩ := rb_some h3
        have hp2 := Pre.of2 (rMem_2 (l := z.1) (s1 := z.2) hz)
        exact (hp.tr hp2).tr (keepT_pre h4).1
theorem rBody_pre0 {row : List Nat} {al : List Int64} {rec : Rec} (hr : RecPre rec) {k n np i : Nat} {s0 s s1 : RS} (hi : (pH s0).length ≤ i) (hs : Pre s0 s) (h : rBody row al rec k n np i s = .inr s1) : Pre s0 s1 := by
  unfold rBody at h
  split at h
  · unfold rDate at h
    split at h
    · cases h
    · obtain ⟨q, hq, h2⟩ := rb_some h
      cases h2
      exact (hs.tr (Pre.of2 (by rw [rEightF_2 (v := q.1) (s1 := q.2) hq]))).set hi
  · split at h
    · unfold rBytes at h
      split at h
      · cases h
      · obtain ⟨q, hq, h2⟩ := rb_some h
        cases h2
        exact (hs.tr (Pre.of2 (by rw [rBy_2 (l := q.1) (s1 := q.2) hq]))).set hi
    · split at h
      · unfold rArr at h
        split at h
        · cases h
        · obtain ⟨q, hq, h2⟩ := rb_some h
          obtain ⟨z, hz, h3⟩ := rb_some h2
          cases h3
          exact ((hs.tr (rPairs_pre hr (l := q.1) (s1 := q.2) hq)).tr (rItems_pre hr (l := z.1) (s1 := z.2) hz)).set hi
      · unfold rObj at h
        obtain ⟨q, hq, h2⟩ := rb_some h
        obtain ⟨z, hz, h3⟩ := rb_some h2
        have hp := (hs.tr (rTr_preP (t := q.1) (s1 := q.2) hq)).tr (rItems_pre hr (l := z.1) (s1 := z.2) hz)
        split at h3
        · obtain ⟨y, hy, h4⟩ := rb_some h3
          cases h4
          exact (hp.tr (rPairs_pre hr (l := y.1) (s1 := y.2) hy)).set hi
        · cases h3
          exact hp.set hi
theorem rTh1_pre {row : List Nat} {al : List Int64} {rec : Option Rec} (hr : ∀ r, rec = some r → RecPre r) {k kp np n : Nat} {s s' : RS} {v : Int64} (h : rTh1 row al rec k kp np n s = .inr (v, s')) : Pre s s' := by
  unfold rTh1 at h
  split at h
  · unfold rKnown at h
    split at h
    · split at h
      · cases h; exact Pre.rf
      · cases h
    · cases h
  · split at h
    · cases h
    · cases rec with
      | none => cases h
      | some r =>
        obtain ⟨z, hz, h3⟩ := rb_some (show rb (rBody row al r k n np (pH s).length (newH k s)) _ = _ from h)
        cases h3
        exact rBody_pre0 (hr r rfl) (Nat.le_refl _) Pre.new hz
theorem pre_addW {s : RS} {v : Int64} : Pre s (addW v s) := ⟨⟨[v], rfl⟩, ⟨[], by simp [addW, pT]⟩, fun _ _ => rfl, Nat.le_refl _⟩
theorem rWide_H {row : List Nat} {kp : Nat} {s s1 : RS} {v : Int64} (h : rWide row kp s = .inr (v, s1)) : Pre s s1 ∧ pH s1 = pH s := by
  unfold rWide at h
  split at h
  · cases h
  · obtain ⟨z, hz, h3⟩ := rb_some h
    cases h3
    have e := rEightF_2 (v := z.1) (s1 := z.2) hz
    exact ⟨(Pre.of2 (by rw [e])).tr pre_addW, show pH z.2 = pH s by unfold pH; rw [e]⟩
theorem rInt_2 {row : List Nat} {s s1 : RS} {v : Int64} (h : rInt row s = .inr (v, s1)) : s1.2 = s.2 := by
  obtain ⟨z, hz, h3⟩ := rb_some (show rb (rNum row s) _ = _ from h)
  cases h3
  exact (rNumF_2 (n := z.1) (s1 := z.2) hz).1
theorem rvS_pre {row : List Nat} {al : List Int64} {rec : Option Rec} (hr : ∀ r, rec = some r → RecPre r) : RecPre (rvS row al rec) := by
  intro s v s' h
  obtain ⟨q, hq, h2⟩ := rb_some (show rb (rByte row s) _ = _ from h)
  have hp : Pre s q.2 := Pre.of2 (by rw [(rByte_inr (b := q.1) (s1 := q.2) hq).1])
  refine hp.tr ?_
  unfold rv1 at h2
  split at h2
  · exact Pre.of2 (by rw [rInt_2 h2])
  · split at h2
    · exact (rWide_H h2).1
    · split at h2
      · obtain ⟨z, hz, h3⟩ := rb_some h2
        cases h3
        exact Pre.of2 (rStr_2 (t := z.1) (s1 := z.2) hz).1
      · split at h2
        · obtain ⟨z, hz, h3⟩ := rb_some (show rb (rNum row q.2) _ = _ from h2)
          exact (Pre.of2 (by rw [(rNumF_2 (n := z.1) (s1 := z.2) hz).1])).tr (rTh1_pre hr h3)
        · split at h2
          · cases h2
          · cases h2; exact Pre.rf
theorem rVal_pre {row : List Nat} {al : List Int64} : ∀ dl : Nat, RecPre (rVal row al dl)
  | 0 => rvS_pre (rec := none) (fun r h => by cases h)
  | dl + 1 => rvS_pre (rec := some (rVal row al dl)) (fun r h => by cases h; exact rVal_pre dl)
theorem Cmp.nil {s : RS} {h : Nat} {M : Mm} (hl : (pH s).length ≤ h) : Cmp h s M := fun j x hj hx => absurd (at_lt hx) (by omega)
theorem rU_rb2 {β : Type} (r : Nat ⊕ RS) (f : RS → Nat ⊕ β) : rb r f = rb (rU r) fun q => f q.2 := by cases r <;> rfl
theorem eqF_new {s : RS} {M : Mm} {k : Nat} : EqF (fun q j => ¬ (8 ≤ q.1 ∧ q.1 ≤ 14 ∧ q.2 = (pH s).length) ∧ ¬ (q.1 = 27 ∧ j = 8) ∧ q.1 ≠ 30 ∧ q.1 ≠ 31) M (ui (ul (ui (ui (ui (ui (ul (ui (ui M (8, (pH s).length) 3 (nI k)) (8, (pH s).length) 4 (-1)) (8, (pH s).length) 5 0) (9, (pH s).length) 1 (nI 0)) (11, (pH s).length) 1 (nI 0)) (13, (pH s).length) 1 (nI 0)) (27, 0) 8 (nI ((pH s).length + 1))) (31, 0) (pL s).length (lN (pH s).length)) (30, 0) 1 (nI ((pL s).length + 1))) := ((((((((EqF.rf.ui (by simp)).ui (by simp)).ul (by simp)).ui (by simp)).ui (by simp)).ui (by simp)).ui (by simp)).ul (by simp)).ui (by simp)
set_option maxHeartbeats 1000000 in
theorem RdC.new {row : List Nat} {al : List Int64} {s : RS} {M : Mm} {k : Nat} (h : RdC row al s M) (hL : (pH s).length < 40) (hk : k < 16) : RdC row al (newH k s) (ui (ul (ui (ui (ui (ui (ul (ui (ui M (8, (pH s).length) 3 (nI k)) (8, (pH s).length) 4 (-1)) (8, (pH s).length) 5 0) (9, (pH s).length) 1 (nI 0)) (11, (pH s).length) 1 (nI 0)) (13, (pH s).length) 1 (nI 0)) (27, 0) 8 (nI ((pH s).length + 1))) (31, 0) (pL s).length (lN (pH s).length)) (30, 0) 1 (nI ((pL s).length + 1))) := by
  have hS := eqF_new (s := s) (M := M) (k := k)
  obtain ⟨⟨a1, a2⟩, hb, ⟨k1, k2, k3, k4, k5, k6, k7, k8⟩, ⟨i1, i2, i3, i4, i5, i6, i7, i8, i9⟩, hw⟩ := id h
  refine ⟨⟨(hS _ _ (by simp)).1.trans a1, a2.eqF hS (by simp) (fun j => by simp)⟩, hb, ⟨⟨?_, ?_⟩, k2.eqF hS (by simp) (fun j => by simp), (hS _ _ (by simp)).1.trans k3, k4.to fun k => (hS _ _ (by simp)).2, (hS _ _ (by simp)).1.trans k5, fun t x hx => (k6 t x hx).eqF hS (fun r h1 h2 j => by simp; omega), ?_, fun j x hx => ?_⟩, ⟨i1, i2, ?_, ?_, ?_, fun i hi => ?_, i7, fun x hx => ?_, i9⟩, hw.eq hS (fun r h1 h2 j => by simp; omega)⟩
  · simp [ui, newH, pL]
  · show LI _ ((pL s ++ [(pH s).length]).map lN)
    rw [List.map_append]
    exact k1.2.push (fun k hk => by rw [List.length_map] at hk; have hne : k ≠ (pL s).length := Nat.ne_of_lt hk; simp [ui, ul, hne]) (by simp [ui, ul])
  · rw [newH_len]; simp [ui, ul]
  · have hx2 : (pH s ++ [(k, 0, 0, [], [], [])])[j]? = some x := hx
    rcases Nat.lt_trichotomy j (pH s).length with q | q | q
    · rw [List.getElem?_append_left q] at hx2
      exact (hS (8, j) 3 (by simp; omega)).1.trans (k8 j x hx2)
    · rw [q, List.getElem?_append_right (Nat.le_refl _), Nat.sub_self] at hx2
      cases hx2
      rw [q]; simp [ui, ul, tK]
    · rw [List.getElem?_append_right (by omega), List.getElem?_eq_none (by simp; omega)] at hx2
      cases hx2
  · rw [newH_len]; omega
  · show (pR s).length ≤ (pL s ++ [(pH s).length]).length
    simp; omega
  · rw [newH_len]
    show (pL s ++ [(pH s).length]).length ≤ _
    simp; omega
  · rw [newH_len]
    rcases List.mem_append.mp (show i ∈ pL s ++ [(pH s).length] from hi) with h9 | h9
    · have := i6 i h9; omega
    · rw [List.mem_singleton.mp h9]; omega
  · rcases List.mem_append.mp (show x ∈ pH s ++ [(k, 0, 0, [], [], [])] from hx) with h9 | h9
    · exact i8 x h9
    · rw [List.mem_singleton.mp h9]; exact hk
theorem Pt.new {s : RS} {M : Mm} {k : Nat} : Pt k (-1) 0 [] [] [] (pH s).length (ui (ul (ui (ui (ui (ui (ul (ui (ui M (8, (pH s).length) 3 (nI k)) (8, (pH s).length) 4 (-1)) (8, (pH s).length) 5 0) (9, (pH s).length) 1 (nI 0)) (11, (pH s).length) 1 (nI 0)) (13, (pH s).length) 1 (nI 0)) (27, 0) 8 (nI ((pH s).length + 1))) (31, 0) (pL s).length (lN (pH s).length)) (30, 0) 1 (nI ((pL s).length + 1))) := by
  refine ⟨?_, ?_, ?_, ⟨?_, fun k x h => by cases h⟩, ⟨?_, fun k x h => by cases h⟩, ⟨?_, fun k x h => by cases h⟩⟩ <;> simp [ui, ul]
theorem rTh1_k {row : List Nat} {al : List Int64} {rec : Option Rec} {k kp np n : Nat} {s : RS} (h : n % 2 = 0) : rTh1 row al rec k kp np n s = rb (rKnown k (n / 2) np s) fun q => .inr q := by
  unfold rTh1; rw [if_pos h, rb_inr]
theorem rTh1_f {row : List Nat} {al : List Int64} {rec : Option Rec} {k kp np n : Nat} {s : RS} (h : ¬ n % 2 = 0) (h2 : (pH s).length = 40) : rTh1 row al rec k kp np n s = .inl kp := by unfold rTh1; rw [if_neg h, if_pos h2]
theorem rTh1_d {row : List Nat} {al : List Int64} {k kp np n : Nat} {s : RS} (h : ¬ n % 2 = 0) : rTh1 row al none k kp np n s = .inl kp := by
  unfold rTh1; rw [if_neg h]
  split <;> rfl
theorem rTh1_b {row : List Nat} {al : List Int64} {rec : Rec} {k kp np n : Nat} {s : RS} (h : ¬ n % 2 = 0) (h2 : ¬ (pH s).length = 40) : rTh1 row al (some rec) k kp np n s = rb (rU (rBody row al rec k n np (pH s).length (newH k s))) fun q => .inr (16 * lN (pH s).length + 7, q.2) := by
  unfold rTh1; rw [if_neg h, if_neg h2]
  exact rU_rb2 _ _
section RA
variable {G : Gd} {d : Nat} {M : Mm}
theorem rKnown_s {k n np : Nat} {s s1 : RS} {v : Int64} (h : rKnown k n np s = .inr (v, s1)) : pH s1 = pH s := by
  unfold rKnown at h
  split at h
  · split at h
    · cases h; rfl
    · cases h
  · cases h
set_option maxHeartbeats 4000000 in
set_option maxRecDepth 20000 in
theorem c_readThing0 (hG : Gok G) {row : List Nat} {al : List Int64} {s0 : RS} (hw0 : RdC row al s0 M) (hd : 8 ≤ d) {kd kp : Nat} (hkd : kd < 16) : CR2 G mX2_readThing d [.ref (ga G (27, 0)), .int (nI kd), .int (nI kp), .int (nI 12)] M (onD s0) (fun _ s' M' => RdC row al s' M' ∧ Cmp (pH s0).length s' M') vLng (rTh row al none kd kp s0) := by
  have hS0 : EqF (onD s0) M M := EqF.rf
  have hp0 : Pre s0 s0 := Pre.rf
  have hA0 := hw0.2.1.1
  have hL6 := hw0.2.2.2.2.2.2.1
  unfold rTh
  refine r_of2 hG okX2_readThing (by decide +kernel) rfl (Nat.le_of_ble_eq_true rfl) ?_
  refine x_aload_n rfl rfl rfl ?_
  refine x_getIv (v := nI (s0.1)) hw0.1.1 rfl rfl f_2_58 rfl (by decide) rfl ?_
  refine x_istore rfl rfl rfl rfl ?_
  refine x_aload_n rfl rfl rfl ?_
  refine r_call2 (d2 := 7) ((c_readNumber hG (Nat.le_refl 7) hw0).two) hS0 (fun k j z => by unfold onD at z; unfold onA; omega) rfl rfl v_2_91 rfl rfl (by decide) rfl rfl (Nat.le_of_ble_eq_true rfl) (by omega) (fun b1 s1 M1 e1 hq1 hE1 hS1 => ?_)
  have hz1 : s1.2.2 = s0.2.2 := by rw [(rNumF_2 e1).1]
  have hn1 := rNum_lt hq1.2.2.2.2.2.2.2.1 e1
  have hw1 := hq1
  have hph1 : pH s1 = pH s0 := by unfold pH; rw [hz1]
  have hp1 := hp0.tr (Pre.of2 hz1)
  have hHH1 := hw1.2.2.2.1.2.2.1
  have hLH1 := hw1.2.2.2.1.2.2.2.2.1
  refine x_istore rfl rfl rfl rfl ?_
  dsimp only
  refine x_iload rfl rfl rfl ?_
  refine x_iconstN (b := 2) rfl rfl ?_
  refine x_iremN (a := b1) (b := 2) (by omega) (by omega) (by omega) rfl rfl ?_
  refine x_ifN_ne (by omega) rfl rfl (fun hc1 => ?_) (fun hc1 => ?_)
  · refine x_aload_n rfl rfl rfl ?_
    refine x_getIv (v := nI ((pH s1).length)) hw1.2.2.1.2.2.2.2.2.2.1 rfl rfl f_2_57 rfl (by decide) rfl ?_
    refine x_bipush (v := nI 40) rfl rfl (by decide +kernel) ?_
    refine x_icmpN_eq (by omega) (by omega) rfl rfl (fun hc2 => ?_) (fun hc2 => ?_)
    · refine x_aload_n rfl rfl rfl ?_
      refine x_iload_n rfl rfl rfl ?_
      exact r_stop2 (f := kp) (rTh1_d hc1) (c_stopAt hG (Nat.le_refl 6) _) (hS1.fo.ui (by simp [fq])) (by simp [ui]) rfl rfl v_2_88 rfl rfl (by decide) rfl rfl (Nat.le_of_ble_eq_true rfl) (by omega)
    · refine x_iload_n rfl rfl rfl ?_
      refine x_bipush (v := nI 12) rfl rfl (by decide +kernel) ?_
      refine x_icmpN_ne (by omega) (by omega) rfl rfl (fun hc3 => absurd rfl hc3) (fun hc3 => ?_)
      refine x_aload_n rfl rfl rfl ?_
      refine x_iload_n rfl rfl rfl ?_
      exact r_stop2 (f := kp) (rTh1_d hc1) (c_stopAt hG (Nat.le_refl 6) _) (hS1.fo.ui (by simp [fq])) (by simp [ui]) rfl rfl v_2_88 rfl rfl (by decide) rfl rfl (Nat.le_of_ble_eq_true rfl) (by omega)
  · rw [rTh1_k hc1]
    refine x_aload_n rfl rfl rfl ?_
    refine x_iload_n rfl rfl rfl ?_
    refine x_iload rfl rfl rfl ?_
    refine x_iconstN (b := 2) rfl rfl ?_
    refine x_idivN (a := b1) (b := 2) (by omega) (by omega) (by omega) rfl rfl ?_
    refine x_iload rfl rfl rfl ?_
    refine r_call2 (d2 := 7) (((c_knownThing (kd := kd) (j := b1 / 2) (np := s0.1) hG (Nat.le_refl 7) hw1 (by omega) (by omega)).two).weak (Ps := fun _ s' M' => RdC row al s' M' ∧ pH s' = pH s1) (fun b s' M' e9 _ z => ⟨z, rKnown_s e9⟩)) hS1 (fun k j z => onD_pre hp1 z) rfl rfl v_2_103 rfl rfl (by decide) rfl rfl (Nat.le_of_ble_eq_true rfl) (by omega) (fun b2 s2 M2 e2 hq2 hE2 hS2 => ?_)
    have hw2 := hq2.1
    exact r_retL2 rfl hS2 ⟨hw2, Cmp.nil (by rw [hq2.2, hph1]; exact Nat.le_refl _)⟩ rfl rfl rfl
set_option maxHeartbeats 4000000 in
set_option maxRecDepth 20000 in
theorem c_readThing_8 (hG : Gok G) {row : List Nat} {al : List Int64} {s0 : RS} (hw0 : RdC row al s0 M) (hd : 12 ≤ d) {dp dv : Nat} {rec : Rec} (hrec : RV G row al dv (dp + 1) rec) (hpre : RecPre rec) (hdv : dv + 3 ≤ d) (hdp : dp < 12) {kp : Nat} : CR2 G mX2_readThing d [.ref (ga G (27, 0)), .int (nI 8), .int (nI kp), .int (nI dp)] M (onD s0) (fun _ s' M' => RdC row al s' M' ∧ Cmp (pH s0).length s' M') vLng (rTh row al (some rec) 8 kp s0) := by
  have hS0 : EqF (onD s0) M M := EqF.rf
  have hp0 : Pre s0 s0 := Pre.rf
  have hA0 := hw0.2.1.1
  have hL6 := hw0.2.2.2.2.2.2.1
  unfold rTh
  refine r_of2 hG okX2_readThing (by decide +kernel) rfl (Nat.le_of_ble_eq_true rfl) ?_
  refine x_aload_n rfl rfl rfl ?_
  refine x_getIv (v := nI (s0.1)) hw0.1.1 rfl rfl f_2_58 rfl (by decide) rfl ?_
  refine x_istore rfl rfl rfl rfl ?_
  refine x_aload_n rfl rfl rfl ?_
  refine r_call2 (d2 := 7) ((c_readNumber hG (Nat.le_refl 7) hw0).two) hS0 (fun k j z => by unfold onD at z; unfold onA; omega) rfl rfl v_2_91 rfl rfl (by decide) rfl rfl (Nat.le_of_ble_eq_true rfl) (by omega) (fun b1 s1 M1 e1 hq1 hE1 hS1 => ?_)
  have hz1 : s1.2.2 = s0.2.2 := by rw [(rNumF_2 e1).1]
  have hn1 := rNum_lt hq1.2.2.2.2.2.2.2.1 e1
  have hw1 := hq1
  have hph1 : pH s1 = pH s0 := by unfold pH; rw [hz1]
  have hp1 := hp0.tr (Pre.of2 hz1)
  have hHH1 := hw1.2.2.2.1.2.2.1
  have hLH1 := hw1.2.2.2.1.2.2.2.2.1
  refine x_istore rfl rfl rfl rfl ?_
  dsimp only
  refine x_iload rfl rfl rfl ?_
  refine x_iconstN (b := 2) rfl rfl ?_
  refine x_iremN (a := b1) (b := 2) (by omega) (by omega) (by omega) rfl rfl ?_
  refine x_ifN_ne (by omega) rfl rfl (fun hc1 => ?_) (fun hc1 => ?_)
  · refine x_aload_n rfl rfl rfl ?_
    refine x_getIv (v := nI ((pH s1).length)) hw1.2.2.1.2.2.2.2.2.2.1 rfl rfl f_2_57 rfl (by decide) rfl ?_
    refine x_bipush (v := nI 40) rfl rfl (by decide +kernel) ?_
    refine x_icmpN_eq (by omega) (by omega) rfl rfl (fun hc2 => ?_) (fun hc2 => ?_)
    · refine x_aload_n rfl rfl rfl ?_
      refine x_iload_n rfl rfl rfl ?_
      exact r_stop2 (f := kp) (rTh1_f hc1 hc2) (c_stopAt hG (Nat.le_refl 6) _) (hS1.fo.ui (by simp [fq])) (by simp [ui]) rfl rfl v_2_88 rfl rfl (by decide) rfl rfl (Nat.le_of_ble_eq_true rfl) (by omega)
    · refine x_iload_n rfl rfl rfl ?_
      refine x_bipush (v := nI 12) rfl rfl (by decide +kernel) ?_
      refine x_icmpN_ne (by omega) (by omega) rfl rfl (fun hc3 => ?_) (fun hc3 => absurd hc3 (by omega))
      refine x_aload_n rfl rfl rfl ?_
      refine x_getIv (v := nI ((pH s1).length)) hw1.2.2.1.2.2.2.2.2.2.1 rfl rfl f_2_57 rfl (by decide) rfl ?_
      refine x_istore rfl rfl rfl rfl ?_
      refine x_aload_n rfl rfl rfl ?_
      refine x_getR0 rfl rfl f_2_30 rfl (by decide) rfl rfl ?_
      refine x_getR0 rfl rfl f_2_106 rfl (by decide) rfl rfl ?_
      refine x_iload rfl rfl rfl ?_
      refine x_aaldi (a := (pH s1).length) rfl rfl rfl (by decide) (by decide) (by omega) (by decide) rfl ?_
      refine x_astore rfl rfl rfl rfl ?_
      refine x_aload rfl rfl rfl ?_
      refine x_iload_n rfl rfl rfl ?_
      refine x_callVv (d2 := 1) (c_Th_become hG (Nat.le_refl 1) (by omega) (nI 8)) rfl rfl v_2_109 rfl rfl (by show _ < 40; omega) rfl rfl (Nat.le_of_ble_eq_true rfl) (by omega) (by omega) ?_
      refine x_aload_n rfl rfl rfl ?_
      refine x_dup rfl rfl rfl ?_
      refine x_getIv (v := nI ((pH s1).length)) (by first | exact hw1.2.2.1.2.2.2.2.2.2.1 | (rw [← hw1.2.2.1.2.2.2.2.2.2.1]; rfl) | simp [ui, ul, hw1.2.2.1.2.2.2.2.2.2.1]) rfl rfl f_2_57 rfl (by decide) rfl ?_
      refine x_iconstN (b := 1) rfl rfl ?_
      refine x_iaddN (a := (pH s1).length) (b := 1) rfl rfl ?_
      refine x_putI rfl rfl f_2_57 rfl rfl (by decide) rfl ?_
      refine x_aload_n rfl rfl rfl ?_
      refine x_getR0 rfl rfl f_2_20 rfl (by decide) rfl rfl ?_
      refine x_iload rfl rfl rfl ?_
      refine x_i2lN (a := (pH s1).length) (by omega) rfl rfl ?_
      refine x_callVv (d2 := 0) (c_LL_add (len := (pL s1).length) hG (lk_30 (by decide)) (lN ((pH s1).length)) (by first | exact (ll_map hw1.2.2.1.1) | (rw [← (ll_map hw1.2.2.1.1)]; rfl) | simp [ui, ul, (ll_map hw1.2.2.1.1)]) (by omega)) rfl rfl v_2_114 rfl rfl (by decide) rfl rfl (Nat.le_of_ble_eq_true rfl) (by omega) (by omega) ?_
      refine x_iload_n rfl rfl rfl ?_
      refine x_swIn (off := 36) (tg := 132) rfl (by decide +kernel) (by decide +kernel) rfl (by decide) ?_
      refine x_aload_n rfl rfl rfl ?_
      refine x_aload rfl rfl rfl ?_
      refine x_iload rfl rfl rfl ?_
      refine x_iload rfl rfl rfl ?_
      have hlt : (pH s1).length < 40 := by have := hw1.2.2.2.1.2.2.1; omega
      have hN1 : RdC row al (newH 8 s1) (ui (ul (ui (ui (ui (ui (ul (ui (ui M1 (8, (pH s1).length) 3 (nI 8)) (8, (pH s1).length) 4 ((-1))) (8, (pH s1).length) 5 0) (9, (pH s1).length) 1 (nI 0)) (11, (pH s1).length) 1 (nI 0)) (13, (pH s1).length) 1 (nI 0)) (27, 0) 8 (nI (((pH s1).length) + 1))) (31, 0) ((pL s1).length) (lN ((pH s1).length))) (30, 0) 1 (nI ((pL s1).length + 1))) := hw1.new hlt (by decide)
      have hpt1 : Pt 8 (-1) 0 [] [] [] (pH s1).length (ui (ul (ui (ui (ui (ui (ul (ui (ui M1 (8, (pH s1).length) 3 (nI 8)) (8, (pH s1).length) 4 ((-1))) (8, (pH s1).length) 5 0) (9, (pH s1).length) 1 (nI 0)) (11, (pH s1).length) 1 (nI 0)) (13, (pH s1).length) 1 (nI 0)) (27, 0) 8 (nI (((pH s1).length) + 1))) (31, 0) ((pL s1).length) (lN ((pH s1).length))) (30, 0) 1 (nI ((pL s1).length + 1))) := Pt.new
      have hy1 := newH_at 8 s1
      have hcm1 : Cmp ((pH s1).length + 1) (newH 8 s1) (ui (ul (ui (ui (ui (ui (ul (ui (ui M1 (8, (pH s1).length) 3 (nI 8)) (8, (pH s1).length) 4 ((-1))) (8, (pH s1).length) 5 0) (9, (pH s1).length) 1 (nI 0)) (11, (pH s1).length) 1 (nI 0)) (13, (pH s1).length) 1 (nI 0)) (27, 0) 8 (nI (((pH s1).length) + 1))) (31, 0) ((pL s1).length) (lN ((pH s1).length))) (30, 0) 1 (nI ((pL s1).length + 1))) := Cmp.nil (by rw [newH_len]; exact Nat.le_refl _)
      have hSn : EqF (onD s0) M (ui (ul (ui (ui (ui (ui (ul (ui (ui M1 (8, (pH s1).length) 3 (nI 8)) (8, (pH s1).length) 4 ((-1))) (8, (pH s1).length) 5 0) (9, (pH s1).length) 1 (nI 0)) (11, (pH s1).length) 1 (nI 0)) (13, (pH s1).length) 1 (nI 0)) (27, 0) 8 (nI (((pH s1).length) + 1))) (31, 0) ((pL s1).length) (lN ((pH s1).length))) (30, 0) 1 (nI ((pL s1).length + 1))) := hS1.tr (eqF_new.sub fun k j z => by have z2 := onD_pre hp1 z; unfold onD at z2; omega)
      rw [rTh1_b hc1 hc2]
      rw [show rBody row al rec 8 b1 s0.1 (pH s1).length (newH 8 s1) = rDate row b1 s0.1 (pH s1).length (newH 8 s1) from rfl]
      refine r_call2 (d2 := d - 1) (c_readDate (nn := b1) (np := s0.1) (d := d - 1) hG (by omega) hN1 hy1 rfl hpt1 hcm1 hn1) hSn (fun k j z => ⟨onD_pre (hp1.tr Pre.new) z, fun w => by have z2 := onD_pre hp1 z; unfold onD at z2; omega⟩) rfl rfl v_2_118 rfl rfl (by decide) rfl rfl (Nat.le_of_ble_eq_true rfl) (by omega) (fun b2 s2 M2 e2 hq2 hE2 hS2 => ?_)
      refine x_goto rfl rfl ?_
      refine x_bipush (v := nI 7) rfl rfl (by decide +kernel) ?_
      refine x_iload rfl rfl rfl ?_
      refine x_i2lN (a := (pH s1).length) (by omega) rfl rfl ?_
      refine x_callSl (d2 := 0) (c_valueOf hG (nI 7) (lN ((pH s1).length))) rfl rfl s_2_80 rfl rfl (Nat.le_of_ble_eq_true rfl) (by omega) (by omega) ?_
      refine x_topL (v := 16 * (lN ((pH s1).length)) + 7) (by rw [show (nI 7).toInt64 = 7 by decide +kernel]) ?_
      exact r_retL2 rfl hS2 ⟨hq2.1, by rw [← hph1]; exact hq2.2⟩ rfl rfl rfl
  · rw [rTh1_k hc1]
    refine x_aload_n rfl rfl rfl ?_
    refine x_iload_n rfl rfl rfl ?_
    refine x_iload rfl rfl rfl ?_
    refine x_iconstN (b := 2) rfl rfl ?_
    refine x_idivN (a := b1) (b := 2) (by omega) (by omega) (by omega) rfl rfl ?_
    refine x_iload rfl rfl rfl ?_
    refine r_call2 (d2 := 7) (((c_knownThing (kd := 8) (j := b1 / 2) (np := s0.1) hG (Nat.le_refl 7) hw1 (by omega) (by omega)).two).weak (Ps := fun _ s' M' => RdC row al s' M' ∧ pH s' = pH s1) (fun b s' M' e9 _ z => ⟨z, rKnown_s e9⟩)) hS1 (fun k j z => onD_pre hp1 z) rfl rfl v_2_103 rfl rfl (by decide) rfl rfl (Nat.le_of_ble_eq_true rfl) (by omega) (fun b2 s2 M2 e2 hq2 hE2 hS2 => ?_)
    have hw2 := hq2.1
    exact r_retL2 rfl hS2 ⟨hw2, Cmp.nil (by rw [hq2.2, hph1]; exact Nat.le_refl _)⟩ rfl rfl rfl
set_option maxHeartbeats 4000000 in
set_option maxRecDepth 20000 in
theorem c_readThing_12 (hG : Gok G) {row : List Nat} {al : List Int64} {s0 : RS} (hw0 : RdC row al s0 M) (hd : 12 ≤ d) {dp dv : Nat} {rec : Rec} (hrec : RV G row al dv (dp + 1) rec) (hpre : RecPre rec) (hdv : dv + 3 ≤ d) (hdp : dp < 12) {kp : Nat} : CR2 G mX2_readThing d [.ref (ga G (27, 0)), .int (nI 12), .int (nI kp), .int (nI dp)] M (onD s0) (fun _ s' M' => RdC row al s' M' ∧ Cmp (pH s0).length s' M') vLng (rTh row al (some rec) 12 kp s0) := by
  have hS0 : EqF (onD s0) M M := EqF.rf
  have hp0 : Pre s0 s0 := Pre.rf
  have hA0 := hw0.2.1.1
  have hL6 := hw0.2.2.2.2.2.2.1
  unfold rTh
  refine r_of2 hG okX2_readThing (by decide +kernel) rfl (Nat.le_of_ble_eq_true rfl) ?_
  refine x_aload_n rfl rfl rfl ?_
  refine x_getIv (v := nI (s0.1)) hw0.1.1 rfl rfl f_2_58 rfl (by decide) rfl ?_
  refine x_istore rfl rfl rfl rfl ?_
  refine x_aload_n rfl rfl rfl ?_
  refine r_call2 (d2 := 7) ((c_readNumber hG (Nat.le_refl 7) hw0).two) hS0 (fun k j z => by unfold onD at z; unfold onA; omega) rfl rfl v_2_91 rfl rfl (by decide) rfl rfl (Nat.le_of_ble_eq_true rfl) (by omega) (fun b1 s1 M1 e1 hq1 hE1 hS1 => ?_)
  have hz1 : s1.2.2 = s0.2.2 := by rw [(rNumF_2 e1).1]
  have hn1 := rNum_lt hq1.2.2.2.2.2.2.2.1 e1
  have hw1 := hq1
  have hph1 : pH s1 = pH s0 := by unfold pH; rw [hz1]
  have hp1 := hp0.tr (Pre.of2 hz1)
  have hHH1 := hw1.2.2.2.1.2.2.1
  have hLH1 := hw1.2.2.2.1.2.2.2.2.1
  refine x_istore rfl rfl rfl rfl ?_
  dsimp only
  refine x_iload rfl rfl rfl ?_
  refine x_iconstN (b := 2) rfl rfl ?_
  refine x_iremN (a := b1) (b := 2) (by omega) (by omega) (by omega) rfl rfl ?_
  refine x_ifN_ne (by omega) rfl rfl (fun hc1 => ?_) (fun hc1 => ?_)
  · refine x_aload_n rfl rfl rfl ?_
    refine x_getIv (v := nI ((pH s1).length)) hw1.2.2.1.2.2.2.2.2.2.1 rfl rfl f_2_57 rfl (by decide) rfl ?_
    refine x_bipush (v := nI 40) rfl rfl (by decide +kernel) ?_
    refine x_icmpN_eq (by omega) (by omega) rfl rfl (fun hc2 => ?_) (fun hc2 => ?_)
    · refine x_aload_n rfl rfl rfl ?_
      refine x_iload_n rfl rfl rfl ?_
      exact r_stop2 (f := kp) (rTh1_f hc1 hc2) (c_stopAt hG (Nat.le_refl 6) _) (hS1.fo.ui (by simp [fq])) (by simp [ui]) rfl rfl v_2_88 rfl rfl (by decide) rfl rfl (Nat.le_of_ble_eq_true rfl) (by omega)
    · refine x_iload_n rfl rfl rfl ?_
      refine x_bipush (v := nI 12) rfl rfl (by decide +kernel) ?_
      refine x_icmpN_ne (by omega) (by omega) rfl rfl (fun hc3 => ?_) (fun hc3 => absurd hc3 (by omega))
      refine x_aload_n rfl rfl rfl ?_
      refine x_getIv (v := nI ((pH s1).length)) hw1.2.2.1.2.2.2.2.2.2.1 rfl rfl f_2_57 rfl (by decide) rfl ?_
      refine x_istore rfl rfl rfl rfl ?_
      refine x_aload_n rfl rfl rfl ?_
      refine x_getR0 rfl rfl f_2_30 rfl (by decide) rfl rfl ?_
      refine x_getR0 rfl rfl f_2_106 rfl (by decide) rfl rfl ?_
      refine x_iload rfl rfl rfl ?_
      refine x_aaldi (a := (pH s1).length) rfl rfl rfl (by decide) (by decide) (by omega) (by decide) rfl ?_
      refine x_astore rfl rfl rfl rfl ?_
      refine x_aload rfl rfl rfl ?_
      refine x_iload_n rfl rfl rfl ?_
      refine x_callVv (d2 := 1) (c_Th_become hG (Nat.le_refl 1) (by omega) (nI 12)) rfl rfl v_2_109 rfl rfl (by show _ < 40; omega) rfl rfl (Nat.le_of_ble_eq_true rfl) (by omega) (by omega) ?_
      refine x_aload_n rfl rfl rfl ?_
      refine x_dup rfl rfl rfl ?_
      refine x_getIv (v := nI ((pH s1).length)) (by first | exact hw1.2.2.1.2.2.2.2.2.2.1 | (rw [← hw1.2.2.1.2.2.2.2.2.2.1]; rfl) | simp [ui, ul, hw1.2.2.1.2.2.2.2.2.2.1]) rfl rfl f_2_57 rfl (by decide) rfl ?_
      refine x_iconstN (b := 1) rfl rfl ?_
      refine x_iaddN (a := (pH s1).length) (b := 1) rfl rfl ?_
      refine x_putI rfl rfl f_2_57 rfl rfl (by decide) rfl ?_
      refine x_aload_n rfl rfl rfl ?_
      refine x_getR0 rfl rfl f_2_20 rfl (by decide) rfl rfl ?_
      refine x_iload rfl rfl rfl ?_
      refine x_i2lN (a := (pH s1).length) (by omega) rfl rfl ?_
      refine x_callVv (d2 := 0) (c_LL_add (len := (pL s1).length) hG (lk_30 (by decide)) (lN ((pH s1).length)) (by first | exact (ll_map hw1.2.2.1.1) | (rw [← (ll_map hw1.2.2.1.1)]; rfl) | simp [ui, ul, (ll_map hw1.2.2.1.1)]) (by omega)) rfl rfl v_2_114 rfl rfl (by decide) rfl rfl (Nat.le_of_ble_eq_true rfl) (by omega) (by omega) ?_
      refine x_iload_n rfl rfl rfl ?_
      refine x_swIn (off := 49) (tg := 145) rfl (by decide +kernel) (by decide +kernel) rfl (by decide) ?_
      refine x_aload_n rfl rfl rfl ?_
      refine x_aload rfl rfl rfl ?_
      refine x_iload rfl rfl rfl ?_
      refine x_iconstN (b := 2) rfl rfl ?_
      refine x_idivN (a := b1) (b := 2) (by omega) (by omega) (by omega) rfl rfl ?_
      refine x_iload rfl rfl rfl ?_
      have hlt : (pH s1).length < 40 := by have := hw1.2.2.2.1.2.2.1; omega
      have hN1 : RdC row al (newH 12 s1) (ui (ul (ui (ui (ui (ui (ul (ui (ui M1 (8, (pH s1).length) 3 (nI 12)) (8, (pH s1).length) 4 ((-1))) (8, (pH s1).length) 5 0) (9, (pH s1).length) 1 (nI 0)) (11, (pH s1).length) 1 (nI 0)) (13, (pH s1).length) 1 (nI 0)) (27, 0) 8 (nI (((pH s1).length) + 1))) (31, 0) ((pL s1).length) (lN ((pH s1).length))) (30, 0) 1 (nI ((pL s1).length + 1))) := hw1.new hlt (by decide)
      have hpt1 : Pt 12 (-1) 0 [] [] [] (pH s1).length (ui (ul (ui (ui (ui (ui (ul (ui (ui M1 (8, (pH s1).length) 3 (nI 12)) (8, (pH s1).length) 4 ((-1))) (8, (pH s1).length) 5 0) (9, (pH s1).length) 1 (nI 0)) (11, (pH s1).length) 1 (nI 0)) (13, (pH s1).length) 1 (nI 0)) (27, 0) 8 (nI (((pH s1).length) + 1))) (31, 0) ((pL s1).length) (lN ((pH s1).length))) (30, 0) 1 (nI ((pL s1).length + 1))) := Pt.new
      have hy1 := newH_at 12 s1
      have hcm1 : Cmp ((pH s1).length + 1) (newH 12 s1) (ui (ul (ui (ui (ui (ui (ul (ui (ui M1 (8, (pH s1).length) 3 (nI 12)) (8, (pH s1).length) 4 ((-1))) (8, (pH s1).length) 5 0) (9, (pH s1).length) 1 (nI 0)) (11, (pH s1).length) 1 (nI 0)) (13, (pH s1).length) 1 (nI 0)) (27, 0) 8 (nI (((pH s1).length) + 1))) (31, 0) ((pL s1).length) (lN ((pH s1).length))) (30, 0) 1 (nI ((pL s1).length + 1))) := Cmp.nil (by rw [newH_len]; exact Nat.le_refl _)
      have hSn : EqF (onD s0) M (ui (ul (ui (ui (ui (ui (ul (ui (ui M1 (8, (pH s1).length) 3 (nI 12)) (8, (pH s1).length) 4 ((-1))) (8, (pH s1).length) 5 0) (9, (pH s1).length) 1 (nI 0)) (11, (pH s1).length) 1 (nI 0)) (13, (pH s1).length) 1 (nI 0)) (27, 0) 8 (nI (((pH s1).length) + 1))) (31, 0) ((pL s1).length) (lN ((pH s1).length))) (30, 0) 1 (nI ((pL s1).length + 1))) := hS1.tr (eqF_new.sub fun k j z => by have z2 := onD_pre hp1 z; unfold onD at z2; omega)
      rw [rTh1_b hc1 hc2]
      rw [show rBody row al rec 12 b1 s0.1 (pH s1).length (newH 12 s1) = rBytes row (b1 / 2) s0.1 (pH s1).length (newH 12 s1) from rfl]
      refine r_call2 (d2 := d - 1) (c_readBytes (m := b1 / 2) (np := s0.1) (d := d - 1) hG (by omega) hN1 hy1 rfl hpt1 hcm1 (by omega)) hSn (fun k j z => ⟨onD_pre (hp1.tr Pre.new) z, fun w => by have z2 := onD_pre hp1 z; unfold onD at z2; omega⟩) rfl rfl v_2_122 rfl rfl (by decide) rfl rfl (Nat.le_of_ble_eq_true rfl) (by omega) (fun b2 s2 M2 e2 hq2 hE2 hS2 => ?_)
      refine x_goto rfl rfl ?_
      refine x_bipush (v := nI 7) rfl rfl (by decide +kernel) ?_
      refine x_iload rfl rfl rfl ?_
      refine x_i2lN (a := (pH s1).length) (by omega) rfl rfl ?_
      refine x_callSl (d2 := 0) (c_valueOf hG (nI 7) (lN ((pH s1).length))) rfl rfl s_2_80 rfl rfl (Nat.le_of_ble_eq_true rfl) (by omega) (by omega) ?_
      refine x_topL (v := 16 * (lN ((pH s1).length)) + 7) (by rw [show (nI 7).toInt64 = 7 by decide +kernel]) ?_
      exact r_retL2 rfl hS2 ⟨hq2.1, by rw [← hph1]; exact hq2.2⟩ rfl rfl rfl
  · rw [rTh1_k hc1]
    refine x_aload_n rfl rfl rfl ?_
    refine x_iload_n rfl rfl rfl ?_
    refine x_iload rfl rfl rfl ?_
    refine x_iconstN (b := 2) rfl rfl ?_
    refine x_idivN (a := b1) (b := 2) (by omega) (by omega) (by omega) rfl rfl ?_
    refine x_iload rfl rfl rfl ?_
    refine r_call2 (d2 := 7) (((c_knownThing (kd := 12) (j := b1 / 2) (np := s0.1) hG (Nat.le_refl 7) hw1 (by omega) (by omega)).two).weak (Ps := fun _ s' M' => RdC row al s' M' ∧ pH s' = pH s1) (fun b s' M' e9 _ z => ⟨z, rKnown_s e9⟩)) hS1 (fun k j z => onD_pre hp1 z) rfl rfl v_2_103 rfl rfl (by decide) rfl rfl (Nat.le_of_ble_eq_true rfl) (by omega) (fun b2 s2 M2 e2 hq2 hE2 hS2 => ?_)
    have hw2 := hq2.1
    exact r_retL2 rfl hS2 ⟨hw2, Cmp.nil (by rw [hq2.2, hph1]; exact Nat.le_refl _)⟩ rfl rfl rfl
set_option maxHeartbeats 4000000 in
set_option maxRecDepth 20000 in
theorem c_readThing_9 (hG : Gok G) {row : List Nat} {al : List Int64} {s0 : RS} (hw0 : RdC row al s0 M) (hd : 12 ≤ d) {dp dv : Nat} {rec : Rec} (hrec : RV G row al dv (dp + 1) rec) (hpre : RecPre rec) (hdv : dv + 3 ≤ d) (hdp : dp < 12) {kp : Nat} : CR2 G mX2_readThing d [.ref (ga G (27, 0)), .int (nI 9), .int (nI kp), .int (nI dp)] M (onD s0) (fun _ s' M' => RdC row al s' M' ∧ Cmp (pH s0).length s' M') vLng (rTh row al (some rec) 9 kp s0) := by
  have hS0 : EqF (onD s0) M M := EqF.rf
  have hp0 : Pre s0 s0 := Pre.rf
  have hA0 := hw0.2.1.1
  have hL6 := hw0.2.2.2.2.2.2.1
  unfold rTh
  refine r_of2 hG okX2_readThing (by decide +kernel) rfl (Nat.le_of_ble_eq_true rfl) ?_
  refine x_aload_n rfl rfl rfl ?_
  refine x_getIv (v := nI (s0.1)) hw0.1.1 rfl rfl f_2_58 rfl (by decide) rfl ?_
  refine x_istore rfl rfl rfl rfl ?_
  refine x_aload_n rfl rfl rfl ?_
  refine r_call2 (d2 := 7) ((c_readNumber hG (Nat.le_refl 7) hw0).two) hS0 (fun k j z => by unfold onD at z; unfold onA; omega) rfl rfl v_2_91 rfl rfl (by decide) rfl rfl (Nat.le_of_ble_eq_true rfl) (by omega) (fun b1 s1 M1 e1 hq1 hE1 hS1 => ?_)
  have hz1 : s1.2.2 = s0.2.2 := by rw [(rNumF_2 e1).1]
  have hn1 := rNum_lt hq1.2.2.2.2.2.2.2.1 e1
  have hw1 := hq1
  have hph1 : pH s1 = pH s0 := by unfold pH; rw [hz1]
  have hp1 := hp0.tr (Pre.of2 hz1)
  have hHH1 := hw1.2.2.2.1.2.2.1
  have hLH1 := hw1.2.2.2.1.2.2.2.2.1
  refine x_istore rfl rfl rfl rfl ?_
  dsimp only
  refine x_iload rfl rfl rfl ?_
  refine x_iconstN (b := 2) rfl rfl ?_
  refine x_iremN (a := b1) (b := 2) (by omega) (by omega) (by omega) rfl rfl ?_
  refine x_ifN_ne (by omega) rfl rfl (fun hc1 => ?_) (fun hc1 => ?_)
  · refine x_aload_n rfl rfl rfl ?_
    refine x_getIv (v := nI ((pH s1).length)) hw1.2.2.1.2.2.2.2.2.2.1 rfl rfl f_2_57 rfl (by decide) rfl ?_
    refine x_bipush (v := nI 40) rfl rfl (by decide +kernel) ?_
    refine x_icmpN_eq (by omega) (by omega) rfl rfl (fun hc2 => ?_) (fun hc2 => ?_)
    · refine x_aload_n rfl rfl rfl ?_
      refine x_iload_n rfl rfl rfl ?_
      exact r_stop2 (f := kp) (rTh1_f hc1 hc2) (c_stopAt hG (Nat.le_refl 6) _) (hS1.fo.ui (by simp [fq])) (by simp [ui]) rfl rfl v_2_88 rfl rfl (by decide) rfl rfl (Nat.le_of_ble_eq_true rfl) (by omega)
    · refine x_iload_n rfl rfl rfl ?_
      refine x_bipush (v := nI 12) rfl rfl (by decide +kernel) ?_
      refine x_icmpN_ne (by omega) (by omega) rfl rfl (fun hc3 => ?_) (fun hc3 => absurd hc3 (by omega))
      refine x_aload_n rfl rfl rfl ?_
      refine x_getIv (v := nI ((pH s1).length)) hw1.2.2.1.2.2.2.2.2.2.1 rfl rfl f_2_57 rfl (by decide) rfl ?_
      refine x_istore rfl rfl rfl rfl ?_
      refine x_aload_n rfl rfl rfl ?_
      refine x_getR0 rfl rfl f_2_30 rfl (by decide) rfl rfl ?_
      refine x_getR0 rfl rfl f_2_106 rfl (by decide) rfl rfl ?_
      refine x_iload rfl rfl rfl ?_
      refine x_aaldi (a := (pH s1).length) rfl rfl rfl (by decide) (by decide) (by omega) (by decide) rfl ?_
      refine x_astore rfl rfl rfl rfl ?_
      refine x_aload rfl rfl rfl ?_
      refine x_iload_n rfl rfl rfl ?_
      refine x_callVv (d2 := 1) (c_Th_become hG (Nat.le_refl 1) (by omega) (nI 9)) rfl rfl v_2_109 rfl rfl (by show _ < 40; omega) rfl rfl (Nat.le_of_ble_eq_true rfl) (by omega) (by omega) ?_
      refine x_aload_n rfl rfl rfl ?_
      refine x_dup rfl rfl rfl ?_
      refine x_getIv (v := nI ((pH s1).length)) (by first | exact hw1.2.2.1.2.2.2.2.2.2.1 | (rw [← hw1.2.2.1.2.2.2.2.2.2.1]; rfl) | simp [ui, ul, hw1.2.2.1.2.2.2.2.2.2.1]) rfl rfl f_2_57 rfl (by decide) rfl ?_
      refine x_iconstN (b := 1) rfl rfl ?_
      refine x_iaddN (a := (pH s1).length) (b := 1) rfl rfl ?_
      refine x_putI rfl rfl f_2_57 rfl rfl (by decide) rfl ?_
      refine x_aload_n rfl rfl rfl ?_
      refine x_getR0 rfl rfl f_2_20 rfl (by decide) rfl rfl ?_
      refine x_iload rfl rfl rfl ?_
      refine x_i2lN (a := (pH s1).length) (by omega) rfl rfl ?_
      refine x_callVv (d2 := 0) (c_LL_add (len := (pL s1).length) hG (lk_30 (by decide)) (lN ((pH s1).length)) (by first | exact (ll_map hw1.2.2.1.1) | (rw [← (ll_map hw1.2.2.1.1)]; rfl) | simp [ui, ul, (ll_map hw1.2.2.1.1)]) (by omega)) rfl rfl v_2_114 rfl rfl (by decide) rfl rfl (Nat.le_of_ble_eq_true rfl) (by omega) (by omega) ?_
      refine x_iload_n rfl rfl rfl ?_
      refine x_swIn (off := 64) (tg := 160) rfl (by decide +kernel) (by decide +kernel) rfl (by decide) ?_
      refine x_aload_n rfl rfl rfl ?_
      refine x_aload rfl rfl rfl ?_
      refine x_iload rfl rfl rfl ?_
      refine x_iconstN (b := 2) rfl rfl ?_
      refine x_idivN (a := b1) (b := 2) (by omega) (by omega) (by omega) rfl rfl ?_
      refine x_iload rfl rfl rfl ?_
      refine x_iload_n rfl rfl rfl ?_
      refine x_iconstN (b := 1) rfl rfl ?_
      refine x_iaddN (a := dp) (b := 1) rfl rfl ?_
      have hlt : (pH s1).length < 40 := by have := hw1.2.2.2.1.2.2.1; omega
      have hN1 : RdC row al (newH 9 s1) (ui (ul (ui (ui (ui (ui (ul (ui (ui M1 (8, (pH s1).length) 3 (nI 9)) (8, (pH s1).length) 4 ((-1))) (8, (pH s1).length) 5 0) (9, (pH s1).length) 1 (nI 0)) (11, (pH s1).length) 1 (nI 0)) (13, (pH s1).length) 1 (nI 0)) (27, 0) 8 (nI (((pH s1).length) + 1))) (31, 0) ((pL s1).length) (lN ((pH s1).length))) (30, 0) 1 (nI ((pL s1).length + 1))) := hw1.new hlt (by decide)
      have hpt1 : Pt 9 (-1) 0 [] [] [] (pH s1).length (ui (ul (ui (ui (ui (ui (ul (ui (ui M1 (8, (pH s1).length) 3 (nI 9)) (8, (pH s1).length) 4 ((-1))) (8, (pH s1).length) 5 0) (9, (pH s1).length) 1 (nI 0)) (11, (pH s1).length) 1 (nI 0)) (13, (pH s1).length) 1 (nI 0)) (27, 0) 8 (nI (((pH s1).length) + 1))) (31, 0) ((pL s1).length) (lN ((pH s1).length))) (30, 0) 1 (nI ((pL s1).length + 1))) := Pt.new
      have hy1 := newH_at 9 s1
      have hcm1 : Cmp ((pH s1).length + 1) (newH 9 s1) (ui (ul (ui (ui (ui (ui (ul (ui (ui M1 (8, (pH s1).length) 3 (nI 9)) (8, (pH s1).length) 4 ((-1))) (8, (pH s1).length) 5 0) (9, (pH s1).length) 1 (nI 0)) (11, (pH s1).length) 1 (nI 0)) (13, (pH s1).length) 1 (nI 0)) (27, 0) 8 (nI (((pH s1).length) + 1))) (31, 0) ((pL s1).length) (lN ((pH s1).length))) (30, 0) 1 (nI ((pL s1).length + 1))) := Cmp.nil (by rw [newH_len]; exact Nat.le_refl _)
      have hSn : EqF (onD s0) M (ui (ul (ui (ui (ui (ui (ul (ui (ui M1 (8, (pH s1).length) 3 (nI 9)) (8, (pH s1).length) 4 ((-1))) (8, (pH s1).length) 5 0) (9, (pH s1).length) 1 (nI 0)) (11, (pH s1).length) 1 (nI 0)) (13, (pH s1).length) 1 (nI 0)) (27, 0) 8 (nI (((pH s1).length) + 1))) (31, 0) ((pL s1).length) (lN ((pH s1).length))) (30, 0) 1 (nI ((pL s1).length + 1))) := hS1.tr (eqF_new.sub fun k j z => by have z2 := onD_pre hp1 z; unfold onD at z2; omega)
      rw [rTh1_b hc1 hc2]
      rw [show rBody row al rec 9 b1 s0.1 (pH s1).length (newH 9 s1) = rArr row rec (b1 / 2) s0.1 (pH s1).length (newH 9 s1) from rfl]
      refine r_call2 (d2 := d - 1) (c_readArray (m := b1 / 2) (np := s0.1) (d := d - 1) hG (by omega) hN1 hy1 rfl hpt1 hcm1 hrec hpre (by omega) (by omega)) hSn (fun k j z => ⟨onD_pre (hp1.tr Pre.new) z, fun w => by have z2 := onD_pre hp1 z; unfold onD at z2; omega⟩) rfl rfl v_2_125 rfl rfl (by decide) rfl rfl (Nat.le_of_ble_eq_true rfl) (by omega) (fun b2 s2 M2 e2 hq2 hE2 hS2 => ?_)
      refine x_goto rfl rfl ?_
      refine x_bipush (v := nI 7) rfl rfl (by decide +kernel) ?_
      refine x_iload rfl rfl rfl ?_
      refine x_i2lN (a := (pH s1).length) (by omega) rfl rfl ?_
      refine x_callSl (d2 := 0) (c_valueOf hG (nI 7) (lN ((pH s1).length))) rfl rfl s_2_80 rfl rfl (Nat.le_of_ble_eq_true rfl) (by omega) (by omega) ?_
      refine x_topL (v := 16 * (lN ((pH s1).length)) + 7) (by rw [show (nI 7).toInt64 = 7 by decide +kernel]) ?_
      exact r_retL2 rfl hS2 ⟨hq2.1, by rw [← hph1]; exact hq2.2⟩ rfl rfl rfl
  · rw [rTh1_k hc1]
    refine x_aload_n rfl rfl rfl ?_
    refine x_iload_n rfl rfl rfl ?_
    refine x_iload rfl rfl rfl ?_
    refine x_iconstN (b := 2) rfl rfl ?_
    refine x_idivN (a := b1) (b := 2) (by omega) (by omega) (by omega) rfl rfl ?_
    refine x_iload rfl rfl rfl ?_
    refine r_call2 (d2 := 7) (((c_knownThing (kd := 9) (j := b1 / 2) (np := s0.1) hG (Nat.le_refl 7) hw1 (by omega) (by omega)).two).weak (Ps := fun _ s' M' => RdC row al s' M' ∧ pH s' = pH s1) (fun b s' M' e9 _ z => ⟨z, rKnown_s e9⟩)) hS1 (fun k j z => onD_pre hp1 z) rfl rfl v_2_103 rfl rfl (by decide) rfl rfl (Nat.le_of_ble_eq_true rfl) (by omega) (fun b2 s2 M2 e2 hq2 hE2 hS2 => ?_)
    have hw2 := hq2.1
    exact r_retL2 rfl hS2 ⟨hw2, Cmp.nil (by rw [hq2.2, hph1]; exact Nat.le_refl _)⟩ rfl rfl rfl
set_option maxHeartbeats 4000000 in
set_option maxRecDepth 20000 in
theorem c_readThing_10 (hG : Gok G) {row : List Nat} {al : List Int64} {s0 : RS} (hw0 : RdC row al s0 M) (hd : 12 ≤ d) {dp dv : Nat} {rec : Rec} (hrec : RV G row al dv (dp + 1) rec) (hpre : RecPre rec) (hdv : dv + 3 ≤ d) (hdp : dp < 12) {kp : Nat} : CR2 G mX2_readThing d [.ref (ga G (27, 0)), .int (nI 10), .int (nI kp), .int (nI dp)] M (onD s0) (fun _ s' M' => RdC row al s' M' ∧ Cmp (pH s0).length s' M') vLng (rTh row al (some rec) 10 kp s0) := by
  have hS0 : EqF (onD s0) M M := EqF.rf
  have hp0 : Pre s0 s0 := Pre.rf
  have hA0 := hw0.2.1.1
  have hL6 := hw0.2.2.2.2.2.2.1
  unfold rTh
  refine r_of2 hG okX2_readThing (by decide +kernel) rfl (Nat.le_of_ble_eq_true rfl) ?_
  refine x_aload_n rfl rfl rfl ?_
  refine x_getIv (v := nI (s0.1)) hw0.1.1 rfl rfl f_2_58 rfl (by decide) rfl ?_
  refine x_istore rfl rfl rfl rfl ?_
  refine x_aload_n rfl rfl rfl ?_
  refine r_call2 (d2 := 7) ((c_readNumber hG (Nat.le_refl 7) hw0).two) hS0 (fun k j z => by unfold onD at z; unfold onA; omega) rfl rfl v_2_91 rfl rfl (by decide) rfl rfl (Nat.le_of_ble_eq_true rfl) (by omega) (fun b1 s1 M1 e1 hq1 hE1 hS1 => ?_)
  have hz1 : s1.2.2 = s0.2.2 := by rw [(rNumF_2 e1).1]
  have hn1 := rNum_lt hq1.2.2.2.2.2.2.2.1 e1
  have hw1 := hq1
  have hph1 : pH s1 = pH s0 := by unfold pH; rw [hz1]
  have hp1 := hp0.tr (Pre.of2 hz1)
  have hHH1 := hw1.2.2.2.1.2.2.1
  have hLH1 := hw1.2.2.2.1.2.2.2.2.1
  refine x_istore rfl rfl rfl rfl ?_
  dsimp only
  refine x_iload rfl rfl rfl ?_
  refine x_iconstN (b := 2) rfl rfl ?_
  refine x_iremN (a := b1) (b := 2) (by omega) (by omega) (by omega) rfl rfl ?_
  refine x_ifN_ne (by omega) rfl rfl (fun hc1 => ?_) (fun hc1 => ?_)
  · refine x_aload_n rfl rfl rfl ?_
    refine x_getIv (v := nI ((pH s1).length)) hw1.2.2.1.2.2.2.2.2.2.1 rfl rfl f_2_57 rfl (by decide) rfl ?_
    refine x_bipush (v := nI 40) rfl rfl (by decide +kernel) ?_
    refine x_icmpN_eq (by omega) (by omega) rfl rfl (fun hc2 => ?_) (fun hc2 => ?_)
    · refine x_aload_n rfl rfl rfl ?_
      refine x_iload_n rfl rfl rfl ?_
      exact r_stop2 (f := kp) (rTh1_f hc1 hc2) (c_stopAt hG (Nat.le_refl 6) _) (hS1.fo.ui (by simp [fq])) (by simp [ui]) rfl rfl v_2_88 rfl rfl (by decide) rfl rfl (Nat.le_of_ble_eq_true rfl) (by omega)
    · refine x_iload_n rfl rfl rfl ?_
      refine x_bipush (v := nI 12) rfl rfl (by decide +kernel) ?_
      refine x_icmpN_ne (by omega) (by omega) rfl rfl (fun hc3 => ?_) (fun hc3 => absurd hc3 (by omega))
      refine x_aload_n rfl rfl rfl ?_
      refine x_getIv (v := nI ((pH s1).length)) hw1.2.2.1.2.2.2.2.2.2.1 rfl rfl f_2_57 rfl (by decide) rfl ?_
      refine x_istore rfl rfl rfl rfl ?_
      refine x_aload_n rfl rfl rfl ?_
      refine x_getR0 rfl rfl f_2_30 rfl (by decide) rfl rfl ?_
      refine x_getR0 rfl rfl f_2_106 rfl (by decide) rfl rfl ?_
      refine x_iload rfl rfl rfl ?_
      refine x_aaldi (a := (pH s1).length) rfl rfl rfl (by decide) (by decide) (by omega) (by decide) rfl ?_
      refine x_astore rfl rfl rfl rfl ?_
      refine x_aload rfl rfl rfl ?_
      refine x_iload_n rfl rfl rfl ?_
      refine x_callVv (d2 := 1) (c_Th_become hG (Nat.le_refl 1) (by omega) (nI 10)) rfl rfl v_2_109 rfl rfl (by show _ < 40; omega) rfl rfl (Nat.le_of_ble_eq_true rfl) (by omega) (by omega) ?_
      refine x_aload_n rfl rfl rfl ?_
      refine x_dup rfl rfl rfl ?_
      refine x_getIv (v := nI ((pH s1).length)) (by first | exact hw1.2.2.1.2.2.2.2.2.2.1 | (rw [← hw1.2.2.1.2.2.2.2.2.2.1]; rfl) | simp [ui, ul, hw1.2.2.1.2.2.2.2.2.2.1]) rfl rfl f_2_57 rfl (by decide) rfl ?_
      refine x_iconstN (b := 1) rfl rfl ?_
      refine x_iaddN (a := (pH s1).length) (b := 1) rfl rfl ?_
      refine x_putI rfl rfl f_2_57 rfl rfl (by decide) rfl ?_
      refine x_aload_n rfl rfl rfl ?_
      refine x_getR0 rfl rfl f_2_20 rfl (by decide) rfl rfl ?_
      refine x_iload rfl rfl rfl ?_
      refine x_i2lN (a := (pH s1).length) (by omega) rfl rfl ?_
      refine x_callVv (d2 := 0) (c_LL_add (len := (pL s1).length) hG (lk_30 (by decide)) (lN ((pH s1).length)) (by first | exact (ll_map hw1.2.2.1.1) | (rw [← (ll_map hw1.2.2.1.1)]; rfl) | simp [ui, ul, (ll_map hw1.2.2.1.1)]) (by omega)) rfl rfl v_2_114 rfl rfl (by decide) rfl rfl (Nat.le_of_ble_eq_true rfl) (by omega) (by omega) ?_
      refine x_iload_n rfl rfl rfl ?_
      refine x_swIn (off := 82) (tg := 178) rfl (by decide +kernel) (by decide +kernel) rfl (by decide) ?_
      refine x_aload_n rfl rfl rfl ?_
      refine x_aload rfl rfl rfl ?_
      refine x_iload rfl rfl rfl ?_
      refine x_iload rfl rfl rfl ?_
      refine x_iload_n rfl rfl rfl ?_
      refine x_iconstN (b := 1) rfl rfl ?_
      refine x_iaddN (a := dp) (b := 1) rfl rfl ?_
      have hlt : (pH s1).length < 40 := by have := hw1.2.2.2.1.2.2.1; omega
      have hN1 : RdC row al (newH 10 s1) (ui (ul (ui (ui (ui (ui (ul (ui (ui M1 (8, (pH s1).length) 3 (nI 10)) (8, (pH s1).length) 4 ((-1))) (8, (pH s1).length) 5 0) (9, (pH s1).length) 1 (nI 0)) (11, (pH s1).length) 1 (nI 0)) (13, (pH s1).length) 1 (nI 0)) (27, 0) 8 (nI (((pH s1).length) + 1))) (31, 0) ((pL s1).length) (lN ((pH s1).length))) (30, 0) 1 (nI ((pL s1).length + 1))) := hw1.new hlt (by decide)
      have hpt1 : Pt 10 (-1) 0 [] [] [] (pH s1).length (ui (ul (ui (ui (ui (ui (ul (ui (ui M1 (8, (pH s1).length) 3 (nI 10)) (8, (pH s1).length) 4 ((-1))) (8, (pH s1).length) 5 0) (9, (pH s1).length) 1 (nI 0)) (11, (pH s1).length) 1 (nI 0)) (13, (pH s1).length) 1 (nI 0)) (27, 0) 8 (nI (((pH s1).length) + 1))) (31, 0) ((pL s1).length) (lN ((pH s1).length))) (30, 0) 1 (nI ((pL s1).length + 1))) := Pt.new
      have hy1 := newH_at 10 s1
      have hcm1 : Cmp ((pH s1).length + 1) (newH 10 s1) (ui (ul (ui (ui (ui (ui (ul (ui (ui M1 (8, (pH s1).length) 3 (nI 10)) (8, (pH s1).length) 4 ((-1))) (8, (pH s1).length) 5 0) (9, (pH s1).length) 1 (nI 0)) (11, (pH s1).length) 1 (nI 0)) (13, (pH s1).length) 1 (nI 0)) (27, 0) 8 (nI (((pH s1).length) + 1))) (31, 0) ((pL s1).length) (lN ((pH s1).length))) (30, 0) 1 (nI ((pL s1).length + 1))) := Cmp.nil (by rw [newH_len]; exact Nat.le_refl _)
      have hSn : EqF (onD s0) M (ui (ul (ui (ui (ui (ui (ul (ui (ui M1 (8, (pH s1).length) 3 (nI 10)) (8, (pH s1).length) 4 ((-1))) (8, (pH s1).length) 5 0) (9, (pH s1).length) 1 (nI 0)) (11, (pH s1).length) 1 (nI 0)) (13, (pH s1).length) 1 (nI 0)) (27, 0) 8 (nI (((pH s1).length) + 1))) (31, 0) ((pL s1).length) (lN ((pH s1).length))) (30, 0) 1 (nI ((pL s1).length + 1))) := hS1.tr (eqF_new.sub fun k j z => by have z2 := onD_pre hp1 z; unfold onD at z2; omega)
      have hRL : (pR (newH 10 s1)).length < (pL (newH 10 s1)).length := by have := hw1.2.2.2.1.2.2.2.1; show (pR s1).length < (pL s1 ++ [(pH s1).length]).length; simp; omega
      rw [rTh1_b hc1 hc2]
      rw [show rBody row al rec 10 b1 s0.1 (pH s1).length (newH 10 s1) = rObj row al rec b1 s0.1 (pH s1).length (newH 10 s1) from rfl]
      refine r_call2 (d2 := d - 1) (c_readObject (nn := b1) (np := s0.1) (d := d - 1) hG (by omega) hN1 hy1 rfl hpt1 hcm1 hrec hpre (by omega) hn1 hRL) hSn (fun k j z => ⟨onD_pre (hp1.tr Pre.new) z, fun w => by have z2 := onD_pre hp1 z; unfold onD at z2; omega⟩) rfl rfl v_2_129 rfl rfl (by decide) rfl rfl (Nat.le_of_ble_eq_true rfl) (by omega) (fun b2 s2 M2 e2 hq2 hE2 hS2 => ?_)
      refine x_bipush (v := nI 7) rfl rfl (by decide +kernel) ?_
      refine x_iload rfl rfl rfl ?_
      refine x_i2lN (a := (pH s1).length) (by omega) rfl rfl ?_
      refine x_callSl (d2 := 0) (c_valueOf hG (nI 7) (lN ((pH s1).length))) rfl rfl s_2_80 rfl rfl (Nat.le_of_ble_eq_true rfl) (by omega) (by omega) ?_
      refine x_topL (v := 16 * (lN ((pH s1).length)) + 7) (by rw [show (nI 7).toInt64 = 7 by decide +kernel]) ?_
      exact r_retL2 rfl hS2 ⟨hq2.1, by rw [← hph1]; exact hq2.2⟩ rfl rfl rfl
  · rw [rTh1_k hc1]
    refine x_aload_n rfl rfl rfl ?_
    refine x_iload_n rfl rfl rfl ?_
    refine x_iload rfl rfl rfl ?_
    refine x_iconstN (b := 2) rfl rfl ?_
    refine x_idivN (a := b1) (b := 2) (by omega) (by omega) (by omega) rfl rfl ?_
    refine x_iload rfl rfl rfl ?_
    refine r_call2 (d2 := 7) (((c_knownThing (kd := 10) (j := b1 / 2) (np := s0.1) hG (Nat.le_refl 7) hw1 (by omega) (by omega)).two).weak (Ps := fun _ s' M' => RdC row al s' M' ∧ pH s' = pH s1) (fun b s' M' e9 _ z => ⟨z, rKnown_s e9⟩)) hS1 (fun k j z => onD_pre hp1 z) rfl rfl v_2_103 rfl rfl (by decide) rfl rfl (Nat.le_of_ble_eq_true rfl) (by omega) (fun b2 s2 M2 e2 hq2 hE2 hS2 => ?_)
    have hw2 := hq2.1
    exact r_retL2 rfl hS2 ⟨hw2, Cmp.nil (by rw [hq2.2, hph1]; exact Nat.le_refl _)⟩ rfl rfl rfl
theorem rv1_x {row : List Nat} {al : List Int64} {rec : Option Rec} {kp k : Nat} {s : RS} (h4 : ¬ k = 4) (h5 : ¬ k = 5) (h6 : ¬ k = 6) (h8 : ¬ (k = 8 ∨ k = 9 ∨ k = 10 ∨ k = 12)) (h3 : 3 < k) : rv1 row al rec kp k s = .inl kp := by
  unfold rv1; rw [if_neg h4, if_neg h5, if_neg h6, if_neg h8, if_pos h3]
theorem rv1_s {row : List Nat} {al : List Int64} {rec : Option Rec} {kp k : Nat} {s : RS} (h3 : k ≤ 3) : rv1 row al rec kp k s = .inr (lN k, s) := by
  unfold rv1; rw [if_neg (by omega), if_neg (by omega), if_neg (by omega), if_neg (by omega), if_neg (by omega)]
set_option maxHeartbeats 4000000 in
set_option maxRecDepth 20000 in
theorem c_readValue0 (hG : Gok G) {row : List Nat} {al : List Int64} {s0 : RS} (hw0 : RdC row al s0 M) (hd : 9 ≤ d) : CR2 G mX2_readValue d [.ref (ga G (27, 0)), .int (nI 12)] M (onD s0) (fun _ s' M' => RdC row al s' M' ∧ Cmp (pH s0).length s' M') vLng (rvS row al none s0) := by
  have hS0 : EqF (onD s0) M M := EqF.rf
  have hp0 : Pre s0 s0 := Pre.rf
  have hA0 := hw0.2.1.1
  have hL6 := hw0.2.2.2.2.2.2.1
  unfold rvS
  refine r_of2 hG okX2_readValue (by decide +kernel) rfl (Nat.le_of_ble_eq_true rfl) ?_
  refine x_aload_n rfl rfl rfl ?_
  refine x_getIv (v := nI (s0.1)) hw0.1.1 rfl rfl f_2_58 rfl (by decide) rfl ?_
  refine x_istore_n rfl rfl rfl rfl ?_
  refine x_aload_n rfl rfl rfl ?_
  refine r_call2 (d2 := 6) ((c_readByte hG (Nat.le_refl 6) hw0).two) hS0 (fun k j z => by unfold onD at z; unfold onA; omega) rfl rfl v_2_65 rfl rfl (by decide) rfl rfl (Nat.le_of_ble_eq_true rfl) (by omega) (fun b1 s1 M1 e1 hq1 hE1 hS1 => ?_)
  have hz1 : s1.2.2 = s0.2.2 := by rw [(rByte_inr e1).1]
  have hb1 := b256 hq1 e1
  have hw1 := hq1
  have hph1 : pH s1 = pH s0 := by unfold pH; rw [hz1]
  have hp1 := hp0.tr (Pre.of2 hz1)
  have hHH1 := hw1.2.2.2.1.2.2.1
  have hLH1 := hw1.2.2.2.1.2.2.2.2.1
  refine x_istore_n rfl rfl rfl rfl ?_
  dsimp only
  refine x_iload_n rfl rfl rfl ?_
  by_cases hs4 : b1 = 4
  · rw [hs4]
    refine x_swIn (off := 49) (tg := 60) rfl (by decide +kernel) (by decide +kernel) rfl (by decide) ?_
    rw [show rv1 row al none s0.1 4 s1 = rb (rInt row s1) (fun q => .inr q) from (rb_inr _).symm]
    refine x_aload_n rfl rfl rfl ?_
    refine r_call2 (d2 := 8) (((c_readInteger hG (Nat.le_refl 8) hw1).two.onn (on := onD s0) (fun k j z => by unfold onD at z; unfold onA; omega)).weak (Ps := fun _ s' M' => RdC row al s' M' ∧ pH s' = pH s1) (fun b s' M' e9 _ z => ⟨z, by unfold pH; rw [rInt_2 e9]⟩)) hS1 (fun k j z => z) rfl rfl v_2_69 rfl rfl (by decide) rfl rfl (Nat.le_of_ble_eq_true rfl) (by omega) (fun b2 s2 M2 e2 hq2 hE2 hS2 => ?_)
    exact r_retL2 rfl hS2 ⟨hq2.1, Cmp.nil (by rw [hq2.2, hph1]; exact Nat.le_refl _)⟩ rfl rfl rfl
  by_cases hs5 : b1 = 5
  · rw [hs5]
    refine x_swIn (off := 54) (tg := 65) rfl (by decide +kernel) (by decide +kernel) rfl (by decide) ?_
    rw [show rv1 row al none s0.1 5 s1 = rb (rWide row s0.1 s1) (fun q => .inr q) from (rb_inr _).symm]
    refine x_aload_n rfl rfl rfl ?_
    refine x_iload_n rfl rfl rfl ?_
    refine r_call2 (d2 := 8) (((c_readWide hG (Nat.le_refl 8) hw1).two.onn (on := onD s0) (fun k j z => onD_pre hp1 z)).weak (Ps := fun _ s' M' => RdC row al s' M' ∧ pH s' = pH s1) (fun b s' M' e9 _ z => ⟨z, (rWide_H e9).2⟩)) hS1 (fun k j z => z) rfl rfl v_2_73 rfl rfl (by decide) rfl rfl (Nat.le_of_ble_eq_true rfl) (by omega) (fun b2 s2 M2 e2 hq2 hE2 hS2 => ?_)
    exact r_retL2 rfl hS2 ⟨hq2.1, Cmp.nil (by rw [hq2.2, hph1]; exact Nat.le_refl _)⟩ rfl rfl rfl
  by_cases hs6 : b1 = 6
  · rw [hs6]
    refine x_swIn (off := 60) (tg := 71) rfl (by decide +kernel) (by decide +kernel) rfl (by decide) ?_
    rw [show rv1 row al none s0.1 6 s1 = rb (rStr row s1) (fun q => .inr (16 * q.1 + 6, q.2)) from rfl]
    refine x_bipush (v := nI 6) rfl rfl (by decide +kernel) ?_
    refine x_aload_n rfl rfl rfl ?_
    refine r_call2 (d2 := 8) (((c_readString hG (Nat.le_refl 8) hw1).two.onn (on := onD s0) (fun k j z => by unfold onD at z; unfold onA; omega)).weak (Ps := fun _ s' M' => RdC row al s' M' ∧ pH s' = pH s1) (fun b s' M' e9 _ z => ⟨z, by unfold pH; rw [(rStr_2 e9).1]⟩)) hS1 (fun k j z => z) rfl rfl v_2_77 rfl rfl (by decide) rfl rfl (Nat.le_of_ble_eq_true rfl) (by omega) (fun b2 s2 M2 e2 hq2 hE2 hS2 => ?_)
    refine x_callSl (d2 := 0) (c_valueOf hG (nI 6) (b2)) rfl rfl s_2_80 rfl rfl (Nat.le_of_ble_eq_true rfl) (by omega) (by omega) ?_
    refine x_topL (v := 16 * b2 + 6) (by rw [show (nI 6).toInt64 = 6 by decide +kernel]) ?_
    exact r_retL2 rfl hS2 ⟨hq2.1, Cmp.nil (by rw [hq2.2, hph1]; exact Nat.le_refl _)⟩ rfl rfl rfl
  by_cases hs7 : b1 = 7
  · rw [hs7]
    refine x_swIn (off := 78) (tg := 89) rfl (by decide +kernel) (by decide +kernel) rfl (by decide) ?_
    refine x_iload_n rfl rfl rfl ?_
    refine x_iconstN (b := 3) rfl rfl ?_
    refine x_icmpN_le (by omega) (by omega) rfl rfl (fun hc1 => absurd hc1 (by decide)) (fun hc1 => ?_)
    refine x_aload_n rfl rfl rfl ?_
    refine x_iload_n rfl rfl rfl ?_
    exact r_stop2 (f := s0.1) (rv1_x (by decide) (by decide) (by decide) (by decide) (by decide)) (c_stopAt hG (Nat.le_refl 6) _) (hS1.fo.ui (by simp [fq])) (by simp [ui]) rfl rfl v_2_88 rfl rfl (by decide) rfl rfl (Nat.le_of_ble_eq_true rfl) (by omega)
  by_cases hs8 : b1 = 8
  · rw [hs8]
    refine x_swIn (off := 70) (tg := 81) rfl (by decide +kernel) (by decide +kernel) rfl (by decide) ?_
    rw [show rv1 row al none s0.1 8 s1 = rb (rTh row al none 8 s0.1 s1) (fun q => .inr q) from (rb_inr _).symm]
    refine x_aload_n rfl rfl rfl ?_
    refine x_iload_n rfl rfl rfl ?_
    refine x_iload_n rfl rfl rfl ?_
    refine x_iload_n rfl rfl rfl ?_
    refine r_call2 (d2 := (d - 1)) ((c_readThing0 (kd := 8) (kp := s0.1) (d := d - 1) hG hw1 (by omega) (by decide)).onn (on := onD s0) (fun k j z => onD_pre hp1 z)) hS1 (fun k j z => z) rfl rfl v_2_84 rfl rfl (by decide) rfl rfl (Nat.le_of_ble_eq_true rfl) (by omega) (fun b2 s2 M2 e2 hq2 hE2 hS2 => ?_)
    exact r_retL2 rfl hS2 ⟨hq2.1, by rw [← hph1]; exact hq2.2⟩ rfl rfl rfl
  by_cases hs9 : b1 = 9
  · rw [hs9]
    refine x_swIn (off := 70) (tg := 81) rfl (by decide +kernel) (by decide +kernel) rfl (by decide) ?_
    rw [show rv1 row al none s0.1 9 s1 = rb (rTh row al none 9 s0.1 s1) (fun q => .inr q) from (rb_inr _).symm]
    refine x_aload_n rfl rfl rfl ?_
    refine x_iload_n rfl rfl rfl ?_
    refine x_iload_n rfl rfl rfl ?_
    refine x_iload_n rfl rfl rfl ?_
    refine r_call2 (d2 := (d - 1)) ((c_readThing0 (kd := 9) (kp := s0.1) (d := d - 1) hG hw1 (by omega) (by decide)).onn (on := onD s0) (fun k j z => onD_pre hp1 z)) hS1 (fun k j z => z) rfl rfl v_2_84 rfl rfl (by decide) rfl rfl (Nat.le_of_ble_eq_true rfl) (by omega) (fun b2 s2 M2 e2 hq2 hE2 hS2 => ?_)
    exact r_retL2 rfl hS2 ⟨hq2.1, by rw [← hph1]; exact hq2.2⟩ rfl rfl rfl
  by_cases hs10 : b1 = 10
  · rw [hs10]
    refine x_swIn (off := 70) (tg := 81) rfl (by decide +kernel) (by decide +kernel) rfl (by decide) ?_
    rw [show rv1 row al none s0.1 10 s1 = rb (rTh row al none 10 s0.1 s1) (fun q => .inr q) from (rb_inr _).symm]
    refine x_aload_n rfl rfl rfl ?_
    refine x_iload_n rfl rfl rfl ?_
    refine x_iload_n rfl rfl rfl ?_
    refine x_iload_n rfl rfl rfl ?_
    refine r_call2 (d2 := (d - 1)) ((c_readThing0 (kd := 10) (kp := s0.1) (d := d - 1) hG hw1 (by omega) (by decide)).onn (on := onD s0) (fun k j z => onD_pre hp1 z)) hS1 (fun k j z => z) rfl rfl v_2_84 rfl rfl (by decide) rfl rfl (Nat.le_of_ble_eq_true rfl) (by omega) (fun b2 s2 M2 e2 hq2 hE2 hS2 => ?_)
    exact r_retL2 rfl hS2 ⟨hq2.1, by rw [← hph1]; exact hq2.2⟩ rfl rfl rfl
  by_cases hs11 : b1 = 11
  · rw [hs11]
    refine x_swIn (off := 78) (tg := 89) rfl (by decide +kernel) (by decide +kernel) rfl (by decide) ?_
    refine x_iload_n rfl rfl rfl ?_
    refine x_iconstN (b := 3) rfl rfl ?_
    refine x_icmpN_le (by omega) (by omega) rfl rfl (fun hc2 => absurd hc2 (by decide)) (fun hc2 => ?_)
    refine x_aload_n rfl rfl rfl ?_
    refine x_iload_n rfl rfl rfl ?_
    exact r_stop2 (f := s0.1) (rv1_x (by decide) (by decide) (by decide) (by decide) (by decide)) (c_stopAt hG (Nat.le_refl 6) _) (hS1.fo.ui (by simp [fq])) (by simp [ui]) rfl rfl v_2_88 rfl rfl (by decide) rfl rfl (Nat.le_of_ble_eq_true rfl) (by omega)
  by_cases hs12 : b1 = 12
  · rw [hs12]
    refine x_swIn (off := 70) (tg := 81) rfl (by decide +kernel) (by decide +kernel) rfl (by decide) ?_
    rw [show rv1 row al none s0.1 12 s1 = rb (rTh row al none 12 s0.1 s1) (fun q => .inr q) from (rb_inr _).symm]
    refine x_aload_n rfl rfl rfl ?_
    refine x_iload_n rfl rfl rfl ?_
    refine x_iload_n rfl rfl rfl ?_
    refine x_iload_n rfl rfl rfl ?_
    refine r_call2 (d2 := (d - 1)) ((c_readThing0 (kd := 12) (kp := s0.1) (d := d - 1) hG hw1 (by omega) (by decide)).onn (on := onD s0) (fun k j z => onD_pre hp1 z)) hS1 (fun k j z => z) rfl rfl v_2_84 rfl rfl (by decide) rfl rfl (Nat.le_of_ble_eq_true rfl) (by omega) (fun b2 s2 M2 e2 hq2 hE2 hS2 => ?_)
    exact r_retL2 rfl hS2 ⟨hq2.1, by rw [← hph1]; exact hq2.2⟩ rfl rfl rfl
  refine x_swOut (tg := 89) rfl (by rw [nI_toInt (by omega)]; omega) (by decide) ?_
  refine x_iload_n rfl rfl rfl ?_
  refine x_iconstN (b := 3) rfl rfl ?_
  refine x_icmpN_le (by omega) (by omega) rfl rfl (fun hc3 => ?_) (fun hc3 => ?_)
  · refine x_iload_n rfl rfl rfl ?_
    refine x_i2lN (a := b1) (by omega) rfl rfl ?_
    exact r_retL2 (rv1_s (by omega)) hS1 ⟨hw1, Cmp.nil (by rw [hph1]; exact Nat.le_refl _)⟩ rfl rfl rfl
  · refine x_aload_n rfl rfl rfl ?_
    refine x_iload_n rfl rfl rfl ?_
    exact r_stop2 (f := s0.1) (rv1_x (by omega) (by omega) (by omega) (by omega) (by omega)) (c_stopAt hG (Nat.le_refl 6) _) (hS1.fo.ui (by simp [fq])) (by simp [ui]) rfl rfl v_2_88 rfl rfl (by decide) rfl rfl (Nat.le_of_ble_eq_true rfl) (by omega)
set_option maxHeartbeats 4000000 in
set_option maxRecDepth 20000 in
theorem c_readValueS (hG : Gok G) {row : List Nat} {al : List Int64} {s0 : RS} (hw0 : RdC row al s0 M) (hd : 13 ≤ d) {dp dv : Nat} {rec : Rec} (hrec : RV G row al dv (dp + 1) rec) (hpre : RecPre rec) (hdv : dv + 4 ≤ d) (hdp : dp < 12) : CR2 G mX2_readValue d [.ref (ga G (27, 0)), .int (nI dp)] M (onD s0) (fun _ s' M' => RdC row al s' M' ∧ Cmp (pH s0).length s' M') vLng (rvS row al (some rec) s0) := by
  have hS0 : EqF (onD s0) M M := EqF.rf
  have hp0 : Pre s0 s0 := Pre.rf
  have hA0 := hw0.2.1.1
  have hL6 := hw0.2.2.2.2.2.2.1
  unfold rvS
  refine r_of2 hG okX2_readValue (by decide +kernel) rfl (Nat.le_of_ble_eq_true rfl) ?_
  refine x_aload_n rfl rfl rfl ?_
  refine x_getIv (v := nI (s0.1)) hw0.1.1 rfl rfl f_2_58 rfl (by decide) rfl ?_
  refine x_istore_n rfl rfl rfl rfl ?_
  refine x_aload_n rfl rfl rfl ?_
  refine r_call2 (d2 := 6) ((c_readByte hG (Nat.le_refl 6) hw0).two) hS0 (fun k j z => by unfold onD at z; unfold onA; omega) rfl rfl v_2_65 rfl rfl (by decide) rfl rfl (Nat.le_of_ble_eq_true rfl) (by omega) (fun b1 s1 M1 e1 hq1 hE1 hS1 => ?_)
  have hz1 : s1.2.2 = s0.2.2 := by rw [(rByte_inr e1).1]
  have hb1 := b256 hq1 e1
  have hw1 := hq1
  have hph1 : pH s1 = pH s0 := by unfold pH; rw [hz1]
  have hp1 := hp0.tr (Pre.of2 hz1)
  have hHH1 := hw1.2.2.2.1.2.2.1
  have hLH1 := hw1.2.2.2.1.2.2.2.2.1
  refine x_istore_n rfl rfl rfl rfl ?_
  dsimp only
  refine x_iload_n rfl rfl rfl ?_
  by_cases hs4 : b1 = 4
  · rw [hs4]
    refine x_swIn (off := 49) (tg := 60) rfl (by decide +kernel) (by decide +kernel) rfl (by decide) ?_
    rw [show rv1 row al (some rec) s0.1 4 s1 = rb (rInt row s1) (fun q => .inr q) from (rb_inr _).symm]
    refine x_aload_n rfl rfl rfl ?_
    refine r_call2 (d2 := 8) (((c_readInteger hG (Nat.le_refl 8) hw1).two.onn (on := onD s0) (fun k j z => by unfold onD at z; unfold onA; omega)).weak (Ps := fun _ s' M' => RdC row al s' M' ∧ pH s' = pH s1) (fun b s' M' e9 _ z => ⟨z, by unfold pH; rw [rInt_2 e9]⟩)) hS1 (fun k j z => z) rfl rfl v_2_69 rfl rfl (by decide) rfl rfl (Nat.le_of_ble_eq_true rfl) (by omega) (fun b2 s2 M2 e2 hq2 hE2 hS2 => ?_)
    exact r_retL2 rfl hS2 ⟨hq2.1, Cmp.nil (by rw [hq2.2, hph1]; exact Nat.le_refl _)⟩ rfl rfl rfl
  by_cases hs5 : b1 = 5
  · rw [hs5]
    refine x_swIn (off := 54) (tg := 65) rfl (by decide +kernel) (by decide +kernel) rfl (by decide) ?_
    rw [show rv1 row al (some rec) s0.1 5 s1 = rb (rWide row s0.1 s1) (fun q => .inr q) from (rb_inr _).symm]
    refine x_aload_n rfl rfl rfl ?_
    refine x_iload_n rfl rfl rfl ?_
    refine r_call2 (d2 := 8) (((c_readWide hG (Nat.le_refl 8) hw1).two.onn (on := onD s0) (fun k j z => onD_pre hp1 z)).weak (Ps := fun _ s' M' => RdC row al s' M' ∧ pH s' = pH s1) (fun b s' M' e9 _ z => ⟨z, (rWide_H e9).2⟩)) hS1 (fun k j z => z) rfl rfl v_2_73 rfl rfl (by decide) rfl rfl (Nat.le_of_ble_eq_true rfl) (by omega) (fun b2 s2 M2 e2 hq2 hE2 hS2 => ?_)
    exact r_retL2 rfl hS2 ⟨hq2.1, Cmp.nil (by rw [hq2.2, hph1]; exact Nat.le_refl _)⟩ rfl rfl rfl
  by_cases hs6 : b1 = 6
  · rw [hs6]
    refine x_swIn (off := 60) (tg := 71) rfl (by decide +kernel) (by decide +kernel) rfl (by decide) ?_
    rw [show rv1 row al (some rec) s0.1 6 s1 = rb (rStr row s1) (fun q => .inr (16 * q.1 + 6, q.2)) from rfl]
    refine x_bipush (v := nI 6) rfl rfl (by decide +kernel) ?_
    refine x_aload_n rfl rfl rfl ?_
    refine r_call2 (d2 := 8) (((c_readString hG (Nat.le_refl 8) hw1).two.onn (on := onD s0) (fun k j z => by unfold onD at z; unfold onA; omega)).weak (Ps := fun _ s' M' => RdC row al s' M' ∧ pH s' = pH s1) (fun b s' M' e9 _ z => ⟨z, by unfold pH; rw [(rStr_2 e9).1]⟩)) hS1 (fun k j z => z) rfl rfl v_2_77 rfl rfl (by decide) rfl rfl (Nat.le_of_ble_eq_true rfl) (by omega) (fun b2 s2 M2 e2 hq2 hE2 hS2 => ?_)
    refine x_callSl (d2 := 0) (c_valueOf hG (nI 6) (b2)) rfl rfl s_2_80 rfl rfl (Nat.le_of_ble_eq_true rfl) (by omega) (by omega) ?_
    refine x_topL (v := 16 * b2 + 6) (by rw [show (nI 6).toInt64 = 6 by decide +kernel]) ?_
    exact r_retL2 rfl hS2 ⟨hq2.1, Cmp.nil (by rw [hq2.2, hph1]; exact Nat.le_refl _)⟩ rfl rfl rfl
  by_cases hs7 : b1 = 7
  · rw [hs7]
    refine x_swIn (off := 78) (tg := 89) rfl (by decide +kernel) (by decide +kernel) rfl (by decide) ?_
    refine x_iload_n rfl rfl rfl ?_
    refine x_iconstN (b := 3) rfl rfl ?_
    refine x_icmpN_le (by omega) (by omega) rfl rfl (fun hc1 => absurd hc1 (by decide)) (fun hc1 => ?_)
    refine x_aload_n rfl rfl rfl ?_
    refine x_iload_n rfl rfl rfl ?_
    exact r_stop2 (f := s0.1) (rv1_x (by decide) (by decide) (by decide) (by decide) (by decide)) (c_stopAt hG (Nat.le_refl 6) _) (hS1.fo.ui (by simp [fq])) (by simp [ui]) rfl rfl v_2_88 rfl rfl (by decide) rfl rfl (Nat.le_of_ble_eq_true rfl) (by omega)
  by_cases hs8 : b1 = 8
  · rw [hs8]
    refine x_swIn (off := 70) (tg := 81) rfl (by decide +kernel) (by decide +kernel) rfl (by decide) ?_
    rw [show rv1 row al (some rec) s0.1 8 s1 = rb (rTh row al (some rec) 8 s0.1 s1) (fun q => .inr q) from (rb_inr _).symm]
    refine x_aload_n rfl rfl rfl ?_
    refine x_iload_n rfl rfl rfl ?_
    refine x_iload_n rfl rfl rfl ?_
    refine x_iload_n rfl rfl rfl ?_
    refine r_call2 (d2 := (d - 1)) ((c_readThing_8 (kp := s0.1) (d := d - 1) hG hw1 (by omega) hrec hpre (by omega) hdp).onn (on := onD s0) (fun k j z => onD_pre hp1 z)) hS1 (fun k j z => z) rfl rfl v_2_84 rfl rfl (by decide) rfl rfl (Nat.le_of_ble_eq_true rfl) (by omega) (fun b2 s2 M2 e2 hq2 hE2 hS2 => ?_)
    exact r_retL2 rfl hS2 ⟨hq2.1, by rw [← hph1]; exact hq2.2⟩ rfl rfl rfl
  by_cases hs9 : b1 = 9
  · rw [hs9]
    refine x_swIn (off := 70) (tg := 81) rfl (by decide +kernel) (by decide +kernel) rfl (by decide) ?_
    rw [show rv1 row al (some rec) s0.1 9 s1 = rb (rTh row al (some rec) 9 s0.1 s1) (fun q => .inr q) from (rb_inr _).symm]
    refine x_aload_n rfl rfl rfl ?_
    refine x_iload_n rfl rfl rfl ?_
    refine x_iload_n rfl rfl rfl ?_
    refine x_iload_n rfl rfl rfl ?_
    refine r_call2 (d2 := (d - 1)) ((c_readThing_9 (kp := s0.1) (d := d - 1) hG hw1 (by omega) hrec hpre (by omega) hdp).onn (on := onD s0) (fun k j z => onD_pre hp1 z)) hS1 (fun k j z => z) rfl rfl v_2_84 rfl rfl (by decide) rfl rfl (Nat.le_of_ble_eq_true rfl) (by omega) (fun b2 s2 M2 e2 hq2 hE2 hS2 => ?_)
    exact r_retL2 rfl hS2 ⟨hq2.1, by rw [← hph1]; exact hq2.2⟩ rfl rfl rfl
  by_cases hs10 : b1 = 10
  · rw [hs10]
    refine x_swIn (off := 70) (tg := 81) rfl (by decide +kernel) (by decide +kernel) rfl (by decide) ?_
    rw [show rv1 row al (some rec) s0.1 10 s1 = rb (rTh row al (some rec) 10 s0.1 s1) (fun q => .inr q) from (rb_inr _).symm]
    refine x_aload_n rfl rfl rfl ?_
    refine x_iload_n rfl rfl rfl ?_
    refine x_iload_n rfl rfl rfl ?_
    refine x_iload_n rfl rfl rfl ?_
    refine r_call2 (d2 := (d - 1)) ((c_readThing_10 (kp := s0.1) (d := d - 1) hG hw1 (by omega) hrec hpre (by omega) hdp).onn (on := onD s0) (fun k j z => onD_pre hp1 z)) hS1 (fun k j z => z) rfl rfl v_2_84 rfl rfl (by decide) rfl rfl (Nat.le_of_ble_eq_true rfl) (by omega) (fun b2 s2 M2 e2 hq2 hE2 hS2 => ?_)
    exact r_retL2 rfl hS2 ⟨hq2.1, by rw [← hph1]; exact hq2.2⟩ rfl rfl rfl
  by_cases hs11 : b1 = 11
  · rw [hs11]
    refine x_swIn (off := 78) (tg := 89) rfl (by decide +kernel) (by decide +kernel) rfl (by decide) ?_
    refine x_iload_n rfl rfl rfl ?_
    refine x_iconstN (b := 3) rfl rfl ?_
    refine x_icmpN_le (by omega) (by omega) rfl rfl (fun hc2 => absurd hc2 (by decide)) (fun hc2 => ?_)
    refine x_aload_n rfl rfl rfl ?_
    refine x_iload_n rfl rfl rfl ?_
    exact r_stop2 (f := s0.1) (rv1_x (by decide) (by decide) (by decide) (by decide) (by decide)) (c_stopAt hG (Nat.le_refl 6) _) (hS1.fo.ui (by simp [fq])) (by simp [ui]) rfl rfl v_2_88 rfl rfl (by decide) rfl rfl (Nat.le_of_ble_eq_true rfl) (by omega)
  by_cases hs12 : b1 = 12
  · rw [hs12]
    refine x_swIn (off := 70) (tg := 81) rfl (by decide +kernel) (by decide +kernel) rfl (by decide) ?_
    rw [show rv1 row al (some rec) s0.1 12 s1 = rb (rTh row al (some rec) 12 s0.1 s1) (fun q => .inr q) from (rb_inr _).symm]
    refine x_aload_n rfl rfl rfl ?_
    refine x_iload_n rfl rfl rfl ?_
    refine x_iload_n rfl rfl rfl ?_
    refine x_iload_n rfl rfl rfl ?_
    refine r_call2 (d2 := (d - 1)) ((c_readThing_12 (kp := s0.1) (d := d - 1) hG hw1 (by omega) hrec hpre (by omega) hdp).onn (on := onD s0) (fun k j z => onD_pre hp1 z)) hS1 (fun k j z => z) rfl rfl v_2_84 rfl rfl (by decide) rfl rfl (Nat.le_of_ble_eq_true rfl) (by omega) (fun b2 s2 M2 e2 hq2 hE2 hS2 => ?_)
    exact r_retL2 rfl hS2 ⟨hq2.1, by rw [← hph1]; exact hq2.2⟩ rfl rfl rfl
  refine x_swOut (tg := 89) rfl (by rw [nI_toInt (by omega)]; omega) (by decide) ?_
  refine x_iload_n rfl rfl rfl ?_
  refine x_iconstN (b := 3) rfl rfl ?_
  refine x_icmpN_le (by omega) (by omega) rfl rfl (fun hc3 => ?_) (fun hc3 => ?_)
  · refine x_iload_n rfl rfl rfl ?_
    refine x_i2lN (a := b1) (by omega) rfl rfl ?_
    exact r_retL2 (rv1_s (by omega)) hS1 ⟨hw1, Cmp.nil (by rw [hph1]; exact Nat.le_refl _)⟩ rfl rfl rfl
  · refine x_aload_n rfl rfl rfl ?_
    refine x_iload_n rfl rfl rfl ?_
    exact r_stop2 (f := s0.1) (rv1_x (by omega) (by omega) (by omega) (by omega) (by omega)) (c_stopAt hG (Nat.le_refl 6) _) (hS1.fo.ui (by simp [fq])) (by simp [ui]) rfl rfl v_2_88 rfl rfl (by decide) rfl rfl (Nat.le_of_ble_eq_true rfl) (by omega)
theorem c_readValue (hG : Gok G) {row : List Nat} {al : List Int64} : ∀ (dl dp d : Nat), dp + dl = 12 → 13 + 4 * dl ≤ d → RV G row al d dp (rVal row al dl)
  | 0, dp, d, h, hd => fun s M hw => by
    have e : dp = 12 := by omega
    subst e
    exact c_readValue0 hG hw (by omega)
  | dl + 1, dp, d, h, hd => fun s M hw => c_readValueS hG hw (by omega) (dv := d - 4) (c_readValue hG dl (dp + 1) (d - 4) (by omega) (by omega)) (rVal_pre dl) (by omega) (by omega)
end RA
