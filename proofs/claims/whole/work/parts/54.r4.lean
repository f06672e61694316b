theorem lN_m1 {n : Nat} (h : n < 1000) : ¬ lN n = -1 := fun e => by
  have h1 := congrArg uN e
  rw [uN_lN (by omega)] at h1
  have h2 : uN (-1) = 18446744073709551615 := by decide +kernel
  omega
theorem map_at {l : List Nat} {j t : Nat} (h : l[j]? = some t) : (l.map lN)[j]? = some (lN t) := by rw [List.getElem?_map, h]; rfl
def rKR (j np : Nat) (s : RS) : Nat ⊕ (Nat × RS) := match (pR s)[j]? with
  | some t => .inr (t, s)
  | none => .inl np
section R4
variable {G : Gd} {d : Nat} {M : Mm}
set_option maxHeartbeats 4000000 in
set_option maxRecDepth 20000 in
theorem c_knownTraitsK (hG : Gok G) (hd : 7 ≤ d) {row : List Nat} {al : List Int64} {s0 : RS} (hw0 : RdC row al s0 M) {j pl t : Nat} (hj : (pR s0)[j]? = some t) : CR G mX2_knownTraits d [.ref (ga G (27, 0)), .int (nI j), .int (nI pl)] M (onD s0) (RdC row al) vInt (.inr (t, s0)) := by
  have hS0 : EqF (onD s0) M M := EqF.rf
  have hA0 := hw0.2.1.1
  have hL6 := hw0.2.2.2.2.2.2.1
  obtain ⟨i1, i2, i3, i4, i5, i6, i7, i8, i9⟩ := id hw0.2.2.2.1
  have hjl := at_lt hj
  have htl := i7 t (at_mem hj)
  refine r_of hG okX2_knownTraits (by decide +kernel) rfl (Nat.le_of_ble_eq_true rfl) ?_
  refine x_aload_n rfl rfl rfl ?_
  refine x_getR0 rfl rfl f_2_23 rfl (by decide) rfl rfl ?_
  refine x_iload_n rfl rfl rfl ?_
  refine x_callVl (d2 := 0) (c_LL_at (len := (pR s0).length) hG (lk_32 (by decide)) j (ll_map hw0.2.2.1.2.1) (by omega) (by omega)) rfl rfl v_2_132 rfl rfl (by decide) rfl rfl (Nat.le_of_ble_eq_true rfl) (by omega) (by omega) ?_
  refine x_topL (v := lN t) (hw0.2.2.1.2.1.2 _ _ (map_at hj)) ?_
  refine x_lstore_n rfl rfl rfl rfl ?_
  refine x_lload_n rfl rfl rfl ?_
  refine x_ldc2 (v := -1) rfl rfl k_2_134 ?_
  refine x_lc_ne rfl rfl rfl rfl (fun hc1 => ?_) (fun hc1 => absurd hc1 (lN_m1 (by omega)))
  refine x_lload_n rfl rfl rfl ?_
  refine x_l2i rfl rfl ?_
  refine x_topI (v := nI t) (by rw [l2i_small (by rw [uN_lN (by omega)]; omega), uN_lN (by omega)]) ?_
  exact r_retI rfl hS0 hw0 rfl rfl rfl
set_option maxHeartbeats 4000000 in
set_option maxRecDepth 20000 in
theorem c_knownTraitsO (hG : Gok G) (hd : 7 ≤ d) {row : List Nat} {al : List Int64} {s0 : RS} (hw0 : RdC row al s0 M) {j pl : Nat} (hj : (pR s0)[j]? = none) (hj2 : j < 2 ^ 31) : CR G mX2_knownTraits d [.ref (ga G (27, 0)), .int (nI j), .int (nI pl)] M (onD s0) (RdC row al) vInt ((.inl pl : Nat ⊕ (Nat × RS))) := by
  have hS0 : EqF (onD s0) M M := EqF.rf
  have hA0 := hw0.2.1.1
  have hL6 := hw0.2.2.2.2.2.2.1
  obtain ⟨i1, i2, i3, i4, i5, i6, i7, i8, i9⟩ := id hw0.2.2.2.1
  have hjl := List.getElem?_eq_none_iff.mp hj
  refine r_of hG okX2_knownTraits (by decide +kernel) rfl (Nat.le_of_ble_eq_true rfl) ?_
  refine x_aload_n rfl rfl rfl ?_
  refine x_getR0 rfl rfl f_2_23 rfl (by decide) rfl rfl ?_
  refine x_iload_n rfl rfl rfl ?_
  refine x_callVl (d2 := 0) (c_LL_atO (len := (pR s0).length) hG (lk_32 (by decide)) j (ll_map hw0.2.2.1.2.1) (by omega) (by omega) (by omega)) rfl rfl v_2_132 rfl rfl (by decide) rfl rfl (Nat.le_of_ble_eq_true rfl) (by omega) (by omega) ?_
  refine x_lstore_n rfl rfl rfl rfl ?_
  refine x_lload_n rfl rfl rfl ?_
  refine x_ldc2 (v := -1) rfl rfl k_2_134 ?_
  refine x_lc_ne rfl rfl rfl rfl (fun hc1 => absurd rfl hc1) (fun hc1 => ?_)
  refine x_aload_n rfl rfl rfl ?_
  refine x_iload_n rfl rfl rfl ?_
  exact r_stop (f := pl) (rfl) (c_stopAt hG (Nat.le_refl 6) _) (hS0.fo.ui (by simp [fq])) (by simp [ui]) rfl rfl v_2_88 rfl rfl (by decide) rfl rfl (Nat.le_of_ble_eq_true rfl) (by omega)
theorem c_knownTraits (hG : Gok G) (hd : 7 ≤ d) {row : List Nat} {al : List Int64} {s0 : RS} (hw0 : RdC row al s0 M) {j pl : Nat} (hj2 : j < 2 ^ 31) : CR G mX2_knownTraits d [.ref (ga G (27, 0)), .int (nI j), .int (nI pl)] M (onD s0) (RdC row al) vInt (rKR j pl s0) := by
  unfold rKR
  cases hj : (pR s0)[j]? with
  | some t => exact c_knownTraitsK hG hd hw0 hj
  | none => exact c_knownTraitsO hG hd hw0 hj hj2
/-- the draft: the traits x stand at place t -/
theorem draft_pos {s : RS} {M : Mm} {x : Tr} (hk : ∀ t y, (pT s)[t]? = some y → cTr y M t) (hx : cTr x M (pT s).length) : fp (fun i => alk M i (pT s).length ((fun i => if h : i < (pT s).length then (rM (pT s)[i]).length else (rM x).length) i) ((fun i => if h : i < (pT s).length then (rM (pT s)[i]).length else (rM x).length) (pT s).length)) 0 (pT s).length = tpos (pT s) x := by
  refine fp_congr fun k _ hkl => ?_
  have hk2 : k < (pT s).length := by omega
  dsimp only
  rw [dif_pos hk2, dif_neg (by omega)]
  rw [cTr_alk (hk k _ (List.getElem?_eq_getElem hk2)) hx, List.getElem?_eq_getElem hk2]
  exact ⟨fun e => by rw [e], fun e => Option.some.inj e⟩
theorem RdC.aR {row : List Nat} {al : List Int64} {s : RS} {M : Mm} {t : Nat} (h : RdC row al s M) (hl : (pR s).length < (pL s).length) (ht : t < (pT s).length) : RdC row al (s.1, s.2.1, s.2.2.1, s.2.2.2.1 ++ [t], s.2.2.2.2) (ui (ul M (33, 0) (pR s).length (lN t)) (32, 0) 1 (nI ((pR s).length + 1))) := by
  have hS : EqF (fun k j => k.1 ≠ 32 ∧ k.1 ≠ 33) M (ui (ul M (33, 0) (pR s).length (lN t)) (32, 0) 1 (nI ((pR s).length + 1))) := (EqF.rf.ul (by simp)).ui (by simp)
  obtain ⟨⟨a1, a2⟩, hb, ⟨k1, k2, k3, k4, k5, k6, k7, k8⟩, ⟨i1, i2, i3, i4, i5, i6, i7, i8⟩, hw⟩ := id h
  refine h.eqD (hS.sub fun k j z => ⟨by omega, by omega⟩) ⟨(hS _ _ (by simp)).1.trans a1, a2.eqF hS (by simp) (fun j => by simp)⟩ hb ⟨k1.eqF hS (by simp) (fun j => by simp), ⟨?_, ?_⟩, (hS _ _ (by simp)).1.trans k3, k4.to fun k => (hS _ _ (by simp)).2, (hS _ _ (by simp)).1.trans k5, fun t x hx => (k6 t x hx).eqF hS (fun r h1 h2 j => by simp; omega), (hS _ _ (by simp)).1.trans k7, fun j x hx => (hS _ _ (by simp)).1.trans (k8 j x hx)⟩ ⟨i1, i2, i3, ?_, i5, i6, ?_, i8⟩
  · simp [ui, pR]
  · show LI _ ((pR s ++ [t]).map lN)
    rw [List.map_append]
    exact k2.2.push (fun k hk => by rw [List.length_map] at hk; have hne : k ≠ (pR s).length := Nat.ne_of_lt hk; simp [ui, ul, hne]) (by simp [ui, ul])
  · show (pR s ++ [t]).length ≤ (pL s).length
    simp; omega
  · intro t' ht'
    rcases List.mem_append.mp (show t' ∈ pR s ++ [t] from ht') with h9 | h9
    · exact i7 t' h9
    · rw [List.mem_singleton.mp h9]; exact ht
theorem RdC.aT {row : List Nat} {al : List Int64} {s : RS} {M : Mm} {x : Tr} (h : RdC row al s M) (hl : (pT s).length < 12) (hx : cTr x M (pT s).length) (hok : trOK x) : RdC row al (s.1, s.2.1, s.2.2.1, s.2.2.2.1, s.2.2.2.2.1, s.2.2.2.2.2.1 ++ [x], s.2.2.2.2.2.2) (ui M (27, 0) 7 (nI ((pT s).length + 1))) := by
  have hS : EqF (fun k j => k.1 = 27 → j ≠ 7) M (ui M (27, 0) 7 (nI ((pT s).length + 1))) := EqF.rf.ui (by simp)
  obtain ⟨⟨a1, a2⟩, hb, ⟨k1, k2, k3, k4, k5, k6, k7, k8⟩, ⟨i1, i2, i3, i4, i5, i6, i7, i8, i9⟩, hw⟩ := id h
  refine h.eqD (hS.sub fun k j z => by omega) ⟨(hS _ _ (by simp)).1.trans a1, a2.eqF hS (by simp) (fun j => by simp)⟩ hb ⟨k1.eqF hS (by simp) (fun j => by simp), k2.eqF hS (by simp) (fun j => by simp), (hS _ _ (by simp)).1.trans k3, k4.to fun k => (hS _ _ (by simp)).2, ?_, fun t y hy => ?_, (hS _ _ (by simp)).1.trans k7, fun j x hx => (hS _ _ (by simp)).1.trans (k8 j x hx)⟩ ⟨i1, ?_, i3, i4, i5, i6, fun t ht => ?_, i8, fun y hy => ?_⟩
  · simp [ui, pT]
  · have hy2 : (pT s ++ [x])[t]? = some y := hy
    rcases Nat.lt_trichotomy t (pT s).length with q | q | q
    · rw [List.getElem?_append_left q] at hy2
      exact (k6 t y hy2).eqF hS (fun r h1 h2 j => by simp; omega)
    · rw [q, List.getElem?_append_right (Nat.le_refl _), Nat.sub_self] at hy2
      cases hy2
      rw [q]; exact hx.eqF hS (fun r h1 h2 j => by simp; omega)
    · rw [List.getElem?_append_right (by omega), List.getElem?_eq_none (by simp; omega)] at hy2
      cases hy2
  · show (pT s ++ [x]).length ≤ 12
    simp; omega
  · have := i7 t ht
    show t < (pT s ++ [x]).length
    simp; omega
  · rcases List.mem_append.mp (show y ∈ pT s ++ [x] from hy) with h9 | h9
    · exact i9 y h9
    · rw [List.mem_singleton.mp h9]; exact hok
set_option maxHeartbeats 4000000 in
set_option maxRecDepth 20000 in
theorem c_keepDraftX (hG : Gok G) (hd : 8 ≤ d) {row : List Nat} {al : List Int64} {s0 : RS} (hw0 : RdC row al s0 M) (hRL : (pR s0).length < (pL s0).length) {np : Nat} {x : Tr} (hx : cTr x M (pT s0).length) (hxo : trOK x) {p : Nat} (hp : tpos (pT s0) x = p) (hp12 : p = 12) : CR G mX2_keepDraft d [.ref (ga G (27, 0)), .int (nI np)] M (onD s0) (RdC row al) vInt (keepT np x s0) := by
  have hS0 : EqF (onD s0) M M := EqF.rf
  have hA0 := hw0.2.1.1
  have hL6 := hw0.2.2.2.2.2.2.1
  obtain ⟨i1, i2, i3, i4, i5, i6, i7, i8, i9⟩ := id hw0.2.2.2.1
  have hk6 := hw0.2.2.1.2.2.2.2.2.1
  have hdp := draft_pos hk6 hx
  have hml : ∀ i, i ≤ (pT s0).length → M.1 (6, i) 1 = nI ((fun i => if h : i < (pT s0).length then (rM (pT s0)[i]).length else (rM x).length) i) ∧ (fun i => if h : i < (pT s0).length then (rM (pT s0)[i]).length else (rM x).length) i ≤ 3 := by
    intro i hi
    dsimp only
    by_cases hi2 : i < (pT s0).length
    · rw [dif_pos hi2]; have := hk6 i _ (List.getElem?_eq_getElem hi2); exact ⟨this.2.2.1.1, this.2.2.2⟩
    · rw [dif_neg hi2, show i = (pT s0).length by omega]; exact ⟨hx.2.2.1.1, hx.2.2.2⟩
  refine r_of hG okX2_keepDraft (by decide +kernel) rfl (Nat.le_of_ble_eq_true rfl) ?_
  refine x_aload_n rfl rfl rfl ?_
  refine x_getR0 rfl rfl f_2_30 rfl (by decide) rfl rfl ?_
  refine x_aload_n rfl rfl rfl ?_
  refine x_getIv (v := nI ((pT s0).length)) hw0.2.2.1.2.2.2.2.1 rfl rfl f_2_53 rfl (by decide) rfl ?_
  refine x_callVi (d2 := 2) (c_placeOfDraft (dr := (pT s0).length) (ml := fun i => if h : i < (pT s0).length then (rM (pT s0)[i]).length else (rM x).length) hG (Nat.le_refl 2) (by omega) (by exact hml)) rfl rfl v_2_193 rfl rfl (by decide) rfl rfl (Nat.le_of_ble_eq_true rfl) (by omega) (by omega) ?_
  refine x_topI (v := nI p) (by rw [hdp, hp]) ?_
  refine x_istore_n rfl rfl rfl rfl ?_
  refine x_iload_n rfl rfl rfl ?_
  refine x_bipush (v := nI 12) rfl rfl (by decide +kernel) ?_
  refine x_icmpN_ne (by omega) (by omega) rfl rfl (fun hc1 => absurd hc1 (by omega)) (fun hc1 => ?_)
  refine x_aload_n rfl rfl rfl ?_
  refine x_iload_n rfl rfl rfl ?_
  exact r_stop (f := np) (by unfold keepT; rw [hp]; exact if_pos hp12) (c_stopAt hG (Nat.le_refl 6) _) (hS0.fo.ui (by simp [fq])) (by simp [ui]) rfl rfl v_2_88 rfl rfl (by decide) rfl rfl (Nat.le_of_ble_eq_true rfl) (by omega)
set_option maxHeartbeats 4000000 in
set_option maxRecDepth 20000 in
theorem c_keepDraftN (hG : Gok G) (hd : 8 ≤ d) {row : List Nat} {al : List Int64} {s0 : RS} (hw0 : RdC row al s0 M) (hRL : (pR s0).length < (pL s0).length) {np : Nat} {x : Tr} (hx : cTr x M (pT s0).length) (hxo : trOK x) {p : Nat} (hp : tpos (pT s0) x = p) (hpt : p = (pT s0).length) (hp12 : p < 12) : CR G mX2_keepDraft d [.ref (ga G (27, 0)), .int (nI np)] M (onD s0) (RdC row al) vInt (keepT np x s0) := by
  have hS0 : EqF (onD s0) M M := EqF.rf
  have hA0 := hw0.2.1.1
  have hL6 := hw0.2.2.2.2.2.2.1
  obtain ⟨i1, i2, i3, i4, i5, i6, i7, i8, i9⟩ := id hw0.2.2.2.1
  have hk6 := hw0.2.2.1.2.2.2.2.2.1
  have hdp := draft_pos hk6 hx
  have hml : ∀ i, i ≤ (pT s0).length → M.1 (6, i) 1 = nI ((fun i => if h : i < (pT s0).length then (rM (pT s0)[i]).length else (rM x).length) i) ∧ (fun i => if h : i < (pT s0).length then (rM (pT s0)[i]).length else (rM x).length) i ≤ 3 := by
    intro i hi
    dsimp only
    by_cases hi2 : i < (pT s0).length
    · rw [dif_pos hi2]; have := hk6 i _ (List.getElem?_eq_getElem hi2); exact ⟨this.2.2.1.1, this.2.2.2⟩
    · rw [dif_neg hi2, show i = (pT s0).length by omega]; exact ⟨hx.2.2.1.1, hx.2.2.2⟩
  refine r_of hG okX2_keepDraft (by decide +kernel) rfl (Nat.le_of_ble_eq_true rfl) ?_
  refine x_aload_n rfl rfl rfl ?_
  refine x_getR0 rfl rfl f_2_30 rfl (by decide) rfl rfl ?_
  refine x_aload_n rfl rfl rfl ?_
  refine x_getIv (v := nI ((pT s0).length)) hw0.2.2.1.2.2.2.2.1 rfl rfl f_2_53 rfl (by decide) rfl ?_
  refine x_callVi (d2 := 2) (c_placeOfDraft (dr := (pT s0).length) (ml := fun i => if h : i < (pT s0).length then (rM (pT s0)[i]).length else (rM x).length) hG (Nat.le_refl 2) (by omega) (by exact hml)) rfl rfl v_2_193 rfl rfl (by decide) rfl rfl (Nat.le_of_ble_eq_true rfl) (by omega) (by omega) ?_
  refine x_topI (v := nI p) (by rw [hdp, hp]) ?_
  refine x_istore_n rfl rfl rfl rfl ?_
  refine x_iload_n rfl rfl rfl ?_
  refine x_bipush (v := nI 12) rfl rfl (by decide +kernel) ?_
  refine x_icmpN_ne (by omega) (by omega) rfl rfl (fun hc1 => ?_) (fun hc1 => absurd hc1 (by omega))
  refine x_iload_n rfl rfl rfl ?_
  refine x_aload_n rfl rfl rfl ?_
  refine x_getIv (v := nI ((pT s0).length)) hw0.2.2.1.2.2.2.2.1 rfl rfl f_2_53 rfl (by decide) rfl ?_
  refine x_icmpN_ne (by omega) (by omega) rfl rfl (fun hc2 => absurd hc2 (by omega)) (fun hc2 => ?_)
  refine x_aload_n rfl rfl rfl ?_
  refine x_dup rfl rfl rfl ?_
  refine x_getIv (v := nI ((pT s0).length)) hw0.2.2.1.2.2.2.2.1 rfl rfl f_2_53 rfl (by decide) rfl ?_
  refine x_iconstN (b := 1) rfl rfl ?_
  refine x_iaddN (a := (pT s0).length) (b := 1) rfl rfl ?_
  refine x_putI rfl rfl f_2_53 rfl rfl (by decide) rfl ?_
  refine x_aload_n rfl rfl rfl ?_
  refine x_getR0 rfl rfl f_2_23 rfl (by decide) rfl rfl ?_
  refine x_iload_n rfl rfl rfl ?_
  refine x_i2lN (a := p) (by omega) rfl rfl ?_
  refine x_callVv (d2 := 0) (c_LL_add (len := (pR s0).length) hG (lk_32 (by decide)) (lN (p)) (by first | exact (ll_map hw0.2.2.1.2.1) | (rw [← (ll_map hw0.2.2.1.2.1)]; rfl) | simp [ui, ul, (ll_map hw0.2.2.1.2.1)]) (by omega)) rfl rfl v_2_114 rfl rfl (by decide) rfl rfl (Nat.le_of_ble_eq_true rfl) (by omega) (by omega) ?_
  refine x_iload_n rfl rfl rfl ?_
  exact r_retI (by unfold keepT; rw [hp, if_neg (by omega), if_pos hpt, hpt]) (((hS0.ui (by unfold onD; simp)).ul (by unfold onD; simp)).ui (by unfold onD; simp)) (by have z := (hw0.aT (by omega) hx hxo).aR (t := (pT s0).length) hRL (by show (pT s0).length < (pT s0 ++ [x]).length; simp); rw [hpt]; exact z) rfl rfl rfl
set_option maxHeartbeats 4000000 in
set_option maxRecDepth 20000 in
theorem c_keepDraftO (hG : Gok G) (hd : 8 ≤ d) {row : List Nat} {al : List Int64} {s0 : RS} (hw0 : RdC row al s0 M) (hRL : (pR s0).length < (pL s0).length) {np : Nat} {x : Tr} (hx : cTr x M (pT s0).length) (hxo : trOK x) {p : Nat} (hp : tpos (pT s0) x = p) (hpt : p < (pT s0).length) : CR G mX2_keepDraft d [.ref (ga G (27, 0)), .int (nI np)] M (onD s0) (RdC row al) vInt (keepT np x s0) := by
  have hS0 : EqF (onD s0) M M := EqF.rf
  have hA0 := hw0.2.1.1
  have hL6 := hw0.2.2.2.2.2.2.1
  obtain ⟨i1, i2, i3, i4, i5, i6, i7, i8, i9⟩ := id hw0.2.2.2.1
  have hk6 := hw0.2.2.1.2.2.2.2.2.1
  have hdp := draft_pos hk6 hx
  have hml : ∀ i, i ≤ (pT s0).length → M.1 (6, i) 1 = nI ((fun i => if h : i < (pT s0).length then (rM (pT s0)[i]).length else (rM x).length) i) ∧ (fun i => if h : i < (pT s0).length then (rM (pT s0)[i]).length else (rM x).length) i ≤ 3 := by
    intro i hi
    dsimp only
    by_cases hi2 : i < (pT s0).length
    · rw [dif_pos hi2]; have := hk6 i _ (List.getElem?_eq_getElem hi2); exact ⟨this.2.2.1.1, this.2.2.2⟩
    · rw [dif_neg hi2, show i = (pT s0).length by omega]; exact ⟨hx.2.2.1.1, hx.2.2.2⟩
  refine r_of hG okX2_keepDraft (by decide +kernel) rfl (Nat.le_of_ble_eq_true rfl) ?_
  refine x_aload_n rfl rfl rfl ?_
  refine x_getR0 rfl rfl f_2_30 rfl (by decide) rfl rfl ?_
  refine x_aload_n rfl rfl rfl ?_
  refine x_getIv (v := nI ((pT s0).length)) hw0.2.2.1.2.2.2.2.1 rfl rfl f_2_53 rfl (by decide) rfl ?_
  refine x_callVi (d2 := 2) (c_placeOfDraft (dr := (pT s0).length) (ml := fun i => if h : i < (pT s0).length then (rM (pT s0)[i]).length else (rM x).length) hG (Nat.le_refl 2) (by omega) (by exact hml)) rfl rfl v_2_193 rfl rfl (by decide) rfl rfl (Nat.le_of_ble_eq_true rfl) (by omega) (by omega) ?_
  refine x_topI (v := nI p) (by rw [hdp, hp]) ?_
  refine x_istore_n rfl rfl rfl rfl ?_
  refine x_iload_n rfl rfl rfl ?_
  refine x_bipush (v := nI 12) rfl rfl (by decide +kernel) ?_
  refine x_icmpN_ne (by omega) (by omega) rfl rfl (fun hc1 => ?_) (fun hc1 => absurd hc1 (by omega))
  refine x_iload_n rfl rfl rfl ?_
  refine x_aload_n rfl rfl rfl ?_
  refine x_getIv (v := nI ((pT s0).length)) hw0.2.2.1.2.2.2.2.1 rfl rfl f_2_53 rfl (by decide) rfl ?_
  refine x_icmpN_ne (by omega) (by omega) rfl rfl (fun hc2 => ?_) (fun hc2 => absurd hc2 (by omega))
  refine x_aload_n rfl rfl rfl ?_
  refine x_getR0 rfl rfl f_2_23 rfl (by decide) rfl rfl ?_
  refine x_iload_n rfl rfl rfl ?_
  refine x_i2lN (a := p) (by omega) rfl rfl ?_
  refine x_callVv (d2 := 0) (c_LL_add (len := (pR s0).length) hG (lk_32 (by decide)) (lN (p)) (ll_map hw0.2.2.1.2.1) (by omega)) rfl rfl v_2_114 rfl rfl (by decide) rfl rfl (Nat.le_of_ble_eq_true rfl) (by omega) (by omega) ?_
  refine x_iload_n rfl rfl rfl ?_
  exact r_retI (by unfold keepT; rw [hp, if_neg (by omega), if_neg (by omega)]) ((hS0.ul (by unfold onD; simp)).ui (by unfold onD; simp)) (hw0.aR hRL hpt) rfl rfl rfl
theorem c_keepDraft (hG : Gok G) (hd : 8 ≤ d) {row : List Nat} {al : List Int64} {s0 : RS} (hw0 : RdC row al s0 M) (hRL : (pR s0).length < (pL s0).length) {np : Nat} {x : Tr} (hx : cTr x M (pT s0).length) (hxo : trOK x) : CR G mX2_keepDraft d [.ref (ga G (27, 0)), .int (nI np)] M (onD s0) (RdC row al) vInt (keepT np x s0) := by
  have hle := tpos_le (pT s0) x
  have h12 := hw0.2.2.2.1.2.1
  by_cases h : tpos (pT s0) x = (pT s0).length
  · by_cases h2 : tpos (pT s0) x = 12
    · exact c_keepDraftX hG hd hw0 hRL hx hxo rfl h2
    · exact c_keepDraftN hG hd hw0 hRL hx hxo rfl h (by omega)
  · exact c_keepDraftO hG hd hw0 hRL hx hxo rfl (by omega)
theorem cTr.aM {M : Mm} {tn : Nat} {nm e : Int64} {dy : Bool} {acc : List Int64} (h : cTr (nm, dy, acc) M tn) (hl : acc.length < 3) : cTr (nm, dy, acc ++ [e]) (ui (ul M (7, tn) acc.length e) (6, tn) 1 (nI (acc.length + 1))) tn := by
  obtain ⟨a, b, c, e9⟩ := h
  refine ⟨by simpa [ui, ul, rN] using a, by simpa [ui, ul, rD] using b, ⟨by simp [ui, rM], ?_⟩, by show (acc ++ [e]).length ≤ 3; simp; omega⟩
  exact c.2.push (fun k hk => by have hne : k ≠ acc.length := Nat.ne_of_lt hk; simp [ui, ul, hne]) (by simp [ui, ul, rM])
theorem RdC.dr {row : List Nat} {al : List Int64} {s : RS} {M M1 : Mm} (h : RdC row al s M) {tn : Nat} (htn : (pT s).length ≤ tn) (hS : EqF (fun k _ => ¬ (5 ≤ k.1 ∧ k.1 ≤ 7 ∧ k.2 = tn)) M M1) : RdC row al s M1 := by
  obtain ⟨⟨a1, a2⟩, hb, ⟨k1, k2, k3, k4, k5, k6, k7, k8⟩, hi, hw⟩ := id h
  exact ⟨⟨(hS _ _ (by simp)).1.trans a1, a2.eqF hS (by simp) (fun j => by simp)⟩, hb, ⟨k1.eqF hS (by simp) (fun j => by simp), k2.eqF hS (by simp) (fun j => by simp), (hS _ _ (by simp)).1.trans k3, k4.to fun k => (hS _ _ (by simp)).2, (hS _ _ (by simp)).1.trans k5, fun t x hx => (k6 t x hx).eqF hS (fun r h1 h2 j => by have := at_lt hx; simp; omega), (hS _ _ (by simp)).1.trans k7, fun j x hx => (hS _ _ (by simp)).1.trans (k8 j x hx)⟩, hi, hw.eq hS (fun r h1 h2 j => by simp; omega)⟩
set_option maxHeartbeats 4000000 in
theorem l_rm (hG : Gok G) (hd : 9 ≤ d) {row : List Nat} {al : List Int64} {s9 : RS} {tn nn np m q : Nat} {nm : Int64} {dy : Bool} (hm : m ≤ 3) (htn : tn = (pT s9).length) (hnm : isTx nm) (hRL9 : (pR s9).length < (pL s9).length) {M9 : Mm} : ∀ (n j : Nat), j + n = m → ∀ (acc : List Int64) (s0 : RS) (M : Mm), acc.length = j → acc.Nodup → (∀ e ∈ acc, isTx e ∧ ¬ e = 0) → RdC row al s0 M → s0.2.2 = s9.2.2 → cTr (nm, dy, acc) M tn → EqF (onD s9) M9 M → FR G mX2_readTraits d M9 (onD s9) (RdC row al) vInt (rb (rMem row n acc s0) fun z => keepT np (nm, dy, z.1) z.2) 113 [(0, .ref (ga G (27, 0))), (1, .int (nI nn)), (2, .int (nI np)), (3, .int (nI m)), (4, .int (nI q)), (5, .long (nm)), (7, .ref (ga G (5, tn))), (8, .int (nI j))] [] M := by
  intro n
  induction n with
  | zero =>
    intro j hj acc s0 M hal hnd htx hw0 hs2 hdr0 hS0
    have hpt : pT s0 = pT s9 := by unfold pT; rw [hs2]
    have hpr : pR s0 = pR s9 := by unfold pR; rw [hs2]
    have hpl : pL s0 = pL s9 := by unfold pL; rw [hs2]
    obtain ⟨i1, i2, i3, i4, i5, i6, i7, i8, i9⟩ := id hw0.2.2.2.1
    show FR G mX2_readTraits d M9 (onD s9) (RdC row al) vInt (keepT np (nm, dy, acc) s0) 113 _ [] M
    rw [← rb_inr (keepT np (nm, dy, acc) s0)]
    refine x_iload rfl rfl rfl ?_
    refine x_iload_n rfl rfl rfl ?_
    refine x_icmpN_ge (by omega) (by omega) rfl rfl (fun hc1 => ?_) (fun hc1 => absurd hc1 (by omega))
    refine x_aload_n rfl rfl rfl ?_
    refine x_iload_n rfl rfl rfl ?_
    refine r_callV (d2 := 8) (c_keepDraft hG (by omega) hw0 (by rw [hpr, hpl]; exact hRL9) (np := np) (x := (nm, dy, acc)) (by rw [hpt, ← htn]; exact hdr0) ⟨hnm, by show acc.length ≤ 3; omega, hnd, htx⟩) hS0 (fun k j z => by unfold onD at z ⊢; rw [show pW s0 = pW s9 by unfold pW; rw [hs2], hpt, show pH s0 = pH s9 by unfold pH; rw [hs2]]; exact z) rfl rfl v_2_189 rfl rfl (by decide) rfl rfl (Nat.le_of_ble_eq_true rfl) (by omega) (fun b1 s1 M1 e1 hw1 hE1 hS1 => ?_)
    exact r_retI rfl hS1 hw1 rfl rfl rfl
  | succ n ih =>
    intro j hj acc s0 M hal hnd htx hw0 hs2 hdr0 hS0
    have hA0 := hw0.2.1.1
    have hL6 := hw0.2.2.2.2.2.2.1
    have hpt : pT s0 = pT s9 := by unfold pT; rw [hs2]
    obtain ⟨i1, i2, i3, i4, i5, i6, i7, i8, i9⟩ := id hw0.2.2.2.1
    rw [hpt, ← htn] at i2
    rw [show rMem row (n + 1) acc s0 = rb (rStr row s0) (fun q => if q.1 = 0 ∨ q.1 ∈ acc then .inl s0.1 else rMem row n (acc ++ [q.1]) q.2) from rfl, rb_assoc]
    refine x_iload rfl rfl rfl ?_
    refine x_iload_n rfl rfl rfl ?_
    refine x_icmpN_ge (by omega) (by omega) rfl rfl (fun hc1 => absurd hc1 (by omega)) (fun hc1 => ?_)
    refine x_aload_n rfl rfl rfl ?_
    refine x_getIv (v := nI (s0.1)) hw0.1.1 rfl rfl f_2_58 rfl (by decide) rfl ?_
    refine x_istore rfl rfl rfl rfl ?_
    refine x_aload_n rfl rfl rfl ?_
    refine r_callV (d2 := 8) (c_readString hG (by omega) hw0 ) hS0 (fun k j z => by unfold onD at z; unfold onA; omega) rfl rfl v_2_77 rfl rfl (by decide) rfl rfl (Nat.le_of_ble_eq_true rfl) (by omega) (fun b1 s1 M1 e1 hw1 hE1 hS1 => ?_)
    have hz1 := rStr_2 e1
    have hx1 := rStr_tx (fun t h => (hw0.2.1.2.2 t h).1) e1
    have hdr1 := hdr0.eqF hE1 (fun r h1 h2 j => by unfold onA; simp; omega)
    have hs21 : s1.2.2 = s9.2.2 := hz1.1.trans hs2
    dsimp only
    refine x_lstore rfl rfl rfl rfl ?_
    refine x_lload rfl rfl rfl ?_
    refine x_lconst (v := 0) rfl rfl (by decide +kernel) ?_
    refine x_lc_eq rfl rfl rfl rfl (fun hc2 => ?_) (fun hc2 => ?_)
    · refine x_aload_n rfl rfl rfl ?_
      refine x_iload rfl rfl rfl ?_
      exact r_stop (f := s0.1) (by rw [if_pos (Or.inl hc2)]; rfl) (c_stopAt hG (Nat.le_refl 6) _) (hS1.fo.ui (by simp [fq])) (by simp [ui]) rfl rfl v_2_88 rfl rfl (by decide) rfl rfl (Nat.le_of_ble_eq_true rfl) (by omega)
    · refine x_aload rfl rfl rfl ?_
      refine x_getRi rfl rfl f_2_186 rfl (by show _ < 13; omega) rfl rfl ?_
      refine x_lload rfl rfl rfl ?_
      refine x_callVi (d2 := 1) (c_LL_has (len := acc.length) hG (lk_6 (by omega)) b1 hdr1.2.2.1.1 (by omega) (by decide) (Nat.le_refl 1)) rfl rfl v_2_174 rfl rfl (by show _ < 13; omega) rfl rfl (Nat.le_of_ble_eq_true rfl) (by omega) (by omega) ?_
      refine x_topI (v := bI (b1 ∈ acc)) (bI_iff (fx_has hdr1.2.2.1.2)) ?_
      refine x_ifB_eq rfl rfl (fun hc3 => ?_) (fun hc3 => ?_)
      · rw [if_neg (fun z => z.elim hc2 hc3)]
        refine x_aload rfl rfl rfl ?_
        refine x_getRi rfl rfl f_2_186 rfl (by show _ < 13; omega) rfl rfl ?_
        refine x_lload rfl rfl rfl ?_
        refine x_callVv (d2 := 0) (c_LL_add (len := acc.length) hG (lk_6 (by omega)) (b1) hdr1.2.2.1.1 (by omega)) rfl rfl v_2_114 rfl rfl (by show _ < 13; omega) rfl rfl (Nat.le_of_ble_eq_true rfl) (by omega) (by omega) ?_
        refine x_iincN (a := j) (b := 1) rfl rfl rfl rfl rfl ?_
        refine x_goto rfl rfl ?_
        refine x_pick [0, 1, 2, 3, 4, 5, 6, 7] rfl ?_
        have hSd : EqF (fun k _ => ¬ (5 ≤ k.1 ∧ k.1 ≤ 7 ∧ k.2 = tn)) M1 (ui (ul M1 (7, tn) acc.length b1) (6, tn) 1 (nI (acc.length + 1))) := (EqF.rf.ul (by simp)).ui (by simp)
        exact ih (j + 1) (by omega) (acc ++ [b1]) s1 _ (by simp; omega) (by rw [List.nodup_append]; exact ⟨hnd, by simp, fun a ha b hb e => by simp at hb; rw [hb] at e; exact hc3 (e ▸ ha)⟩) (fun e he => by rcases List.mem_append.mp he with h9 | h9; exact htx e h9; rw [List.mem_singleton.mp h9]; exact ⟨hx1, hc2⟩) (hw1.dr (tn := tn) (by rw [show pT s1 = pT s9 by unfold pT; rw [hs21], htn]; exact Nat.le_refl _) hSd) hs21 (hdr1.aM (by omega)) ((hS1.ul (by unfold onD; simp; omega)).ui (by unfold onD; simp; omega))
      · refine x_aload_n rfl rfl rfl ?_
        refine x_iload rfl rfl rfl ?_
        exact r_stop (f := s0.1) (by rw [if_pos (Or.inr hc3)]; rfl) (c_stopAt hG (Nat.le_refl 6) _) (hS1.fo.ui (by simp [fq])) (by simp [ui]) rfl rfl v_2_88 rfl rfl (by decide) rfl rfl (Nat.le_of_ble_eq_true rfl) (by omega)
end R4
