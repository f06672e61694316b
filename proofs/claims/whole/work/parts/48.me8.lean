/-- behind an operation of the model: what is held, what it says is thrown, and nothing else has changed -/
def PMo (M : Mm) (A : Ab) (th : Nat) : Mm → Prop := fun M' => RM A M' ∧ M'.1 (40, 0) 0 = nI th ∧ Eqn (fun r => r < 40 ∨ 67 ≤ r) M M'
theorem EqF.out {on : Ky → Nat → Prop} {M M1 : Mm} (h : EqF on M M1) (ho : ∀ (k : Ky) (j : Nat), (k.1 < 40 ∨ 67 ≤ k.1) → on k j) : Eqn (fun r => r < 40 ∨ 67 ≤ r) M M1 := fun k hk j => h k j (ho k j hk)
theorem Eqn.f {M M1 : Mm} {on : Ky → Nat → Prop} (h : EqF on M M1) {r : Nat → Prop} (ho : ∀ (k : Ky) (j : Nat), r k.1 → on k j) : Eqn r M M1 := fun k hk j => h k j (ho k j hk)
section M8
variable {G : Gd} {d : Nat} {M : Mm} {A : Ab}
set_option maxHeartbeats 4000000 in
set_option maxRecDepth 20000 in
theorem c_mencodeX (hG : Gok G) (hd : 3 ≤ d) (hR : RM A M) (v : Int64) (hv : ¬ vOK A v) : Ct G mX9_encode d [.ref (ga G (40, 0)), .long (v)] M (.inl (some (.int (nI 0)))) (ui M (40, 0) 0 (nI 1)) 0 := by
  refine ct_of hG okX9_encode (by decide +kernel) rfl (Nat.le_of_ble_eq_true rfl) ?_
  refine x_aload_n rfl rfl rfl ?_
  refine x_aload_n rfl rfl rfl ?_
  refine x_lload_n rfl rfl rfl ?_
  refine x_callVi (d2 := 2) (c_misValue (n := (aH A).length) (w := (aW A).length) hG (Nat.le_refl 2) v hR.2.2.2.1 hR.n40 hR.2.1 hR.nW) rfl rfl v_9_156 rfl rfl (by decide) rfl rfl (Nat.le_of_ble_eq_true rfl) (by omega) (by omega) ?_
  refine x_topI (v := bI (vOK A v)) rfl ?_
  refine x_ifB_eq rfl rfl (fun hc1 => ?_) (fun hc1 => absurd hc1 hv)
  refine x_iconstN (b := 1) rfl rfl ?_
  refine x_putI rfl rfl f_9_97 rfl rfl (by decide) rfl ?_
  refine x_aload_n rfl rfl rfl ?_
  refine x_getIv (v := nI 1) (by first | rfl | simp [ui, ul]) rfl rfl f_9_97 rfl (by decide) rfl ?_
  refine x_if_le rfl rfl (fun hc2 => absurd hc2 (by decide +kernel)) (fun _ => ?_)
  refine x_iconstN (b := 0) rfl rfl ?_
  exact x_retI rfl rfl rfl (by omega) rfl rfl
set_option maxHeartbeats 4000000 in
set_option maxRecDepth 20000 in
theorem c_mclearLists (hG : Gok G) : Ct G mX9_clearLists d [.ref (ga G (40, 0))] M (.inl none) (ui (ui (ui (ui M (40, 0) 22 (nI 0)) (40, 0) 24 (nI 0)) (40, 0) 26 (nI 0)) (40, 0) 28 (nI 0)) 0 := by
  refine ct_of hG okX9_clearLists (by decide +kernel) rfl (Nat.le_of_ble_eq_true rfl) ?_
  refine x_aload_n rfl rfl rfl ?_
  refine x_iconstN (b := 0) rfl rfl ?_
  refine x_putI rfl rfl f_9_193 rfl rfl (by decide) rfl ?_
  refine x_aload_n rfl rfl rfl ?_
  refine x_iconstN (b := 0) rfl rfl ?_
  refine x_putI rfl rfl f_9_211 rfl rfl (by decide) rfl ?_
  refine x_aload_n rfl rfl rfl ?_
  refine x_iconstN (b := 0) rfl rfl ?_
  refine x_putI rfl rfl f_9_220 rfl rfl (by decide) rfl ?_
  refine x_aload_n rfl rfl rfl ?_
  refine x_iconstN (b := 0) rfl rfl ?_
  refine x_putI rfl rfl f_9_196 rfl rfl (by decide) rfl ?_
  exact x_retV rfl rfl rfl (by omega) rfl rfl
theorem wm_start : WrM s00 (ui (ui (ui (ui (ui (ui (ui M (40, 0) 0 (nI 0)) (40, 0) 22 (nI 0)) (40, 0) 24 (nI 0)) (40, 0) 26 (nI 0)) (40, 0) 28 (nI 0)) (40, 0) 33 (nI 0)) (40, 0) 35 (nI 0)) := by
  have hN : ∀ f : Nat → Int32, LN f [] := fun f k x h => by cases h
  have hL : ∀ f : Nat → Int64, LI f [] := fun f k x h => by cases h
  have hD : ∀ n : Nat, Nd n [] := fun n => ⟨List.nodup_nil, fun i h => by cases h⟩
  refine ⟨?_, hN _, ?_, ?_, hL _, ?_, hN _, ?_, hN _, Nat.le_refl _, hD _, hD _, by simp [s00]⟩
  · simp [ui, s00]
  · rw [bI_f (by simp [s00])]; simp [ui]
  · simp [ui, s00]
  · simp [ui, s00]
  · simp [ui, s00]
theorem wm_f : EqF (fun k j => k.1 = 40 → j ≠ 0 ∧ j ≠ 22 ∧ j ≠ 24 ∧ j ≠ 26 ∧ j ≠ 28 ∧ j ≠ 33 ∧ j ≠ 35) M (ui (ui (ui (ui (ui (ui (ui M (40, 0) 0 (nI 0)) (40, 0) 22 (nI 0)) (40, 0) 24 (nI 0)) (40, 0) 26 (nI 0)) (40, 0) 28 (nI 0)) (40, 0) 33 (nI 0)) (40, 0) 35 (nI 0)) := ((((((EqF.rf.ui (by simp)).ui (by simp)).ui (by simp)).ui (by simp)).ui (by simp)).ui (by simp)).ui (by simp)
theorem wm_0 : ((ui (ui (ui (ui (ui (ui (ui M (40, 0) 0 (nI 0)) (40, 0) 22 (nI 0)) (40, 0) 24 (nI 0)) (40, 0) 26 (nI 0)) (40, 0) 28 (nI 0)) (40, 0) 33 (nI 0)) (40, 0) 35 (nI 0))).1 (40, 0) 0 = nI 0 := by simp [ui]
theorem wm_28 : ((ui (ui (ui (ui (ui (ui (ui M (40, 0) 0 (nI 0)) (40, 0) 22 (nI 0)) (40, 0) 24 (nI 0)) (40, 0) 26 (nI 0)) (40, 0) 28 (nI 0)) (40, 0) 33 (nI 0)) (40, 0) 35 (nI 0))).1 (40, 0) 28 = nI 0 := by simp [ui]
set_option maxHeartbeats 4000000 in
theorem l_menccopy {kf k0 : Nat} {Z : Zt} (v : Int64) {l : List Nat} (hl6 : l.length ≤ 600) : ∀ (n k : Nat), k + n = l.length → ∀ (M : Mm), LN (M.1 (63, 0)) l → M.1 (40, 0) 19 = nI l.length → (∀ j, j < k → M.1 (55, 0) j = M.1 (63, 0) j) →
    (∀ M', EqF (fun k _ => k.1 ≠ 55) M M' → LN (M'.1 (55, 0)) l → Fr G mX9_encode d kf Z k0 116 [(0, .ref (ga G (40, 0))), (1, .long (v)), (3, .int (nI (l.length)))] [] M') → Fr G mX9_encode d kf Z k0 90 [(0, .ref (ga G (40, 0))), (1, .long (v)), (3, .int (nI k))] [] M := by
  intro n
  induction n with
  | zero =>
    intro k hk M h1 h2 h3 kk
    refine x_iload_n rfl rfl rfl ?_
    refine x_aload_n rfl rfl rfl ?_
    refine x_getIv (v := nI (l.length)) h2 rfl rfl f_9_232 rfl (by decide) rfl ?_
    refine x_icmpN_ge (by omega) (by omega) rfl rfl (fun hc1 => ?_) (fun hc1 => absurd hc1 (by omega))
    exact (show k = l.length by omega) ▸ kk M EqF.rf (fun j x hx => (h3 j (by have := at_lt hx; omega)).trans (h1 j x hx))
  | succ n ih =>
    intro k hk M h1 h2 h3 kk
    refine x_iload_n rfl rfl rfl ?_
    refine x_aload_n rfl rfl rfl ?_
    refine x_getIv (v := nI (l.length)) h2 rfl rfl f_9_232 rfl (by decide) rfl ?_
    refine x_icmpN_ge (by omega) (by omega) rfl rfl (fun hc1 => absurd hc1 (by omega)) (fun hc1 => ?_)
    refine x_aload_n rfl rfl rfl ?_
    refine x_getR0 rfl rfl f_9_54 rfl (by decide) rfl rfl ?_
    refine x_iload_n rfl rfl rfl ?_
    refine x_aload_n rfl rfl rfl ?_
    refine x_getR0 rfl rfl f_9_78 rfl (by decide) rfl rfl ?_
    refine x_iload_n rfl rfl rfl ?_
    refine x_iald (a := k) rfl rfl rfl (by decide) (by omega) (by decide) ?_
    refine x_iast (a := k) rfl rfl rfl (by decide) (by omega) (by decide) ?_
    refine x_iincN (a := k) (b := 1) rfl rfl rfl rfl rfl ?_
    refine x_goto rfl rfl ?_
    refine ih (k + 1) (by omega) _ (h1.to fun j => by simp [ui]) (by simpa [ui] using h2) (fun j hj => ?_) (fun M' e9 g9 => kk M' ((EqF.rf.ui (by simp)).tr e9) g9)
    by_cases e : j = k
    · subst e; simp [ui]
    · simp [ui, e]; exact h3 j (by omega)
theorem menc_n {M2 : Mm} (hR : RM A M) (hD : Dn 0 (ui (ui (ui (ui (ui (ui (ui M (40, 0) 0 (nI 0)) (40, 0) 22 (nI 0)) (40, 0) 24 (nI 0)) (40, 0) 26 (nI 0)) (40, 0) 28 (nI 0)) (40, 0) 33 (nI 0)) (40, 0) 35 (nI 0)) none M2) : PMo M A 2 (ui M2 (40, 0) 0 (nI 2)) := by
  have e1 : EqF onR M M2 := (wm_f.sub fun k j z => by unfold onR at z; omega).tr hD.1.sr
  refine ⟨hR.eq (e1.ui (by simp [onR])), by simp [ui], ?_⟩
  exact Eqn.ui (Eqn.tr (Eqn.f wm_f fun k j z w => by omega) (Eqn.f hD.1 fun k j z => by unfold onS; omega)) (by simp)
theorem menc_s {M2 M3 : Mm} {s1 : WS} (hR : RM A M) (hD : Dn 0 (ui (ui (ui (ui (ui (ui (ui M (40, 0) 0 (nI 0)) (40, 0) 22 (nI 0)) (40, 0) 24 (nI 0)) (40, 0) 26 (nI 0)) (40, 0) 28 (nI 0)) (40, 0) 33 (nI 0)) (40, 0) 35 (nI 0)) (some s1) M2) (e3 : EqF (fun k _ => k.1 ≠ 55) (ui M2 (40, 0) 19 (nI s1.1.length)) M3) (g3 : LN (M3.1 (55, 0)) s1.1) : PMo M (setR A s1.1) 0 M3 := by
  have e1 : EqF onR M M2 := (wm_f.sub fun k j z => by unfold onR at z; omega).tr hD.1.sr
  have e2 : EqF (fun k j => onR k j ∧ k.1 ≠ 55 ∧ (k.1 = 40 → j ≠ 19)) M M3 := ((e1.sub fun k j z => z.1).ui (by simp)).tr (e3.sub fun k j z => z.2.1)
  have q1 : ∀ {r : Nat}, 41 ≤ r ∧ r ≤ 54 → ∀ j, onR (r, 0) j ∧ r ≠ 55 ∧ (r = 40 → j ≠ 19) := fun h j => ⟨rr ⟨h.1, by omega⟩ j, by omega, by omega⟩
  have q4 : ∀ {j : Nat}, (j = 1 ∨ j = 3 ∨ j = 8 ∨ j = 17 ∨ j = 21) → onR (40, 0) j ∧ ((40, 0) : Ky).1 ≠ 55 ∧ (((40, 0) : Ky).1 = 40 → j ≠ 19) := fun h => ⟨r4 (by omega), by decide, fun _ => by omega⟩
  obtain ⟨⟨a, b, c, e, f, g, p, l1, l2, l3, l4, l5⟩, r, s, t, u⟩ := hR
  refine ⟨⟨⟨a.to fun k => (e2 _ _ (q1 (by decide) _)).2, fun t x hx => ?_, fun i x hx => ?_, (e2 _ _ (q4 (by decide))).1.trans e, f.to fun k => (e2 _ _ (q1 (by decide) _)).2, ?_, g3, l1, l2, l3, l4, hD.2.2.2⟩, (e2 _ _ (q4 (by decide))).1.trans r, (e2 _ _ (q4 (by decide))).1.trans s, (e2 _ _ (q4 (by decide))).1.trans t, (e2 _ _ (q4 (by decide))).1.trans u⟩, ?_, ?_⟩
  · obtain ⟨a, b, c, e, f⟩ := b t x hx
    exact ⟨(e2 _ _ (q1 (by decide) _)).2.trans a, (e2 _ _ (q1 (by decide) _)).1.trans b, (e2 _ _ (q1 (by decide) _)).1.trans c, e.to fun k => (e2 _ _ (q1 (by decide) _)).2, f⟩
  · obtain ⟨a, b, c, e, f, g, p, q, r, z⟩ := c i x hx
    refine ⟨(e2 _ _ (q1 (by decide) _)).1.trans a, (e2 _ _ (q1 (by decide) _)).1.trans b, (e2 _ _ (q1 (by decide) _)).1.trans c, (e2 _ _ (q1 (by decide) _)).1.trans e, f.to fun k => (e2 _ _ (q1 (by decide) _)).2, g.to fun k => (e2 _ _ (q1 (by decide) _)).2, fun hk => (p hk).to fun k => (e2 _ _ (q1 (by decide) _)).2, fun hk => (e2 _ _ (q1 (by decide) _)).2.trans (q hk), fun hk k v hv => ?_, z⟩
    rw [(e2 (47, 0) i (q1 (by decide) _)).2]
    exact r hk k v hv
  · exact (e3 _ _ (by simp)).1.trans (by simp [ui, setR, aR])
  · refine (e3 _ _ (by simp)).1.trans ?_
    have := (hD.1 (40, 0) 0 (by simp [onS])).1
    rw [ui_v, if_neg (by simp), this]; simp [ui]
  · exact Eqn.tr (Eqn.ui (Eqn.tr (Eqn.f wm_f fun k j z w => by omega) (Eqn.f hD.1 fun k j z => by unfold onS; omega)) (by simp)) (Eqn.f e3 fun k j z => by omega)
set_option maxHeartbeats 4000000 in
set_option maxRecDepth 20000 in
theorem c_mencodeN (hG : Gok G) (hd : 8 ≤ d) (hwf : wfA A) (hR : RM A M) (v : Int64) (hv : vOK A v) (hr : wval A 12 v s00 = none) : Ce G mX9_encode d [.ref (ga G (40, 0)), .long v] M (.inl (some (.int (nI 0)))) (PMo M A 2) 0 := by
  refine ce_of hG okX9_encode (by decide +kernel) rfl (Nat.le_of_ble_eq_true rfl) ?_
  refine x_aload_n rfl rfl rfl ?_
  refine x_aload_n rfl rfl rfl ?_
  refine x_lload_n rfl rfl rfl ?_
  refine x_callVi (d2 := 2) (c_misValue (n := (aH A).length) (w := (aW A).length) hG (Nat.le_refl 2) v hR.2.2.2.1 hR.n40 hR.2.1 hR.nW) rfl rfl v_9_156 rfl rfl (by decide) rfl rfl (Nat.le_of_ble_eq_true rfl) (by omega) (by omega) ?_
  refine x_topI (v := bI (vOK A v)) rfl ?_
  refine x_ifB_eq rfl rfl (fun hc1 => absurd hv hc1) (fun hc1 => ?_)
  refine x_iconstN (b := 0) rfl rfl ?_
  refine x_goto rfl rfl ?_
  refine x_putI rfl rfl f_9_97 rfl rfl (by decide) rfl ?_
  refine x_aload_n rfl rfl rfl ?_
  refine x_getIv (v := nI 0) (by first | rfl | simp [ui, ul]) rfl rfl f_9_97 rfl (by decide) rfl ?_
  refine x_if_le rfl rfl (fun _ => ?_) (fun hc2 => absurd hc2 (by decide +kernel))
  refine x_aload_n rfl rfl rfl ?_
  refine x_callVv (d2 := 0) (c_mclearLists hG) rfl rfl v_9_226 rfl rfl (by decide) rfl rfl (Nat.le_of_ble_eq_true rfl) (by omega) (by omega) ?_
  refine x_aload_n rfl rfl rfl ?_
  refine x_iconstN (b := 0) rfl rfl ?_
  refine x_putI rfl rfl f_9_176 rfl rfl (by decide) rfl ?_
  refine x_aload_n rfl rfl rfl ?_
  refine x_iconstN (b := 0) rfl rfl ?_
  refine x_putZ rfl rfl f_9_179 rfl rfl (by decide) rfl (by first | exact Or.inl rfl | exact Or.inr rfl | exact bI_01 _ | assumption) ?_
  refine x_aload_n rfl rfl rfl ?_
  refine x_lload_n rfl rfl rfl ?_
  refine x_callVe (k2 := 0) (d2 := 5) (c_memitValue (h := 0) hG (Nat.le_refl 5) hwf wm_start (by decide) (hR.eq (wm_f.sub fun k j z => by unfold onR at z; omega)) wm_28 (by decide) v hv) rfl rfl v_9_223 rfl rfl (by decide) rfl rfl (Nat.le_of_ble_eq_true rfl) (by omega) (Nat.zero_le _) (fun M9 q9 => ?_)
  refine enc_val (dl := 12) hG hwf (by omega) (Nat.zero_le _) 0 rfl v hv s00 _ wm_start (by decide) (hR.eq (wm_f.sub fun k j z => by unfold onR at z; omega)) wm_28 (fun M2 hD => ?_) M9 q9
  rw [hr] at hD
  show Fr G mX9_encode d 0 _ 0 45 _ [] M2
  refine x_aload_n rfl rfl rfl ?_
  refine x_getI rfl rfl f_9_196 rfl (by decide) rfl ?_
  refine x_if_le rfl rfl (fun hc3 => ?_) (fun hc3 => ?_)
  · refine x_aload_n rfl rfl rfl ?_
    refine x_getZv (v := nI 1) hD.2 rfl rfl f_9_179 rfl (by decide) rfl ?_
    refine x_if_eq rfl rfl (fun hc4 => absurd hc4 (by decide +kernel)) (fun _ => ?_)
    refine x_aload_n rfl rfl rfl ?_
    refine x_iconstN (b := 2) rfl rfl ?_
    refine x_putI rfl rfl f_9_97 rfl rfl (by decide) rfl ?_
    refine x_iconstN (b := 0) rfl rfl ?_
    exact fr_e (x_retI rfl rfl rfl (by omega) rfl rfl) (menc_n hR hD)
  · refine x_aload_n rfl rfl rfl ?_
    refine x_getZv (v := nI 1) hD.2 rfl rfl f_9_179 rfl (by decide) rfl ?_
    refine x_if_ne rfl rfl (fun _ => ?_) (fun hc5 => absurd hc5 (by decide +kernel))
    refine x_aload_n rfl rfl rfl ?_
    refine x_getZv (v := nI 1) hD.2 rfl rfl f_9_179 rfl (by decide) rfl ?_
    refine x_if_eq rfl rfl (fun hc6 => absurd hc6 (by decide +kernel)) (fun _ => ?_)
    refine x_aload_n rfl rfl rfl ?_
    refine x_iconstN (b := 2) rfl rfl ?_
    refine x_putI rfl rfl f_9_97 rfl rfl (by decide) rfl ?_
    refine x_iconstN (b := 0) rfl rfl ?_
    exact fr_e (x_retI rfl rfl rfl (by omega) rfl rfl) (menc_n hR hD)
set_option maxHeartbeats 4000000 in
set_option maxRecDepth 20000 in
theorem c_mencodeS (hG : Gok G) (hd : 8 ≤ d) (hwf : wfA A) (hR : RM A M) (v : Int64) (hv : vOK A v) {s1 : WS} (hr : wval A 12 v s00 = some s1) : Ce G mX9_encode d [.ref (ga G (40, 0)), .long v] M (.inl (some (.int (nI s1.1.length)))) (PMo M (setR A s1.1) 0) 0 := by
  refine ce_of hG okX9_encode (by decide +kernel) rfl (Nat.le_of_ble_eq_true rfl) ?_
  refine x_aload_n rfl rfl rfl ?_
  refine x_aload_n rfl rfl rfl ?_
  refine x_lload_n rfl rfl rfl ?_
  refine x_callVi (d2 := 2) (c_misValue (n := (aH A).length) (w := (aW A).length) hG (Nat.le_refl 2) v hR.2.2.2.1 hR.n40 hR.2.1 hR.nW) rfl rfl v_9_156 rfl rfl (by decide) rfl rfl (Nat.le_of_ble_eq_true rfl) (by omega) (by omega) ?_
  refine x_topI (v := bI (vOK A v)) rfl ?_
  refine x_ifB_eq rfl rfl (fun hc1 => absurd hv hc1) (fun hc1 => ?_)
  refine x_iconstN (b := 0) rfl rfl ?_
  refine x_goto rfl rfl ?_
  refine x_putI rfl rfl f_9_97 rfl rfl (by decide) rfl ?_
  refine x_aload_n rfl rfl rfl ?_
  refine x_getIv (v := nI 0) (by first | rfl | simp [ui, ul]) rfl rfl f_9_97 rfl (by decide) rfl ?_
  refine x_if_le rfl rfl (fun _ => ?_) (fun hc2 => absurd hc2 (by decide +kernel))
  refine x_aload_n rfl rfl rfl ?_
  refine x_callVv (d2 := 0) (c_mclearLists hG) rfl rfl v_9_226 rfl rfl (by decide) rfl rfl (Nat.le_of_ble_eq_true rfl) (by omega) (by omega) ?_
  refine x_aload_n rfl rfl rfl ?_
  refine x_iconstN (b := 0) rfl rfl ?_
  refine x_putI rfl rfl f_9_176 rfl rfl (by decide) rfl ?_
  refine x_aload_n rfl rfl rfl ?_
  refine x_iconstN (b := 0) rfl rfl ?_
  refine x_putZ rfl rfl f_9_179 rfl rfl (by decide) rfl (by first | exact Or.inl rfl | exact Or.inr rfl | exact bI_01 _ | assumption) ?_
  refine x_aload_n rfl rfl rfl ?_
  refine x_lload_n rfl rfl rfl ?_
  refine x_callVe (k2 := 0) (d2 := 5) (c_memitValue (h := 0) hG (Nat.le_refl 5) hwf wm_start (by decide) (hR.eq (wm_f.sub fun k j z => by unfold onR at z; omega)) wm_28 (by decide) v hv) rfl rfl v_9_223 rfl rfl (by decide) rfl rfl (Nat.le_of_ble_eq_true rfl) (by omega) (Nat.zero_le _) (fun M9 q9 => ?_)
  refine enc_val (dl := 12) hG hwf (by omega) (Nat.zero_le _) 0 rfl v hv s00 _ wm_start (by decide) (hR.eq (wm_f.sub fun k j z => by unfold onR at z; omega)) wm_28 (fun M2 hD => ?_) M9 q9
  rw [hr] at hD
  show Fr G mX9_encode d 0 _ 0 45 _ [] M2
  refine x_aload_n rfl rfl rfl ?_
  refine x_getIv (v := nI 0) hD.2.2.1 rfl rfl f_9_196 rfl (by decide) rfl ?_
  refine x_if_le rfl rfl (fun _ => ?_) (fun hc3 => absurd hc3 (by decide +kernel))
  refine x_aload_n rfl rfl rfl ?_
  refine x_getZv (v := nI 0) (hD.2.1.good hD.2.2.2) rfl rfl f_9_179 rfl (by decide) rfl ?_
  refine x_if_eq rfl rfl (fun _ => ?_) (fun hc4 => absurd hc4 (by decide +kernel))
  refine x_aload_n rfl rfl rfl ?_
  refine x_aload_n rfl rfl rfl ?_
  refine x_getIv (v := nI (s1.1.length)) hD.2.1.1 rfl rfl f_9_176 rfl (by decide) rfl ?_
  refine x_putI rfl rfl f_9_232 rfl rfl (by decide) rfl ?_
  refine x_iconstN (b := 0) rfl rfl ?_
  refine x_istore_n rfl rfl rfl rfl ?_
  refine l_menccopy v hD.2.2.2 _ 0 (Nat.zero_add _) _ (by have := hD.2.1.2.1; rw [List.take_of_length_le hD.2.2.2] at this; exact this.to fun j => by simp [ui]) (by simp [ui]) (fun j hj => by omega) (fun M3 e3 g3 => ?_)
  have h19 : M3.1 (40, 0) 19 = nI s1.1.length := (e3 _ _ (by simp)).1.trans (by simp [ui])
  refine x_aload_n rfl rfl rfl ?_
  refine x_getIv (v := nI (s1.1.length)) h19 rfl rfl f_9_232 rfl (by decide) rfl ?_
  exact fr_e (x_retI rfl rfl rfl (by omega) rfl rfl) (menc_s hR hD e3 g3)
end M8
