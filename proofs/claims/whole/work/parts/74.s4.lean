section S4
variable {G : Gd} {d : Nat} {M : Mm} {A : Ab}
set_option maxHeartbeats 4000000 in
set_option maxRecDepth 20000 in
theorem l_sini {a b : Int64} {M9 : Mm} {kf k0 : Nat} {Z : Zt} (go : ∀ M1, EqF (fun k _ => ¬ (k.1 = 64 ∨ k.1 = 65)) M9 M1 → (∀ l, l < 40 → M1.1 (64, 0) l = -1) → (∀ l, l < 40 → M1.1 (65, 0) l = -1) → Fr G mX9_same d kf Z k0 55 [(0, .ref (ga G (40, 0))), (1, .long a), (3, .long b), (5, .int (nI 40))] [] M1) : ∀ (n i : Nat), i + n = 40 → ∀ (M : Mm), EqF (fun k _ => ¬ (k.1 = 64 ∨ k.1 = 65)) M9 M → (∀ l, l < i → M.1 (64, 0) l = -1) → (∀ l, l < i → M.1 (65, 0) l = -1) → Fr G mX9_same d kf Z k0 26 [(0, .ref (ga G (40, 0))), (1, .long (a)), (3, .long (b)), (5, .int (nI i))] [] M := by
  intro n
  induction n with
  | zero =>
    intro i hi M hS h1 h2
    have ei : i = 40 := by omega
    subst ei
    refine x_iload rfl rfl rfl ?_
    refine x_bipush (v := nI 40) rfl rfl (by decide +kernel) ?_
    refine x_icmpN_ge (by omega) (by omega) rfl rfl (fun hc1 => ?_) (fun hc1 => absurd hc1 (by omega))
    exact go M hS h1 h2
  | succ n ih =>
    intro i hi M hS h1 h2
    refine x_iload rfl rfl rfl ?_
    refine x_bipush (v := nI 40) rfl rfl (by decide +kernel) ?_
    refine x_icmpN_ge (by omega) (by omega) rfl rfl (fun hc1 => absurd hc1 (by omega)) (fun hc1 => ?_)
    refine x_aload_n rfl rfl rfl ?_
    refine x_getR0 rfl rfl f_9_81 rfl (by decide) rfl rfl ?_
    refine x_iload rfl rfl rfl ?_
    refine x_iconst (v := -1) rfl rfl (by decide +kernel) ?_
    refine x_iast (a := i) rfl rfl rfl (by decide) (by omega) (by decide) ?_
    refine x_aload_n rfl rfl rfl ?_
    refine x_getR0 rfl rfl f_9_84 rfl (by decide) rfl rfl ?_
    refine x_iload rfl rfl rfl ?_
    refine x_iconst (v := -1) rfl rfl (by decide +kernel) ?_
    refine x_iast (a := i) rfl rfl rfl (by decide) (by omega) (by decide) ?_
    refine x_iincN (a := i) (b := 1) rfl rfl rfl rfl rfl ?_
    refine x_goto rfl rfl ?_
    exact ih (i + 1) (by omega) _ ((hS.ui (by simp)).ui (by simp)) (fun l h => (Classical.em (l = i)).elim (fun e => by subst e; simp [ui]) (fun e => by rw [← h1 l (by omega)]; simp [ui, e])) (fun l h => (Classical.em (l = i)).elim (fun e => by subst e; simp [ui]) (fun e => by rw [← h2 l (by omega)]; simp [ui, e]))
set_option maxHeartbeats 4000000 in
set_option maxRecDepth 20000 in
theorem l_sl (hG : Gok G) (hd : 2 ≤ d) (hwf : wfA A) {a b : Int64} {M9 : Mm} : ∀ (n i : Nat), i + n = 40 → ∀ (q0 : QS) (M : Mm), RM A M → (QX (40, 0) 41 (66, 0) (64, 0) (65, 0) (aH A).length) q0 M → EqF onQm M9 M → Fr G mX9_same d 0 (Ze G (.inl (some (.int (bI (mLoop A n i q0 = true))))) (fun M' => EqF onQm M9 M') 0) 0 71 [(0, .ref (ga G (40, 0))), (1, .long (a)), (3, .long (b)), (5, .int (nI 1)), (6, .int (nI i))] [] M := by
  intro n
  induction n with
  | zero =>
    intro i hi q0 M hR0 hQ0 hS0
    have hn40 := hR0.n40
    have hql := hQ0.len
    refine x_iload rfl rfl rfl ?_
    refine x_aload_n rfl rfl rfl ?_
    refine x_getIv (v := nI (q0.length)) hQ0.1 rfl rfl f_9_292 rfl (by decide) rfl ?_
    refine x_icmpN_ge (by omega) (by omega) rfl rfl (fun hc1 => ?_) (fun hc1 => absurd hc1 (by omega))
    refine x_iload rfl rfl rfl ?_
    exact fr_e (x_retZ rfl rfl rfl (Or.inr rfl) (by omega) (by rw [bI_t (P := mLoop A 0 i q0 = true) rfl]) rfl) hS0
  | succ n ih =>
    intro i hi q0 M hR0 hQ0 hS0
    have hn40 := hR0.n40
    have hql := hQ0.len
    cases hp : q0[i]? with
    | none =>
      have hle := List.getElem?_eq_none_iff.mp hp
      refine x_iload rfl rfl rfl ?_
      refine x_aload_n rfl rfl rfl ?_
      refine x_getIv (v := nI (q0.length)) hQ0.1 rfl rfl f_9_292 rfl (by decide) rfl ?_
      refine x_icmpN_ge (by omega) (by omega) rfl rfl (fun hc1 => ?_) (fun hc1 => absurd hc1 (by omega))
      refine x_iload rfl rfl rfl ?_
      exact fr_e (x_retZ rfl rfl rfl (Or.inr rfl) (by omega) (by rw [bI_t (P := mLoop A (n + 1) i q0 = true) (by unfold mLoop; rw [hp])]) rfl) hS0
    | some p =>
      have hlt := at_lt hp
      obtain ⟨w1, w2, w3, w4⟩ := pq_at hn40 hQ0 hp
      obtain ⟨x, hx⟩ : ∃ x, (aH A)[p.1]? = some x := ⟨_, List.getElem?_eq_getElem w3⟩
      obtain ⟨y, hy⟩ : ∃ y, (aH A)[p.2]? = some y := ⟨_, List.getElem?_eq_getElem w4⟩
      have e2 : mP2 A p q0 = mT2 A x y q0 := by unfold mP2; rw [hx, hy]
      have eL : mLoop A (n + 1) i q0 = (match mT2 A x y q0 with | some q' => mLoop A n (i + 1) q' | none => false) := by
        rw [← e2]; show (match q0[i]? with | none => true | some p => _) = _; rw [hp] <;> rfl
      rw [eL]
      refine x_iload rfl rfl rfl ?_
      refine x_aload_n rfl rfl rfl ?_
      refine x_getIv (v := nI (q0.length)) hQ0.1 rfl rfl f_9_292 rfl (by decide) rfl ?_
      refine x_icmpN_ge (by omega) (by omega) rfl rfl (fun hc1 => absurd hc1 (by omega)) (fun hc1 => ?_)
      refine x_iload rfl rfl rfl ?_
      refine x_if_eq rfl rfl (fun hc2 => absurd hc2 (by decide +kernel)) (fun _ => ?_)
      refine x_aload_n rfl rfl rfl ?_
      refine x_aload_n rfl rfl rfl ?_
      refine x_getR0 rfl rfl f_9_87 rfl (by decide) rfl rfl ?_
      refine x_iload rfl rfl rfl ?_
      refine x_ialdv (a := i) (v := nI (p.1)) w1 rfl rfl rfl (by decide) (by omega) (by decide) ?_
      refine x_aload_n rfl rfl rfl ?_
      refine x_getR0 rfl rfl f_9_81 rfl (by decide) rfl rfl ?_
      refine x_aload_n rfl rfl rfl ?_
      refine x_getR0 rfl rfl f_9_87 rfl (by decide) rfl rfl ?_
      refine x_iload rfl rfl rfl ?_
      refine x_ialdv (a := i) (v := nI (p.1)) w1 rfl rfl rfl (by decide) (by omega) (by decide) ?_
      refine x_ialdv (a := p.1) (v := nI (p.2)) w2 rfl rfl rfl (by decide) (by omega) (by decide) ?_
      refine x_callVe (k2 := 0) (d2 := 1) (c_mareAlike hG hR0 hQ0 (Nat.le_refl 1) hwf hx hy) rfl rfl v_9_299 rfl rfl (by decide) rfl rfl (Nat.le_of_ble_eq_true rfl) (by omega) (by omega) (fun M1 hM1 => ?_)
      cases hr : mT2 A x y q0 with
      | none =>
        rw [hr] at hM1
        obtain ⟨hE1, hQ1⟩ := hM1
        refine x_topI (v := nI 0) (bI_f (by simp)) ?_
        refine x_istore rfl rfl rfl rfl ?_
        refine x_iincN (a := i) (b := 1) rfl rfl rfl rfl rfl ?_
        refine x_goto rfl rfl ?_
        refine x_iload rfl rfl rfl ?_
        refine x_aload_n rfl rfl rfl ?_
        refine x_getI rfl rfl f_9_292 rfl (by decide) rfl ?_
        refine x_icmp_ge rfl rfl (fun hc3 => ?_) (fun hc3 => ?_)
        · refine x_iload rfl rfl rfl ?_
          exact fr_e (x_retZ rfl rfl rfl (Or.inl rfl) (by omega) (by rw [bI_f (by simp)]) rfl) (hS0.tr hE1)
        · refine x_iload rfl rfl rfl ?_
          refine x_if_eq rfl rfl (fun _ => ?_) (fun hc4 => absurd hc4 (by decide +kernel))
          refine x_iload rfl rfl rfl ?_
          exact fr_e (x_retZ rfl rfl rfl (Or.inl rfl) (by omega) (by rw [bI_f (by simp)]) rfl) (hS0.tr hE1)
      | some q1 =>
        rw [hr] at hM1
        obtain ⟨hE1, hQ1⟩ := hM1
        refine x_topI (v := nI 1) (bI_t rfl) ?_
        refine x_istore rfl rfl rfl rfl ?_
        refine x_iincN (a := i) (b := 1) rfl rfl rfl rfl rfl ?_
        refine x_goto rfl rfl ?_
        exact ih (i + 1) (by omega) q1 M1 (hR0.eqQ hE1) (hQ1 q1 rfl) (hS0.tr hE1)
theorem sm_mend {M1 : Mm} (hR : RM A M) (hE : EqF (fun k j => ¬ (k.1 = 40 ∧ j = 0) ∧ onQm k j) M M1) (h0 : M1.1 (40, 0) 0 = nI 0) : PMo M A 0 M1 := ⟨hR.eq (hE.sub fun k j z => by unfold onR at z; unfold onQm; omega), h0, fun k hk j => hE k j (by unfold onQm; omega)⟩
theorem sm_ini {M1 : Mm} {n : Nat} (h1 : ∀ l, l < 40 → M1.1 (64, 0) l = -1) (h2 : ∀ l, l < 40 → M1.1 (65, 0) l = -1) : QX (40, 0) 41 (66, 0) (64, 0) (65, 0) n [] (ui M1 (40, 0) 41 (nI 0)) :=
  ⟨by simp [ui], (fun k x h => by cases h), fun l hl => h1 l hl, fun l hl => h2 l hl, ⟨⟨List.nodup_nil, (fun i h => by cases h)⟩, ⟨List.nodup_nil, (fun i h => by cases h)⟩⟩⟩
theorem frw {y : Mt} {o9 : Oc} {P P2 : Mm → Prop} {pc : Nat} {lv : List (Nat × Value)} {st : List Value} (h : Fr G y d 0 (Ze G o9 P 0) 0 pc lv st M) (hP : ∀ M', P M' → P2 M') : Fr G y d 0 (Ze G o9 P2 0) 0 pc lv st M := by
  intro p e R s m args below meth c H locs ls C hx hH hL T hT X
  obtain ⟨t2, a1, oc, b1, b2, b3⟩ := h p e R s m args below meth c H locs ls C hx hH hL T hT X
  refine ⟨t2, a1, oc, b1, b2, ?_⟩
  rcases b3 with ⟨⟨v, M', h1, h2, h5, h3⟩, h4⟩ | ⟨q, h1, E, ce, L, ⟨M', h2, h5, h3⟩, h4⟩
  · exact Or.inl ⟨⟨v, M', h1, h2, hP _ h5, h3⟩, h4⟩
  · exact Or.inr ⟨q, h1, E, ce, L, ⟨M', h2, hP _ h5, h3⟩, h4⟩
set_option maxHeartbeats 4000000 in
set_option maxRecDepth 20000 in
theorem c_msame (hG : Gok G) (hd : 3 ≤ d) (hwf : wfA A) (hR : RM A M) (a b : Int64) : Ce G mX9_same d [.ref (ga G (40, 0)), .long a, .long b] M (.inl (some (.int (bI (sameA A a b))))) (PMo M A 0) 0 := by
  refine ce_of hG okX9_same (by decide +kernel) rfl (Nat.le_of_ble_eq_true rfl) ?_
  refine x_aload_n rfl rfl rfl ?_
  refine x_iconstN (b := 0) rfl rfl ?_
  refine x_putI rfl rfl f_9_97 rfl rfl (by decide) rfl ?_
  refine x_aload_n rfl rfl rfl ?_
  refine x_lload_n rfl rfl rfl ?_
  refine x_callVi (d2 := 2) (c_misValue (n := (aH A).length) (w := (aW A).length) hG (Nat.le_refl 2) a (by simpa [ui] using hR.2.2.2.1) hR.n40 (by simpa [ui] using hR.2.1) hR.nW) rfl rfl v_9_156 rfl rfl (by decide) rfl rfl (Nat.le_of_ble_eq_true rfl) (by omega) (by omega) ?_
  refine x_topI (v := bI (vOK A a)) rfl ?_
  refine x_ifB_eq rfl rfl (fun hc1 => ?_) (fun hc1 => ?_)
  · refine x_iconstN (b := 0) rfl rfl ?_
    exact fr_e (x_retZ rfl rfl rfl (Or.inl rfl) (by omega) (by rw [bI_f (fun z => hc1 z.1)]) rfl) (sm_mend hR (EqF.rf.ui (by simp)) (by simp [ui]))
  · refine x_aload_n rfl rfl rfl ?_
    refine x_lload_n rfl rfl rfl ?_
    refine x_callVi (d2 := 2) (c_misValue (n := (aH A).length) (w := (aW A).length) hG (Nat.le_refl 2) b (by simpa [ui] using hR.2.2.2.1) hR.n40 (by simpa [ui] using hR.2.1) hR.nW) rfl rfl v_9_156 rfl rfl (by decide) rfl rfl (Nat.le_of_ble_eq_true rfl) (by omega) (by omega) ?_
    refine x_topI (v := bI (vOK A b)) rfl ?_
    refine x_ifB_ne rfl rfl (fun hc2 => ?_) (fun hc2 => ?_)
    · refine x_iconstN (b := 0) rfl rfl ?_
      refine x_istore rfl rfl rfl rfl ?_
      have e9 : bI (sameA A a b) = bI (mTop A a b) := bI_iff ⟨fun z => z.2.2, fun z => ⟨hc1, hc2, z⟩⟩
      rw [e9]
      refine l_sini (M9 := (ui M (40, 0) 0 (nI 0))) (fun M1 g1 g2 g3 => ?_) 40 0 rfl _ EqF.rf (fun l h => absurd h (Nat.not_lt_zero l)) (fun l h => absurd h (Nat.not_lt_zero l))
      have hE1 : EqF (fun k j => ¬ (k.1 = 40 ∧ (j = 0 ∨ j = 41)) ∧ ¬ (64 ≤ k.1 ∧ k.1 ≤ 66)) M (ui M1 (40, 0) 41 (nI 0)) := (EqF.tr (EqF.rf.ui (by simp)) (g1.sub fun k j z => by omega)).ui (by simp)
      have hR2 : RM A (ui M1 (40, 0) 41 (nI 0)) := hR.eq (hE1.sub fun k j z => by unfold onR at z; omega)
      have h01 : (ui M1 (40, 0) 41 (nI 0)).1 (40, 0) 0 = nI 0 := by rw [ui_v, if_neg (by simp), (g1 (40, 0) 0 (by simp)).1]; simp [ui]
      refine x_aload_n rfl rfl rfl ?_
      refine x_iconstN (b := 0) rfl rfl ?_
      refine x_putI rfl rfl f_9_292 rfl rfl (by decide) rfl ?_
      refine x_aload_n rfl rfl rfl ?_
      refine x_lload_n rfl rfl rfl ?_
      refine x_lload_n rfl rfl rfl ?_
      refine x_callVe (k2 := 0) (d2 := 0) (c_mareSame hG hR2 (sm_ini g2 g3) hc1 hc2) rfl rfl v_9_295 rfl rfl (by decide) rfl rfl (Nat.le_of_ble_eq_true rfl) (by omega) (by omega) (fun M2 hM2 => ?_)
      unfold mTop
      cases hr : mV A a b [] with
      | none =>
        rw [hr] at hM2
        obtain ⟨hE2, hQ2⟩ := hM2
        refine x_topI (v := nI 0) (bI_f (by simp)) ?_
        refine x_istore rfl rfl rfl rfl ?_
        refine x_iconstN (b := 0) rfl rfl ?_
        refine x_istore rfl rfl rfl rfl ?_
        refine x_iload rfl rfl rfl ?_
        refine x_aload_n rfl rfl rfl ?_
        refine x_getI rfl rfl f_9_292 rfl (by decide) rfl ?_
        refine x_icmp_ge rfl rfl (fun hc3 => ?_) (fun hc3 => ?_)
        · refine x_iload rfl rfl rfl ?_
          exact fr_e (x_retZ rfl rfl rfl (Or.inl rfl) (by omega) (by rw [bI_f (fun z => z)]) rfl) (sm_mend hR ((hE1.sub fun k j z => by have z2 := z.2; unfold onQm at z2; omega).tr (hE2.sub fun k j z => z.2)) ((hE2 (40, 0) 0 (by simp [onQm])).1.trans h01))
        · refine x_iload rfl rfl rfl ?_
          refine x_if_eq rfl rfl (fun _ => ?_) (fun hc4 => absurd hc4 (by decide +kernel))
          refine x_iload rfl rfl rfl ?_
          exact fr_e (x_retZ rfl rfl rfl (Or.inl rfl) (by omega) (by rw [bI_f (fun z => z)]) rfl) (sm_mend hR ((hE1.sub fun k j z => by have z2 := z.2; unfold onQm at z2; omega).tr (hE2.sub fun k j z => z.2)) ((hE2 (40, 0) 0 (by simp [onQm])).1.trans h01))
      | some q1 =>
        rw [hr] at hM2
        obtain ⟨hE2, hQ2⟩ := hM2
        refine x_topI (v := nI 1) (bI_t rfl) ?_
        refine x_istore rfl rfl rfl rfl ?_
        refine x_iconstN (b := 0) rfl rfl ?_
        refine x_istore rfl rfl rfl rfl ?_
        refine frw (l_sl hG (by omega) hwf 40 0 rfl q1 M2 (hR2.eqQ hE2) (hQ2 q1 rfl) hE2) (fun M3 h3 => sm_mend hR ((hE1.sub fun k j z => by have z2 := z.2; unfold onQm at z2; omega).tr (h3.sub fun k j z => z.2)) ((h3 (40, 0) 0 (by simp [onQm])).1.trans h01))
    · refine x_iconstN (b := 0) rfl rfl ?_
      exact fr_e (x_retZ rfl rfl rfl (Or.inl rfl) (by omega) (by rw [bI_f (fun z => hc2 z.2.1)]) rfl) (sm_mend hR (EqF.rf.ui (by simp)) (by simp [ui]))
end S4
