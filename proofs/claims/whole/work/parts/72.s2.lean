theorem x_callSe {G : Gd} {y : Mt} {d kf : Nat} {Z : Zt} {k pc n t : Nat} {lv : List (Nat × Value)} {st : List Value} {M : Mm} {P : Mm → Prop} {y2 : Mt} {d2 k2 np idx : Nat} {As rest : List Value} {v : Option Value} (hC : Ce G y2 d2 As M (.inl v) P k2) (hi : tget (yT y) pc = some (.invokestatic idx, n, t)) (hn : pc + 3 = n) (hl : LkS (yC y) idx y2 np)
    (hnp : As.length = np) (hst : st = As.reverse ++ rest) (hW : (rest.map fun v => v.category).sum ≤ 8) (hd : d2 + 1 ≤ d) (hk : k + k2 ≤ kf)
    (kk : ∀ M2 : Mm, P M2 → Fr G y d kf Z (k + k2) n lv (v.toList ++ rest) M2) : Fr G y d kf Z k pc lv st M := by
  intro p e R s m args below meth c H locs ls C hx hH hL T hT X
  subst hn
  rw [hst]
  rcases x_behindE C hl.1 hd hC hk hi hW hH hL hT (x_goesS C hl hi hnp X) with ⟨v', M2, T', L, ho, hP, X', hH', hsteps⟩ | ⟨E, M2, q', ce, T', L, ho, -⟩
  · cases ho
    obtain ⟨t2, a1, b1⟩ := kk M2 hP p e R s m args below meth c T'.heap (locs ++ L) ls C hx hH' hL T' rfl X'
    exact ⟨t2, hsteps.trans a1, b1⟩
  · cases ho
section S2
variable {G : Gd} {d : Nat} {M : Mm} {A : Ab}
set_option maxHeartbeats 4000000 in
theorem l_fill35 {M9 : Mm} : ∀ (n i : Nat), i + n = 40 → ∀ (M : Mm), EqF (fun k _ => k.1 ≠ 35) M9 M → (∀ l, l < i → M.1 (35, 0) l = -1) → Fr G mJ7_fill_53178 d 0 (Ze G (.inl none) (fun M' => EqF (fun k _ => k.1 ≠ 35) M9 M' ∧ ∀ l, l < 40 → M'.1 (35, 0) l = -1) 0) 0 5 [(0, .ref (ga G (35, 0))), (1, .int ((-1))), (2, .int (nI i)), (3, .int (nI 40))] [] M := by
  intro n
  induction n with
  | zero =>
    intro i hi M hS hl
    refine x_iload_n rfl rfl rfl ?_
    refine x_iload_n rfl rfl rfl ?_
    refine x_icmpN_ge (by omega) (by omega) rfl rfl (fun hc1 => ?_) (fun hc1 => absurd hc1 (by omega))
    exact fr_e (x_retV rfl rfl rfl (by omega) rfl rfl) ⟨hS, fun l h => hl l (by omega)⟩
  | succ n ih =>
    intro i hi M hS hl
    refine x_iload_n rfl rfl rfl ?_
    refine x_iload_n rfl rfl rfl ?_
    refine x_icmpN_ge (by omega) (by omega) rfl rfl (fun hc1 => absurd hc1 (by omega)) (fun hc1 => ?_)
    refine x_aload_n rfl rfl rfl ?_
    refine x_iload_n rfl rfl rfl ?_
    refine x_iload_n rfl rfl rfl ?_
    refine x_iast (a := i) rfl rfl rfl (by decide) (by omega) (by decide) ?_
    refine x_iincN (a := i) (b := 1) rfl rfl rfl rfl rfl ?_
    refine x_goto rfl rfl ?_
    exact ih (i + 1) (by omega) _ (hS.ui (by simp)) (fun l h => (Classical.em (l = i)).elim (fun e => by subst e; simp [ui]) (fun e => by rw [← hl l (by omega)]; simp [ui, e]))
set_option maxHeartbeats 4000000 in
set_option maxRecDepth 20000 in
theorem c_fill35 (hG : Gok G) : Ce G mJ7_fill_53178 d [.ref (ga G (35, 0)), .int (-1)] M (.inl none) (fun M' => EqF (fun k _ => k.1 ≠ 35) M M' ∧ ∀ l, l < 40 → M'.1 (35, 0) l = -1) 0 := by
  refine ce_of hG okJ7_fill_53178 (by decide +kernel) rfl (Nat.le_of_ble_eq_true rfl) ?_
  refine x_iconstN (b := 0) rfl rfl ?_
  refine x_istore_n rfl rfl rfl rfl ?_
  refine x_aload_n rfl rfl rfl ?_
  refine x_alen rfl rfl rfl (by decide) (by decide) ?_
  refine x_istore_n rfl rfl rfl rfl ?_
  exact l_fill35 40 0 rfl M EqF.rf (fun l h => absurd h (Nat.not_lt_zero l))
set_option maxHeartbeats 4000000 in
theorem l_fill36 {M9 : Mm} : ∀ (n i : Nat), i + n = 40 → ∀ (M : Mm), EqF (fun k _ => k.1 ≠ 36) M9 M → (∀ l, l < i → M.1 (36, 0) l = -1) → Fr G mJ7_fill_53178 d 0 (Ze G (.inl none) (fun M' => EqF (fun k _ => k.1 ≠ 36) M9 M' ∧ ∀ l, l < 40 → M'.1 (36, 0) l = -1) 0) 0 5 [(0, .ref (ga G (36, 0))), (1, .int ((-1))), (2, .int (nI i)), (3, .int (nI 40))] [] M := by
  intro n
  induction n with
  | zero =>
    intro i hi M hS hl
    refine x_iload_n rfl rfl rfl ?_
    refine x_iload_n rfl rfl rfl ?_
    refine x_icmpN_ge (by omega) (by omega) rfl rfl (fun hc1 => ?_) (fun hc1 => absurd hc1 (by omega))
    exact fr_e (x_retV rfl rfl rfl (by omega) rfl rfl) ⟨hS, fun l h => hl l (by omega)⟩
  | succ n ih =>
    intro i hi M hS hl
    refine x_iload_n rfl rfl rfl ?_
    refine x_iload_n rfl rfl rfl ?_
    refine x_icmpN_ge (by omega) (by omega) rfl rfl (fun hc1 => absurd hc1 (by omega)) (fun hc1 => ?_)
    refine x_aload_n rfl rfl rfl ?_
    refine x_iload_n rfl rfl rfl ?_
    refine x_iload_n rfl rfl rfl ?_
    refine x_iast (a := i) rfl rfl rfl (by decide) (by omega) (by decide) ?_
    refine x_iincN (a := i) (b := 1) rfl rfl rfl rfl rfl ?_
    refine x_goto rfl rfl ?_
    exact ih (i + 1) (by omega) _ (hS.ui (by simp)) (fun l h => (Classical.em (l = i)).elim (fun e => by subst e; simp [ui]) (fun e => by rw [← hl l (by omega)]; simp [ui, e]))
set_option maxHeartbeats 4000000 in
set_option maxRecDepth 20000 in
theorem c_fill36 (hG : Gok G) : Ce G mJ7_fill_53178 d [.ref (ga G (36, 0)), .int (-1)] M (.inl none) (fun M' => EqF (fun k _ => k.1 ≠ 36) M M' ∧ ∀ l, l < 40 → M'.1 (36, 0) l = -1) 0 := by
  refine ce_of hG okJ7_fill_53178 (by decide +kernel) rfl (Nat.le_of_ble_eq_true rfl) ?_
  refine x_iconstN (b := 0) rfl rfl ?_
  refine x_istore_n rfl rfl rfl rfl ?_
  refine x_aload_n rfl rfl rfl ?_
  refine x_alen rfl rfl rfl (by decide) (by decide) ?_
  refine x_istore_n rfl rfl rfl rfl ?_
  exact l_fill36 40 0 rfl M EqF.rf (fun l h => absurd h (Nat.not_lt_zero l))
theorem st_end {n : Nat} {M1 M2 : Mm} (hn : n ≤ 40) (h1 : EqF (fun k _ => k.1 ≠ 35) M M1 ∧ ∀ l, l < 40 → M1.1 (35, 0) l = -1) (h2 : EqF (fun k _ => k.1 ≠ 36) M1 M2 ∧ ∀ l, l < 40 → M2.1 (36, 0) l = -1) : EqF onQc M (ui M2 (34, 0) 4 (nI 0)) ∧ QX (34, 0) 4 (37, 0) (35, 0) (36, 0) n [] (ui M2 (34, 0) 4 (nI 0)) := by
  refine ⟨((h1.1.sub fun k j z => by unfold onQc at z; omega).tr (h2.1.sub fun k j z => by unfold onQc at z; omega)).ui (by simp [onQc]), by simp [ui], (fun k x h => by cases h), fun l hl => ?_, fun l hl => ?_, ⟨⟨List.nodup_nil, (fun i h => by cases h)⟩, ⟨List.nodup_nil, (fun i h => by cases h)⟩⟩⟩
  · show M2.1 (35, 0) l = -1
    rw [(h2.1 (35, 0) l (by simp)).1]; exact h1.2 l hl
  · exact h2.2 l hl
set_option maxHeartbeats 4000000 in
set_option maxRecDepth 20000 in
theorem c_mtstart (hG : Gok G) (hd : 1 ≤ d) {n : Nat} (hn : n ≤ 40) : Ce G mX1_start d [.ref (ga G (34, 0))] M (.inl none) (fun M' => EqF onQc M M' ∧ QX (34, 0) 4 (37, 0) (35, 0) (36, 0) n [] M') 0 := by
  refine ce_of hG okX1_start (by decide +kernel) rfl (Nat.le_of_ble_eq_true rfl) ?_
  refine x_aload_n rfl rfl rfl ?_
  refine x_getR0 rfl rfl f_1_9 rfl (by decide) rfl rfl ?_
  refine x_iconst (v := -1) rfl rfl (by decide +kernel) ?_
  refine x_callSe (k2 := 0) (d2 := 0) (c_fill35 hG) rfl rfl s_1_25 rfl rfl (Nat.le_of_ble_eq_true rfl) (by omega) (by omega) (fun M1 hM1 => ?_)
  refine x_aload_n rfl rfl rfl ?_
  refine x_getR0 rfl rfl f_1_15 rfl (by decide) rfl rfl ?_
  refine x_iconst (v := -1) rfl rfl (by decide +kernel) ?_
  refine x_callSe (k2 := 0) (d2 := 0) (c_fill36 hG) rfl rfl s_1_25 rfl rfl (Nat.le_of_ble_eq_true rfl) (by omega) (by omega) (fun M2 hM2 => ?_)
  refine x_aload_n rfl rfl rfl ?_
  refine x_iconstN (b := 0) rfl rfl ?_
  refine x_putI rfl rfl f_1_31 rfl rfl (by decide) rfl ?_
  exact fr_e (x_retV rfl rfl rfl (by omega) rfl rfl) (st_end hn hM1 hM2)
theorem at_no {q : QS} {i : Nat} (h : q.length ≤ i) : q[i]? = none := List.getElem?_eq_none h
theorem pq_at {n i : Nat} {q : QS} {p : Nat × Nat} {M : Mm} {kc kq kr kl : Ky} {jc : Nat} (hn : n ≤ 40) (h : QX kc jc kq kr kl n q M) (hp : q[i]? = some p) : M.1 kq i = nI p.1 ∧ M.1 kr p.1 = nI p.2 ∧ p.1 < n ∧ p.2 < n := by
  have hm := at_mem hp
  have h1 := h.2.2.2.2.1.2 p.1 (List.mem_map.mpr ⟨p, hm, rfl⟩)
  have h2 := h.2.2.2.2.2.2 p.2 (List.mem_map.mpr ⟨p, hm, rfl⟩)
  refine ⟨h.2.1 i p.1 (by rw [List.getElem?_map, hp]; rfl), ?_, h1, h2⟩
  rw [h.2.2.1 p.1 (by omega), rO_of h.2.2.2.2 hm]; rfl
set_option maxHeartbeats 4000000 in
theorem l_ml (hG : Gok G) (hd : 4 ≤ d) (hwf : wfA A) {a b : Int64} {M9 : Mm} : ∀ (n i : Nat), i + n = 40 → ∀ (q0 : QS) (M : Mm), Cn A M → (QX (34, 0) 4 (37, 0) (35, 0) (36, 0) (aH A).length) q0 M → EqF onQc M9 M → Fr G mX1_matches d 0 (Ze G (.inl (some (.int (bI (mLoop A n i q0 = true))))) (fun M' => EqF onQc M9 M') 0) 0 14 [(0, .ref (ga G (34, 0))), (1, .long (a)), (3, .long (b)), (5, .int (nI i))] [] M := by
  intro n
  induction n with
  | zero =>
    intro i hi q0 M hC0 hQ0 hS0
    have hn40 := hC0.n40
    have hql := hQ0.len
    refine x_iload rfl rfl rfl ?_
    refine x_aload_n rfl rfl rfl ?_
    refine x_getIv (v := nI (q0.length)) hQ0.1 rfl rfl f_1_31 rfl (by decide) rfl ?_
    refine x_icmpN_ge (by omega) (by omega) rfl rfl (fun hc1 => ?_) (fun hc1 => absurd hc1 (by omega))
    refine x_iconstN (b := 1) rfl rfl ?_
    exact fr_e (x_retZ rfl rfl rfl (Or.inr rfl) (by omega) (by rw [bI_t (P := mLoop A 0 i q0 = true) rfl]) rfl) hS0
  | succ n ih =>
    intro i hi q0 M hC0 hQ0 hS0
    have hn40 := hC0.n40
    have hql := hQ0.len
    cases hp : q0[i]? with
    | none =>
      have hle := List.getElem?_eq_none_iff.mp hp
      refine x_iload rfl rfl rfl ?_
      refine x_aload_n rfl rfl rfl ?_
      refine x_getIv (v := nI (q0.length)) hQ0.1 rfl rfl f_1_31 rfl (by decide) rfl ?_
      refine x_icmpN_ge (by omega) (by omega) rfl rfl (fun hc1 => ?_) (fun hc1 => absurd hc1 (by omega))
      refine x_iconstN (b := 1) rfl rfl ?_
      exact fr_e (x_retZ rfl rfl rfl (Or.inr rfl) (by omega) (by rw [bI_t (P := mLoop A (n + 1) i q0 = true) (by unfold mLoop; rw [hp])]) rfl) hS0
    | some p =>
      have hlt := at_lt hp
      obtain ⟨w1, w2, w3, w4⟩ := pq_at hn40 hQ0 hp
      obtain ⟨x, hx⟩ : ∃ x, (aH A)[p.1]? = some x := ⟨_, List.getElem?_eq_getElem w3⟩
      obtain ⟨y, hy⟩ : ∃ y, (aH A)[p.2]? = some y := ⟨_, List.getElem?_eq_getElem w4⟩
      have e2 : mP2 A p q0 = mT2 A x y q0 := by unfold mP2; rw [hx, hy]
      have eL : mLoop A (n + 1) i q0 = (match mT2 A x y q0 with | some q' => mLoop A n (i + 1) q' | none => false) := by
        rw [← e2]; show (match q0[i]? with | none => true | some p => _) = _; rw [hp] <;> rfl
      rw [eL]
      refine x_iload rfl rfl rfl ?_
      refine x_aload_n rfl rfl rfl ?_
      refine x_getIv (v := nI (q0.length)) hQ0.1 rfl rfl f_1_31 rfl (by decide) rfl ?_
      refine x_icmpN_ge (by omega) (by omega) rfl rfl (fun hc1 => absurd hc1 (by omega)) (fun hc1 => ?_)
      refine x_iload rfl rfl rfl ?_
      refine x_bipush (v := nI 40) rfl rfl (by decide +kernel) ?_
      refine x_icmpN_ge (by omega) (by omega) rfl rfl (fun hc2 => absurd hc2 (by omega)) (fun hc2 => ?_)
      refine x_aload_n rfl rfl rfl ?_
      refine x_getR0 rfl rfl f_1_18 rfl (by decide) rfl rfl ?_
      refine x_iload rfl rfl rfl ?_
      refine x_ialdv (a := i) (v := nI (p.1)) w1 rfl rfl rfl (by decide) (by omega) (by decide) ?_
      refine x_istore rfl rfl rfl rfl ?_
      refine x_aload_n rfl rfl rfl ?_
      refine x_aload_n rfl rfl rfl ?_
      refine x_getR0 rfl rfl f_1_21 rfl (by decide) rfl rfl ?_
      refine x_getR0 rfl rfl f_1_39 rfl (by decide) rfl rfl ?_
      refine x_iload rfl rfl rfl ?_
      refine x_aaldi (a := p.1) rfl rfl rfl (by decide) (by decide) (by omega) (by decide) rfl ?_
      refine x_aload_n rfl rfl rfl ?_
      refine x_getR0 rfl rfl f_1_21 rfl (by decide) rfl rfl ?_
      refine x_getR0 rfl rfl f_1_39 rfl (by decide) rfl rfl ?_
      refine x_aload_n rfl rfl rfl ?_
      refine x_getR0 rfl rfl f_1_9 rfl (by decide) rfl rfl ?_
      refine x_iload rfl rfl rfl ?_
      refine x_ialdv (a := p.1) (v := nI (p.2)) w2 rfl rfl rfl (by decide) (by omega) (by decide) ?_
      refine x_aaldi (a := p.2) rfl rfl rfl (by decide) (by decide) (by omega) (by decide) rfl ?_
      refine x_callVe (k2 := 0) (d2 := 3) (c_matchThings hG hC0 hQ0 (Nat.le_refl 3) hwf hx hy) rfl rfl v_1_45 rfl rfl (by decide) rfl rfl (Nat.le_of_ble_eq_true rfl) (by omega) (by omega) (fun M1 hM1 => ?_)
      cases hr : mT2 A x y q0 with
      | none =>
        rw [hr] at hM1
        obtain ⟨hE1, hQ1⟩ := hM1
        refine x_topI (v := nI 0) (bI_f (by simp)) ?_
        refine x_if_ne rfl rfl (fun hc3 => absurd hc3 (by decide +kernel)) (fun _ => ?_)
        refine x_iconstN (b := 0) rfl rfl ?_
        exact fr_e (x_retZ rfl rfl rfl (Or.inl rfl) (by omega) (by rw [bI_f (by simp)]) rfl) (hS0.tr hE1)
      | some q1 =>
        rw [hr] at hM1
        obtain ⟨hE1, hQ1⟩ := hM1
        refine x_topI (v := nI 1) (bI_t rfl) ?_
        refine x_if_ne rfl rfl (fun _ => ?_) (fun hc4 => absurd hc4 (by decide +kernel))
        refine x_iincN (a := i) (b := 1) rfl rfl rfl rfl rfl ?_
        refine x_goto rfl rfl ?_
        exact x_pick [0, 1, 2, 3] rfl (ih (i + 1) (by omega) q1 M1 (hC0.eqQ hE1) (hQ1 q1 rfl) (hS0.tr hE1))
set_option maxHeartbeats 4000000 in
set_option maxRecDepth 20000 in
theorem c_matches (hG : Gok G) (hd : 4 ≤ d) (hwf : wfA A) (hC0 : Cn A M) (hQ0 : (QX (34, 0) 4 (37, 0) (35, 0) (36, 0) (aH A).length) [] M) {a b : Int64} (ha : vOK A a) (hb : vOK A b) : Ce G mX1_matches d [.ref (ga G (34, 0)), .long a, .long b] M (.inl (some (.int (bI (mTop A a b))))) (fun M' => EqF onQc M M') 0 := by
  refine ce_of hG okX1_matches (by decide +kernel) rfl (Nat.le_of_ble_eq_true rfl) ?_
  refine x_aload_n rfl rfl rfl ?_
  refine x_lload_n rfl rfl rfl ?_
  refine x_lload_n rfl rfl rfl ?_
  refine x_callVe (k2 := 0) (d2 := 1) (c_meet hG hC0 hQ0 (Nat.le_refl 1) ha hb) rfl rfl v_1_35 rfl rfl (by decide) rfl rfl (Nat.le_of_ble_eq_true rfl) (by omega) (by omega) (fun M1 hM1 => ?_)
  unfold mTop
  cases hr : mV A a b [] with
  | none =>
    rw [hr] at hM1
    obtain ⟨hE1, hQ1⟩ := hM1
    refine x_topI (v := nI 0) (bI_f (by simp)) ?_
    refine x_if_ne rfl rfl (fun hc1 => absurd hc1 (by decide +kernel)) (fun _ => ?_)
    refine x_iconstN (b := 0) rfl rfl ?_
    exact fr_e (x_retZ rfl rfl rfl (Or.inl rfl) (by omega) (by rw [bI_f (fun z => z)]) rfl) hE1
  | some q1 =>
    rw [hr] at hM1
    obtain ⟨hE1, hQ1⟩ := hM1
    refine x_topI (v := nI 1) (bI_t rfl) ?_
    refine x_if_ne rfl rfl (fun _ => ?_) (fun hc2 => absurd hc2 (by decide +kernel))
    refine x_iconstN (b := 0) rfl rfl ?_
    refine x_istore rfl rfl rfl rfl ?_
    exact l_ml hG hd hwf 40 0 rfl q1 M1 (hC0.eqQ hE1) (hQ1 q1 rfl) hE1
def sameA (A : Ab) (a b : Int64) : Prop := vOK A a ∧ vOK A b ∧ mTop A a b
theorem sm_end {M1 : Mm} (hR : RC A M) (hE : EqF onQc M M1) : PC M A M1 := ⟨hR.eqn (on := fun r => ¬ (34 ≤ r ∧ r ≤ 37)) (fun k hk j => hE k j hk) (fun r h1 h2 => by omega) (by omega), fun k hk j => hE k j (by unfold onQc; omega)⟩
set_option maxHeartbeats 4000000 in
set_option maxRecDepth 20000 in
theorem c_same (hG : Gok G) (hd : 5 ≤ d) (hwf : wfA A) (hR : RC A M) (a b : Int64) : Ce G mX8_same d [.ref (ga G (0, 0)), .long a, .long b] M (.inl (some (.int (bI (sameA A a b))))) (PC M A) 0 := by
  refine ce_of hG okX8_same (by decide +kernel) rfl (Nat.le_of_ble_eq_true rfl) ?_
  refine x_aload_n rfl rfl rfl ?_
  refine x_getR0 rfl rfl f_8_20 rfl (by decide) rfl rfl ?_
  refine x_lload_n rfl rfl rfl ?_
  refine x_callVi (d2 := 1) (c_isValue (n := (aH A).length) (w := (aW A).length) hG (Nat.le_refl 1) a hR.2.2.2.1 hR.1.n40 hR.2.1 hR.1.nW) rfl rfl v_8_136 rfl rfl (by decide) rfl rfl (Nat.le_of_ble_eq_true rfl) (by omega) (by omega) ?_
  refine x_topI (v := bI (vOK A a)) rfl ?_
  refine x_ifB_eq rfl rfl (fun hc1 => ?_) (fun hc1 => ?_)
  · refine x_iconstN (b := 0) rfl rfl ?_
    exact fr_e (x_retZ rfl rfl rfl (Or.inl rfl) (by omega) (by rw [bI_f (fun z => hc1 z.1)]) rfl) (sm_end hR EqF.rf)
  · refine x_aload_n rfl rfl rfl ?_
    refine x_getR0 rfl rfl f_8_20 rfl (by decide) rfl rfl ?_
    refine x_lload_n rfl rfl rfl ?_
    refine x_callVi (d2 := 1) (c_isValue (n := (aH A).length) (w := (aW A).length) hG (Nat.le_refl 1) b hR.2.2.2.1 hR.1.n40 hR.2.1 hR.1.nW) rfl rfl v_8_136 rfl rfl (by decide) rfl rfl (Nat.le_of_ble_eq_true rfl) (by omega) (by omega) ?_
    refine x_topI (v := bI (vOK A b)) rfl ?_
    refine x_ifB_ne rfl rfl (fun hc2 => ?_) (fun hc2 => ?_)
    · refine x_aload_n rfl rfl rfl ?_
      refine x_getR0 rfl rfl f_8_53 rfl (by decide) rfl rfl ?_
      refine x_callVe (k2 := 0) (d2 := 1) (c_mtstart hG (Nat.le_refl 1) hR.1.n40) rfl rfl v_8_222 rfl rfl (by decide) rfl rfl (Nat.le_of_ble_eq_true rfl) (by omega) (by omega) (fun M1 hM1 => ?_)
      refine x_aload_n rfl rfl rfl ?_
      refine x_getR0 rfl rfl f_8_53 rfl (by decide) rfl rfl ?_
      refine x_lload_n rfl rfl rfl ?_
      refine x_lload_n rfl rfl rfl ?_
      refine x_callVe (k2 := 0) (d2 := 4) (c_matches hG (Nat.le_refl 4) hwf (hR.1.eqQ hM1.1) hM1.2 hc1 hc2) rfl rfl v_8_223 rfl rfl (by decide) rfl rfl (Nat.le_of_ble_eq_true rfl) (by omega) (by omega) (fun M2 hM2 => ?_)
      have e9 : bI (sameA A a b) = bI (mTop A a b) := bI_iff ⟨fun z => z.2.2, fun z => ⟨hc1, hc2, z⟩⟩
      exact fr_e (x_retZ rfl rfl rfl (bI_01 _) (by omega) (by rw [e9]) rfl) (sm_end hR (hM1.1.tr hM2))
    · refine x_iconstN (b := 0) rfl rfl ?_
      exact fr_e (x_retZ rfl rfl rfl (Or.inl rfl) (by omega) (by rw [bI_f (fun z => hc2 z.2.1)]) rfl) (sm_end hR EqF.rf)
end S2
