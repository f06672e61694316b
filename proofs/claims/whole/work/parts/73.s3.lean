def onQm (k : Ky) (j : Nat) : Prop := ¬ (64 ≤ k.1 ∧ k.1 ≤ 66) ∧ (k.1 = 40 → j ≠ 41)
theorem QM_push {n l r : Nat} {q : QS} {M : Mm} (hn : n ≤ 40) (h : QX (40, 0) 41 (66, 0) (64, 0) (65, 0) n q M) (hl : l < n) (hr : r < n) (h1 : rO q l = none) (h2 : lO q r = none) : QX (40, 0) 41 (66, 0) (64, 0) (65, 0) n (q ++ [(l, r)]) (ui (ui (ui (ui M (64, 0) l (nI r)) (65, 0) r (nI l)) (66, 0) q.length (nI l)) (40, 0) 41 (nI (q.length + 1))) := by
  obtain ⟨a, b, c, e, f⟩ := h
  refine ⟨by simp [ui], ?_, fun l' hl' => ?_, fun r' hr' => ?_, f.push hl hr h1 h2⟩
  · rw [List.map_append]
    exact b.push (fun k hk => by rw [List.length_map] at hk; have hne : k ≠ q.length := Nat.ne_of_lt hk; simp [ui, hne]) (by simp [ui])
  · rw [rO_new h1]
    by_cases e9 : l' = l
    · rw [if_pos e9, e9]; simp [ui, ixv]
    · rw [if_neg e9, ← c l' hl']; simp [ui, e9]
  · rw [lO_new h2]
    by_cases e9 : r' = r
    · rw [if_pos e9, e9]; simp [ui, ixv]
    · rw [if_neg e9, ← e r' hr']; simp [ui, e9]
theorem RM.eqQ {A : Ab} {M M1 : Mm} (h : RM A M) (he : EqF onQm M M1) : RM A M1 := h.eq (he.sub fun k j z => by unfold onR at z; unfold onQm; omega)
theorem bnone {α β : Type} (r : Option α) : (r.bind fun _ => (none : Option β)) = none := by cases r <;> rfl
theorem mT2_eq {A : Ab} {x y : Th} {q : QS} (h1 : tK x = tK y) (h2 : tD x = tD y) (h3 : trv x = trv y) (h4 : (tL x).length = (tL y).length) (h5 : (tV x).length = (tV y).length) : mT2 A x y q = (mAll A (tL x) (tL y) q).bind fun q1 => if tY x = tY y then mAll A (tV x) (tV y) q1 else none := by
  unfold mT2
  by_cases h : tY x = tY y
  · rw [if_pos ⟨h1, h2, h3, h⟩]
    unfold mAllL
    rw [if_pos h4]
    congr 1
    funext q1
    rw [if_pos h5, if_pos h]
  · rw [if_neg (fun z => h z.2.2.2)]
    have e : (fun q1 => if tY x = tY y then mAll A (tV x) (tV y) q1 else none) = fun _ => (none : Option QS) := by funext q1; rw [if_neg h]
    rw [e, bnone]
theorem mT2_len {A : Ab} {x y : Th} {q : QS} (h : ¬ (tL x).length = (tL y).length) : mT2 A x y q = none := by
  unfold mT2
  split
  · unfold mAllL; rw [if_neg h]; rfl
  · rfl
theorem uN_bk {x : Int64} {k : Nat} (hk : k < 8) : uN ((x.toUInt64 >>> ((nI (8 * k)).toInt64.toUInt64 &&& Int64.toUInt64 63)).toInt64 &&& 255) = uN x / 2 ^ (8 * k) % 256 := by rw [uN_255, uN_sk x (by omega)]
theorem by16k {b : Nat} (h : b < 256) : uN (16 * lN b + 4) % 16 = 4 := by
  have e : ∀ x : Fin 256, uN (16 * lN x.val + 4) % 16 = 4 := by decide +kernel
  exact e ⟨b, h⟩
theorem mV_by {A : Ab} {v w : Int64} {q : QS} {b c : Nat} (hb : b < 256) (hc : c < 256) (ev : v = 16 * lN b + 4) (ew : w = 16 * lN c + 4) : mV A v w q = if uN (sh4 v) = uN (sh4 w) then some q else none := by
  unfold mV
  rw [ev, ew, if_neg (fun z => z ((by16k hb).trans (by16k hc).symm)), if_neg (by rw [by16k hb]; decide), if_neg (by rw [by16k hb]; decide), by16 hb, by16 hc]
  by_cases h : b = c
  · rw [if_pos (by rw [h]), if_pos h]
  · rw [if_neg (fun z => h (by have := congrArg (fun t => uN (sh4 t)) z; rw [by16 hb, by16 hc] at this; exact this)), if_neg h]
theorem cons_if {A : Ab} {a : Int64} {l m : List Int64} {v w : Int64} {lv lw : List Int64} {q : QS} : (if a :: l = a :: m then mAll A (v :: lv) (w :: lw) q else none) = (mV A v w q).bind fun q1 => if l = m then mAll A lv lw q1 else none := by
  by_cases h : l = m
  · rw [if_pos (by rw [h])]
    have e : (fun q1 => if l = m then mAll A lv lw q1 else none) = mAll A lv lw := by funext q1; rw [if_pos h]
    rw [e]; rfl
  · rw [if_neg (fun z => h (List.cons.inj z).2)]
    have e : (fun q1 => if l = m then mAll A lv lw q1 else none) = fun _ => (none : Option QS) := by funext q1; rw [if_neg h]
    rw [e, bnone]
section S3
variable {G : Gd} {d : Nat} {M : Mm} {A : Ab}
set_option maxHeartbeats 4000000 in
set_option maxRecDepth 20000 in
theorem c_mareSame (hG : Gok G) (hR0 : RM A M) {q0 : QS} (hQ0 : (QX (40, 0) 41 (66, 0) (64, 0) (65, 0) (aH A).length) q0 M) {a b : Int64} (ha : vOK A a) (hb : vOK A b) : CS G mX9_areSame d [.ref (ga G (40, 0)), .long (a), .long (b)] M onQm (QX (40, 0) 41 (66, 0) (64, 0) (65, 0) (aH A).length) (mV A a b q0) := by
  have hS0 : EqF onQm M M := EqF.rf
  have hn40 := hR0.n40
  have hql := hQ0.len
  refine s_of hG okX9_areSame (by decide +kernel) rfl (Nat.le_of_ble_eq_true rfl) ?_
  refine x_lload_n rfl rfl rfl ?_
  refine x_ldc2 (v := 15) rfl rfl k_9_108 ?_
  refine x_land rfl rfl ?_
  refine x_l2i rfl rfl ?_
  refine x_topI (v := nI (uN a % 16)) (by rw [kd_eq]) ?_
  refine x_istore rfl rfl rfl rfl ?_
  refine x_iload rfl rfl rfl ?_
  refine x_lload_n rfl rfl rfl ?_
  refine x_ldc2 (v := 15) rfl rfl k_9_108 ?_
  refine x_land rfl rfl ?_
  refine x_l2i rfl rfl ?_
  refine x_topI (v := nI (uN b % 16)) (by rw [kd_eq]) ?_
  refine x_icmpN_eq (by omega) (by omega) rfl rfl (fun hc1 => ?_) (fun hc1 => ?_)
  · refine x_iload rfl rfl rfl ?_
    refine x_iconstN (b := 5) rfl rfl ?_
    refine x_icmpN_ne (by omega) (by omega) rfl rfl (fun hc2 => ?_) (fun hc2 => ?_)
    · refine x_iload rfl rfl rfl ?_
      refine x_bipush (v := nI 7) rfl rfl (by decide +kernel) ?_
      refine x_icmpN_eq (by omega) (by omega) rfl rfl (fun hc3 => ?_) (fun hc3 => ?_)
      · have ha7 := (isV_7 hc3).mp ha
        have hb7 := (isV_7 (hc1.symm.trans hc3)).mp hb
        have ua := uN_in hn40 ha7.1 ha7.2
        have ub := uN_in hn40 hb7.1 hb7.2
        rw [show mV A a b q0 = mT (uN (sh4 a)) (uN (sh4 b)) q0 by unfold mV; rw [if_neg (fun z => z hc1), if_neg hc2, if_pos hc3]]
        refine x_lload_n rfl rfl rfl ?_
        refine x_iconstN (b := 4) rfl rfl ?_
        refine x_lshr rfl rfl ?_
        refine x_l2i rfl rfl ?_
        refine x_topI (v := nI (uN (sh4 a))) (l2i_small (show uN (sh4 a) < 2147483648 by omega)) ?_
        refine x_istore rfl rfl rfl rfl ?_
        refine x_lload_n rfl rfl rfl ?_
        refine x_iconstN (b := 4) rfl rfl ?_
        refine x_lshr rfl rfl ?_
        refine x_l2i rfl rfl ?_
        refine x_topI (v := nI (uN (sh4 b))) (l2i_small (show uN (sh4 b) < 2147483648 by omega)) ?_
        refine x_istore rfl rfl rfl rfl ?_
        refine x_aload_n rfl rfl rfl ?_
        refine x_getR0 rfl rfl f_9_81 rfl (by decide) rfl rfl ?_
        refine x_iload rfl rfl rfl ?_
        refine x_ialdv (a := uN (sh4 a)) (v := ixv (rO q0 (uN (sh4 a)))) (hQ0.2.2.1 _ (by omega)) rfl rfl rfl (by decide) (by omega) (by decide) ?_
        refine x_iconst (v := -1) rfl rfl (by decide +kernel) ?_
        refine x_icmp_ne rfl rfl (fun hc4 => ?_) (fun hc4 => ?_)
        · have hno : ¬ (rO q0 (uN (sh4 a)) = none ∧ lO q0 (uN (sh4 b)) = none) := fun z => hc4 ((ixv_no (fun p h => by have := rO_lt hQ0.2.2.2.2 h; omega)).mpr z.1)
          refine x_aload_n rfl rfl rfl ?_
          refine x_getR0 rfl rfl f_9_81 rfl (by decide) rfl rfl ?_
          refine x_iload rfl rfl rfl ?_
          refine x_ialdv (a := uN (sh4 a)) (v := ixv (rO q0 (uN (sh4 a)))) (hQ0.2.2.1 _ (by omega)) rfl rfl rfl (by decide) (by omega) (by decide) ?_
          refine x_iload rfl rfl rfl ?_
          refine x_icmp_ne rfl rfl (fun hc5 => ?_) (fun hc5 => ?_)
          · refine x_iconstN (b := 0) rfl rfl ?_
            exact s_f (by unfold mT; rw [if_neg hno, if_neg (fun z => hc5 ((ixv_is (fun p h => by have := rO_lt hQ0.2.2.2.2 h; omega) (by omega)).mpr z))]) hS0 rfl rfl rfl
          · refine x_aload_n rfl rfl rfl ?_
            refine x_getR0 rfl rfl f_9_84 rfl (by decide) rfl rfl ?_
            refine x_iload rfl rfl rfl ?_
            refine x_ialdv (a := uN (sh4 b)) (v := ixv (lO q0 (uN (sh4 b)))) (hQ0.2.2.2.1 _ (by omega)) rfl rfl rfl (by decide) (by omega) (by decide) ?_
            refine x_iload rfl rfl rfl ?_
            refine x_icmp_ne rfl rfl (fun hc6 => ?_) (fun hc6 => ?_)
            · refine x_iconstN (b := 0) rfl rfl ?_
              exact absurd ((ixv_is (fun p h => by have := lO_lt hQ0.2.2.2.2 h; omega) (by omega)).mpr (rO_lO hQ0.2.2.2.2 ((ixv_is (fun p h => by have := rO_lt hQ0.2.2.2.2 h; omega) (by omega)).mp hc5))) hc6
            · refine x_iconstN (b := 1) rfl rfl ?_
              refine x_goto rfl rfl ?_
              exact s_t (by unfold mT; rw [if_neg hno, if_pos ((ixv_is (fun p h => by have := rO_lt hQ0.2.2.2.2 h; omega) (by omega)).mp hc5)]) hS0 hQ0 rfl rfl rfl
        · refine x_aload_n rfl rfl rfl ?_
          refine x_getR0 rfl rfl f_9_84 rfl (by decide) rfl rfl ?_
          refine x_iload rfl rfl rfl ?_
          refine x_ialdv (a := uN (sh4 b)) (v := ixv (lO q0 (uN (sh4 b)))) (hQ0.2.2.2.1 _ (by omega)) rfl rfl rfl (by decide) (by omega) (by decide) ?_
          refine x_iconst (v := -1) rfl rfl (by decide +kernel) ?_
          refine x_icmp_ne rfl rfl (fun hc7 => ?_) (fun hc7 => ?_)
          · have hno : ¬ (rO q0 (uN (sh4 a)) = none ∧ lO q0 (uN (sh4 b)) = none) := fun z => hc7 ((ixv_no (fun p h => by have := lO_lt hQ0.2.2.2.2 h; omega)).mpr z.2)
            refine x_aload_n rfl rfl rfl ?_
            refine x_getR0 rfl rfl f_9_81 rfl (by decide) rfl rfl ?_
            refine x_iload rfl rfl rfl ?_
            refine x_ialdv (a := uN (sh4 a)) (v := ixv (rO q0 (uN (sh4 a)))) (hQ0.2.2.1 _ (by omega)) rfl rfl rfl (by decide) (by omega) (by decide) ?_
            refine x_iload rfl rfl rfl ?_
            refine x_icmp_ne rfl rfl (fun hc8 => ?_) (fun hc8 => ?_)
            · refine x_iconstN (b := 0) rfl rfl ?_
              exact s_f (by unfold mT; rw [if_neg hno, if_neg (fun z => hc8 ((ixv_is (fun p h => by have := rO_lt hQ0.2.2.2.2 h; omega) (by omega)).mpr z))]) hS0 rfl rfl rfl
            · refine x_aload_n rfl rfl rfl ?_
              refine x_getR0 rfl rfl f_9_84 rfl (by decide) rfl rfl ?_
              refine x_iload rfl rfl rfl ?_
              refine x_ialdv (a := uN (sh4 b)) (v := ixv (lO q0 (uN (sh4 b)))) (hQ0.2.2.2.1 _ (by omega)) rfl rfl rfl (by decide) (by omega) (by decide) ?_
              refine x_iload rfl rfl rfl ?_
              refine x_icmp_ne rfl rfl (fun hc9 => ?_) (fun hc9 => ?_)
              · refine x_iconstN (b := 0) rfl rfl ?_
                exact absurd ((ixv_is (fun p h => by have := lO_lt hQ0.2.2.2.2 h; omega) (by omega)).mpr (rO_lO hQ0.2.2.2.2 ((ixv_is (fun p h => by have := rO_lt hQ0.2.2.2.2 h; omega) (by omega)).mp hc8))) hc9
              · refine x_iconstN (b := 1) rfl rfl ?_
                refine x_goto rfl rfl ?_
                exact s_t (by unfold mT; rw [if_neg hno, if_pos ((ixv_is (fun p h => by have := rO_lt hQ0.2.2.2.2 h; omega) (by omega)).mp hc8)]) hS0 hQ0 rfl rfl rfl
          · have h1 := (ixv_no (fun p h => by have := rO_lt hQ0.2.2.2.2 h; omega)).mp hc4
            have h2 := (ixv_no (fun p h => by have := lO_lt hQ0.2.2.2.2 h; omega)).mp hc7
            have hqn := (hQ0.2.2.2.2.1.push (rO_no h1) ua).len
            rw [List.length_append, List.length_map] at hqn
            simp at hqn
            refine x_aload_n rfl rfl rfl ?_
            refine x_getR0 rfl rfl f_9_81 rfl (by decide) rfl rfl ?_
            refine x_iload rfl rfl rfl ?_
            refine x_iload rfl rfl rfl ?_
            refine x_iast (a := uN (sh4 a)) rfl rfl rfl (by decide) (by omega) (by decide) ?_
            refine x_aload_n rfl rfl rfl ?_
            refine x_getR0 rfl rfl f_9_84 rfl (by decide) rfl rfl ?_
            refine x_iload rfl rfl rfl ?_
            refine x_iload rfl rfl rfl ?_
            refine x_iast (a := uN (sh4 b)) rfl rfl rfl (by decide) (by omega) (by decide) ?_
            refine x_aload_n rfl rfl rfl ?_
            refine x_getR0 rfl rfl f_9_87 rfl (by decide) rfl rfl ?_
            refine x_aload_n rfl rfl rfl ?_
            refine x_getIv (v := nI (q0.length)) (by first | exact hQ0.1 | (rw [← hQ0.1]; rfl) | simp [ui, ul, hQ0.1]) rfl rfl f_9_292 rfl (by decide) rfl ?_
            refine x_iload rfl rfl rfl ?_
            refine x_iast (a := q0.length) rfl rfl rfl (by decide) (by omega) (by decide) ?_
            refine x_aload_n rfl rfl rfl ?_
            refine x_dup rfl rfl rfl ?_
            refine x_getIv (v := nI (q0.length)) (by first | exact hQ0.1 | (rw [← hQ0.1]; rfl) | simp [ui, ul, hQ0.1]) rfl rfl f_9_292 rfl (by decide) rfl ?_
            refine x_iconstN (b := 1) rfl rfl ?_
            refine x_iaddN (a := q0.length) (b := 1) rfl rfl ?_
            refine x_putI rfl rfl f_9_292 rfl rfl (by decide) rfl ?_
            refine x_iconstN (b := 1) rfl rfl ?_
            exact s_t (by unfold mT; rw [if_pos ⟨h1, h2⟩]) ((((hS0.ui (by simp [onQm])).ui (by simp [onQm])).ui (by simp [onQm])).ui (by simp [onQm])) (QM_push hn40 hQ0 ua ub h1 h2) rfl rfl rfl
      · refine x_lload_n rfl rfl rfl ?_
        refine x_lload_n rfl rfl rfl ?_
        refine x_lc_ne rfl rfl rfl rfl (fun hc10 => ?_) (fun hc10 => ?_)
        · refine x_iconstN (b := 0) rfl rfl ?_
          exact s_f (by unfold mV; rw [if_neg (fun z => z hc1), if_neg hc2, if_neg hc3, if_neg hc10]) hS0 rfl rfl rfl
        · refine x_iconstN (b := 1) rfl rfl ?_
          refine x_goto rfl rfl ?_
          exact s_t (by unfold mV; rw [if_neg (fun z => z hc1), if_neg hc2, if_neg hc3, if_pos hc10]) hS0 hQ0 rfl rfl rfl
    · have ha5 := (isV_5 hc2).mp ha
      have hb5 := (isV_5 (hc1.symm.trans hc2)).mp hb
      have ua := uN_in hR0.nW ha5.1 ha5.2
      have ub := uN_in hR0.nW hb5.1 hb5.2
      have hnW := hR0.nW
      refine x_aload_n rfl rfl rfl ?_
      refine x_getR0 rfl rfl f_9_7 rfl (by decide) rfl rfl ?_
      refine x_lload_n rfl rfl rfl ?_
      refine x_iconstN (b := 4) rfl rfl ?_
      refine x_lshr rfl rfl ?_
      refine x_l2i rfl rfl ?_
      refine x_topI (v := nI (uN (sh4 a))) (l2i_small (show uN (sh4 a) < 2147483648 by omega)) ?_
      refine x_laldv (a := uN (sh4 a)) (v := ((aW A)[uN (sh4 a)]?.getD 0)) (hR0.1.1.at (by omega)) rfl rfl rfl (by decide) (by omega) (by decide) ?_
      refine x_aload_n rfl rfl rfl ?_
      refine x_getR0 rfl rfl f_9_7 rfl (by decide) rfl rfl ?_
      refine x_lload_n rfl rfl rfl ?_
      refine x_iconstN (b := 4) rfl rfl ?_
      refine x_lshr rfl rfl ?_
      refine x_l2i rfl rfl ?_
      refine x_topI (v := nI (uN (sh4 b))) (l2i_small (show uN (sh4 b) < 2147483648 by omega)) ?_
      refine x_laldv (a := uN (sh4 b)) (v := ((aW A)[uN (sh4 b)]?.getD 0)) (hR0.1.1.at (by omega)) rfl rfl rfl (by decide) (by omega) (by decide) ?_
      refine x_lc_ne rfl rfl rfl rfl (fun hc11 => ?_) (fun hc11 => ?_)
      · refine x_iconstN (b := 0) rfl rfl ?_
        exact s_f (by unfold mV; rw [if_neg (fun z => z hc1), if_pos hc2, if_neg hc11]) hS0 rfl rfl rfl
      · refine x_iconstN (b := 1) rfl rfl ?_
        refine x_goto rfl rfl ?_
        exact s_t (by unfold mV; rw [if_neg (fun z => z hc1), if_pos hc2, if_pos hc11]) hS0 hQ0 rfl rfl rfl
  · refine x_iconstN (b := 0) rfl rfl ?_
    exact s_f (by unfold mV; rw [if_pos hc1]) hS0 rfl rfl rfl
set_option maxHeartbeats 4000000 in
set_option maxRecDepth 20000 in
theorem l_ap (hG : Gok G) (hd : 1 ≤ d) (hwf : wfA A) {i j : Nat} {x y : Th} (hx : (aH A)[i]? = some x) (hy : (aH A)[j]? = some y) (hlen : (tY x).length = (tY y).length) {M9 : Mm} : ∀ (n k : Nat), k + n = (tY x).length → ∀ (q0 : QS) (M : Mm), RM A M → (QX (40, 0) 41 (66, 0) (64, 0) (65, 0) (aH A).length) q0 M → EqF onQm M9 M → FS G mX9_areAlike d M9 onQm (QX (40, 0) 41 (66, 0) (64, 0) (65, 0) (aH A).length) (if (tY x).drop k = (tY y).drop k then mAll A ((tV x).drop k) ((tV y).drop k) q0 else none) 216 [(0, .ref (ga G (40, 0))), (1, .int (nI i)), (2, .int (nI j)), (3, .int (nI 1)), (4, .int (nI k))] [] M := by
  intro n
  induction n with
  | zero =>
    intro k hk q0 M hR0 hQ0 hS0
    have hn40 := hR0.n40
    have hx0 := hR0.1.2.2.1 i x hx
    have hy0 := hR0.1.2.2.1 j y hy
    have hil := at_lt hx
    have hjl := at_lt hy
    have hokx := hwf.2.2.1 _ (at_mem hx)
    have hoky := hwf.2.2.1 _ (at_mem hy)
    have hx8 := hx0.2.2.2.2.2.2.2.2.2.1
    have hy8 := hy0.2.2.2.2.2.2.2.2.2.1
    have hx6 := hx0.2.2.2.2.2.2.2.2.2.2.1
    have hy6 := hy0.2.2.2.2.2.2.2.2.2.2.1
    have hxv := hx0.2.2.2.2.2.2.2.2.2.2.2.1
    have hyv := hy0.2.2.2.2.2.2.2.2.2.2.2.1
    have hxk := hx0.2.2.2.2.2.2.2.2.2.2.2.2
    have hyk := hy0.2.2.2.2.2.2.2.2.2.2.2.2
    refine x_iload rfl rfl rfl ?_
    refine x_aload_n rfl rfl rfl ?_
    refine x_getR0 rfl rfl f_9_42 rfl (by decide) rfl rfl ?_
    refine x_iload_n rfl rfl rfl ?_
    refine x_ialdv (a := i) (v := nI ((tY x).length)) hx0.2.2.2.1 rfl rfl rfl (by decide) (by omega) (by decide) ?_
    refine x_icmpN_ge (by omega) (by omega) rfl rfl (fun hc1 => ?_) (fun hc1 => absurd hc1 (by omega))
    refine x_iload_n rfl rfl rfl ?_
    exact s_t (by rw [List.drop_eq_nil_of_le (show (tY x).length ≤ k by omega), List.drop_eq_nil_of_le (show (tY y).length ≤ k by omega), if_pos rfl, List.drop_eq_nil_of_le (show (tV x).length ≤ k by omega), mAllL_nil]) hS0 hQ0 rfl rfl rfl
  | succ n ih =>
    intro k hk q0 M hR0 hQ0 hS0
    have hn40 := hR0.n40
    have hx0 := hR0.1.2.2.1 i x hx
    have hy0 := hR0.1.2.2.1 j y hy
    have hil := at_lt hx
    have hjl := at_lt hy
    have hokx := hwf.2.2.1 _ (at_mem hx)
    have hoky := hwf.2.2.1 _ (at_mem hy)
    have hx8 := hx0.2.2.2.2.2.2.2.2.2.1
    have hy8 := hy0.2.2.2.2.2.2.2.2.2.1
    have hx6 := hx0.2.2.2.2.2.2.2.2.2.2.1
    have hy6 := hy0.2.2.2.2.2.2.2.2.2.2.1
    have hxv := hx0.2.2.2.2.2.2.2.2.2.2.2.1
    have hyv := hy0.2.2.2.2.2.2.2.2.2.2.2.1
    have hxk := hx0.2.2.2.2.2.2.2.2.2.2.2.2
    have hyk := hy0.2.2.2.2.2.2.2.2.2.2.2.2
    rw [drop_cons (show k < (tY x).length by omega), drop_cons (show k < (tY y).length by omega), drop_cons (show k < (tV x).length by omega), drop_cons (show k < (tV y).length by omega)]
    refine x_iload rfl rfl rfl ?_
    refine x_aload_n rfl rfl rfl ?_
    refine x_getR0 rfl rfl f_9_42 rfl (by decide) rfl rfl ?_
    refine x_iload_n rfl rfl rfl ?_
    refine x_ialdv (a := i) (v := nI ((tY x).length)) hx0.2.2.2.1 rfl rfl rfl (by decide) (by omega) (by decide) ?_
    refine x_icmpN_ge (by omega) (by omega) rfl rfl (fun hc1 => absurd hc1 (by omega)) (fun hc1 => ?_)
    refine x_iload_n rfl rfl rfl ?_
    refine x_if_eq rfl rfl (fun hc2 => absurd hc2 (by decide +kernel)) (fun _ => ?_)
    refine x_aload_n rfl rfl rfl ?_
    refine x_getR0 rfl rfl f_9_45 rfl (by decide) rfl rfl ?_
    refine x_bipush (v := nI 6) rfl rfl (by decide +kernel) ?_
    refine x_iload_n rfl rfl rfl ?_
    refine x_imulN (a := 6) (b := i) rfl rfl ?_
    refine x_iload rfl rfl rfl ?_
    refine x_iaddN (a := 6 * i) (b := k) rfl rfl ?_
    refine x_laldv (a := (6 * i) + k) (v := ((tY x)[k]?.getD 0)) (hx0.2.2.2.2.1.at (k := k) (by omega)) rfl rfl rfl (by decide) (by omega) (by decide) ?_
    refine x_aload_n rfl rfl rfl ?_
    refine x_getR0 rfl rfl f_9_45 rfl (by decide) rfl rfl ?_
    refine x_bipush (v := nI 6) rfl rfl (by decide +kernel) ?_
    refine x_iload_n rfl rfl rfl ?_
    refine x_imulN (a := 6) (b := j) rfl rfl ?_
    refine x_iload rfl rfl rfl ?_
    refine x_iaddN (a := 6 * j) (b := k) rfl rfl ?_
    refine x_laldv (a := (6 * j) + k) (v := ((tY y)[k]?.getD 0)) (hy0.2.2.2.2.1.at (k := k) (by omega)) rfl rfl rfl (by decide) (by omega) (by decide) ?_
    refine x_lc_ne rfl rfl rfl rfl (fun hc3 => ?_) (fun hc3 => ?_)
    · refine x_iconstN (b := 0) rfl rfl ?_
      refine x_istore_n rfl rfl rfl rfl ?_
      refine x_iincN (a := k) (b := 1) rfl rfl rfl rfl rfl ?_
      refine x_goto rfl rfl ?_
      refine x_iload rfl rfl rfl ?_
      refine x_aload_n rfl rfl rfl ?_
      refine x_getR0 rfl rfl f_9_42 rfl (by decide) rfl rfl ?_
      refine x_iload_n rfl rfl rfl ?_
      refine x_ialdv (a := i) (v := nI ((tY x).length)) hx0.2.2.2.1 rfl rfl rfl (by decide) (by omega) (by decide) ?_
      refine x_icmpN_ge (by omega) (by omega) rfl rfl (fun hc4 => ?_) (fun hc4 => ?_)
      · refine x_iload_n rfl rfl rfl ?_
        exact s_f (if_neg (fun z => hc3 (List.cons.inj z).1)) hS0 rfl rfl rfl
      · refine x_iload_n rfl rfl rfl ?_
        refine x_if_eq rfl rfl (fun _ => ?_) (fun hc5 => absurd hc5 (by decide +kernel))
        refine x_iload_n rfl rfl rfl ?_
        exact s_f (if_neg (fun z => hc3 (List.cons.inj z).1)) hS0 rfl rfl rfl
    · refine x_aload_n rfl rfl rfl ?_
      refine x_aload_n rfl rfl rfl ?_
      refine x_getR0 rfl rfl f_9_48 rfl (by decide) rfl rfl ?_
      refine x_bipush (v := nI 6) rfl rfl (by decide +kernel) ?_
      refine x_iload_n rfl rfl rfl ?_
      refine x_imulN (a := 6) (b := i) rfl rfl ?_
      refine x_iload rfl rfl rfl ?_
      refine x_iaddN (a := 6 * i) (b := k) rfl rfl ?_
      refine x_laldv (a := (6 * i) + k) (v := ((tV x)[k]?.getD 0)) (hx0.2.2.2.2.2.1.at (k := k) (by omega)) rfl rfl rfl (by decide) (by omega) (by decide) ?_
      refine x_aload_n rfl rfl rfl ?_
      refine x_getR0 rfl rfl f_9_48 rfl (by decide) rfl rfl ?_
      refine x_bipush (v := nI 6) rfl rfl (by decide +kernel) ?_
      refine x_iload_n rfl rfl rfl ?_
      refine x_imulN (a := 6) (b := j) rfl rfl ?_
      refine x_iload rfl rfl rfl ?_
      refine x_iaddN (a := 6 * j) (b := k) rfl rfl ?_
      refine x_laldv (a := (6 * j) + k) (v := ((tV y)[k]?.getD 0)) (hy0.2.2.2.2.2.1.at (k := k) (by omega)) rfl rfl rfl (by decide) (by omega) (by decide) ?_
      rw [hc3, cons_if]
      refine s_call (d2 := 0) (c_mareSame hG hR0 hQ0 (hokx.2.2.1 _ (getD_mem (by omega))) (hoky.2.2.1 _ (getD_mem (by omega)))) hS0 rfl rfl v_9_295 rfl rfl (by decide) rfl rfl (Nat.le_of_ble_eq_true rfl) (by omega) (fun q1 M1 e1 hQ1 hE1 hS1 => ?_) (fun M1 e1 hE1 hS1 => ?_)
      · refine x_if_eq rfl rfl (fun hc6 => absurd hc6 (by decide +kernel)) (fun _ => ?_)
        refine x_iconstN (b := 1) rfl rfl ?_
        refine x_goto rfl rfl ?_
        refine x_istore_n rfl rfl rfl rfl ?_
        refine x_iincN (a := k) (b := 1) rfl rfl rfl rfl rfl ?_
        refine x_goto rfl rfl ?_
        exact ih (k + 1) (by omega) q1 M1 (hR0.eqQ hE1) hQ1 hS1
      · refine x_if_eq rfl rfl (fun _ => ?_) (fun hc7 => absurd hc7 (by decide +kernel))
        refine x_iconstN (b := 0) rfl rfl ?_
        refine x_istore_n rfl rfl rfl rfl ?_
        refine x_iincN (a := k) (b := 1) rfl rfl rfl rfl rfl ?_
        refine x_goto rfl rfl ?_
        have hx1 := (hR0.eqQ hE1).1.2.2.1 i x hx
        refine x_iload rfl rfl rfl ?_
        refine x_aload_n rfl rfl rfl ?_
        refine x_getR0 rfl rfl f_9_42 rfl (by decide) rfl rfl ?_
        refine x_iload_n rfl rfl rfl ?_
        refine x_ialdv (a := i) (v := nI ((tY x).length)) hx1.2.2.2.1 rfl rfl rfl (by decide) (by omega) (by decide) ?_
        refine x_icmpN_ge (by omega) (by omega) rfl rfl (fun hc8 => ?_) (fun hc8 => ?_)
        · refine x_iload_n rfl rfl rfl ?_
          exact s_f rfl hS1 rfl rfl rfl
        · refine x_iload_n rfl rfl rfl ?_
          refine x_if_eq rfl rfl (fun _ => ?_) (fun hc9 => absurd hc9 (by decide +kernel))
          refine x_iload_n rfl rfl rfl ?_
          exact s_f rfl hS1 rfl rfl rfl
theorem k12 {A : Ab} {x : Th} (h : thOK A x) (hk : tK x = 12) {k : Nat} (hl : k < (tL x).length) : ∃ b, b < 256 ∧ (tL x)[k]?.getD 0 = 16 * lN b + 4 := h.2.2.2.2.2.1 hk _ (getD_mem hl)
set_option maxHeartbeats 4000000 in
set_option maxRecDepth 20000 in
theorem l_aiV (hG : Gok G) (hd : 1 ≤ d) (hwf : wfA A) {i j : Nat} {x y : Th} (hx : (aH A)[i]? = some x) (hy : (aH A)[j]? = some y) (hk12 : ¬ tK x = 12) (hky : ¬ tK y = 12) (hlen : (tL x).length = (tL y).length) (hlY : (tY x).length = (tY y).length) {M9 : Mm} : ∀ (n k : Nat), k + n = (tL x).length → ∀ (q0 : QS) (M : Mm), RM A M → (QX (40, 0) 41 (66, 0) (64, 0) (65, 0) (aH A).length) q0 M → EqF onQm M9 M → FS G mX9_areAlike d M9 onQm (QX (40, 0) 41 (66, 0) (64, 0) (65, 0) (aH A).length) ((mAll A ((tL x).drop k) ((tL y).drop k) q0).bind fun q1 => if tY x = tY y then mAll A (tV x) (tV y) q1 else none) 108 [(0, .ref (ga G (40, 0))), (1, .int (nI i)), (2, .int (nI j)), (3, .int (nI 1)), (4, .int (nI k))] [] M := by
  intro n
  induction n with
  | zero =>
    intro k hk q0 M hR0 hQ0 hS0
    have hn40 := hR0.n40
    have hx0 := hR0.1.2.2.1 i x hx
    have hy0 := hR0.1.2.2.1 j y hy
    have hil := at_lt hx
    have hjl := at_lt hy
    have hokx := hwf.2.2.1 _ (at_mem hx)
    have hoky := hwf.2.2.1 _ (at_mem hy)
    have hx8 := hx0.2.2.2.2.2.2.2.2.2.1
    have hy8 := hy0.2.2.2.2.2.2.2.2.2.1
    have hx6 := hx0.2.2.2.2.2.2.2.2.2.2.1
    have hy6 := hy0.2.2.2.2.2.2.2.2.2.2.1
    have hxv := hx0.2.2.2.2.2.2.2.2.2.2.2.1
    have hyv := hy0.2.2.2.2.2.2.2.2.2.2.2.1
    have hxk := hx0.2.2.2.2.2.2.2.2.2.2.2.2
    have hyk := hy0.2.2.2.2.2.2.2.2.2.2.2.2
    refine x_iload rfl rfl rfl ?_
    refine x_aload_n rfl rfl rfl ?_
    refine x_getR0 rfl rfl f_9_33 rfl (by decide) rfl rfl ?_
    refine x_iload_n rfl rfl rfl ?_
    refine x_ialdv (a := i) (v := nI ((tL x).length)) hx0.2.1 rfl rfl rfl (by decide) (by omega) (by decide) ?_
    refine x_icmpN_ge (by omega) (by omega) rfl rfl (fun hc1 => ?_) (fun hc1 => absurd hc1 (by omega))
    refine x_iconstN (b := 0) rfl rfl ?_
    refine x_istore rfl rfl rfl rfl ?_
    rw [List.drop_eq_nil_of_le (show (tL x).length ≤ k by omega), mAllL_nil]
    exact l_ap hG hd hwf hx hy hlY _ 0 (Nat.zero_add _) q0 M hR0 hQ0 hS0
  | succ n ih =>
    intro k hk q0 M hR0 hQ0 hS0
    have hn40 := hR0.n40
    have hx0 := hR0.1.2.2.1 i x hx
    have hy0 := hR0.1.2.2.1 j y hy
    have hil := at_lt hx
    have hjl := at_lt hy
    have hokx := hwf.2.2.1 _ (at_mem hx)
    have hoky := hwf.2.2.1 _ (at_mem hy)
    have hx8 := hx0.2.2.2.2.2.2.2.2.2.1
    have hy8 := hy0.2.2.2.2.2.2.2.2.2.1
    have hx6 := hx0.2.2.2.2.2.2.2.2.2.2.1
    have hy6 := hy0.2.2.2.2.2.2.2.2.2.2.1
    have hxv := hx0.2.2.2.2.2.2.2.2.2.2.2.1
    have hyv := hy0.2.2.2.2.2.2.2.2.2.2.2.1
    have hxk := hx0.2.2.2.2.2.2.2.2.2.2.2.2
    have hyk := hy0.2.2.2.2.2.2.2.2.2.2.2.2
    rw [drop_cons (show k < (tL x).length by omega), drop_cons (show k < (tL y).length by omega), show mAll A ((tL x)[k]?.getD 0 :: (tL x).drop (k + 1)) ((tL y)[k]?.getD 0 :: (tL y).drop (k + 1)) q0 = (mV A ((tL x)[k]?.getD 0) ((tL y)[k]?.getD 0) q0).bind (mAll A ((tL x).drop (k + 1)) ((tL y).drop (k + 1))) from rfl, Option.bind_assoc]
    refine x_iload rfl rfl rfl ?_
    refine x_aload_n rfl rfl rfl ?_
    refine x_getR0 rfl rfl f_9_33 rfl (by decide) rfl rfl ?_
    refine x_iload_n rfl rfl rfl ?_
    refine x_ialdv (a := i) (v := nI ((tL x).length)) hx0.2.1 rfl rfl rfl (by decide) (by omega) (by decide) ?_
    refine x_icmpN_ge (by omega) (by omega) rfl rfl (fun hc1 => absurd hc1 (by omega)) (fun hc1 => ?_)
    refine x_iload_n rfl rfl rfl ?_
    refine x_if_eq rfl rfl (fun hc2 => absurd hc2 (by decide +kernel)) (fun _ => ?_)
    refine x_aload_n rfl rfl rfl ?_
    refine x_getR0 rfl rfl f_9_27 rfl (by decide) rfl rfl ?_
    refine x_iload_n rfl rfl rfl ?_
    refine x_ialdv (a := i) (v := nI (tK x)) hx0.1 rfl rfl rfl (by decide) (by omega) (by decide) ?_
    refine x_bipush (v := nI 12) rfl rfl (by decide +kernel) ?_
    refine x_icmpN_ne (by omega) (by omega) rfl rfl (fun hc3 => ?_) (fun hc3 => absurd hc3 (by omega))
    refine x_aload_n rfl rfl rfl ?_
    refine x_aload_n rfl rfl rfl ?_
    refine x_getR0 rfl rfl f_9_39 rfl (by decide) rfl rfl ?_
    refine x_bipush (v := nI 8) rfl rfl (by decide +kernel) ?_
    refine x_iload_n rfl rfl rfl ?_
    refine x_imulN (a := 8) (b := i) rfl rfl ?_
    refine x_iload rfl rfl rfl ?_
    refine x_iaddN (a := 8 * i) (b := k) rfl rfl ?_
    refine x_laldv (a := (8 * i) + k) (v := ((tL x)[k]?.getD 0)) ((hx0.2.2.2.2.2.2.1 (by omega)).at (k := k) (by omega)) rfl rfl rfl (by decide) (by omega) (by decide) ?_
    refine x_aload_n rfl rfl rfl ?_
    refine x_getR0 rfl rfl f_9_39 rfl (by decide) rfl rfl ?_
    refine x_bipush (v := nI 8) rfl rfl (by decide +kernel) ?_
    refine x_iload_n rfl rfl rfl ?_
    refine x_imulN (a := 8) (b := j) rfl rfl ?_
    refine x_iload rfl rfl rfl ?_
    refine x_iaddN (a := 8 * j) (b := k) rfl rfl ?_
    refine x_laldv (a := (8 * j) + k) (v := ((tL y)[k]?.getD 0)) ((hy0.2.2.2.2.2.2.1 (by omega)).at (k := k) (by omega)) rfl rfl rfl (by decide) (by omega) (by decide) ?_
    refine s_call (d2 := 0) (c_mareSame hG hR0 hQ0 (hokx.2.1 _ (getD_mem (by omega))) (hoky.2.1 _ (getD_mem (by omega)))) hS0 rfl rfl v_9_295 rfl rfl (by decide) rfl rfl (Nat.le_of_ble_eq_true rfl) (by omega) (fun q1 M1 e1 hQ1 hE1 hS1 => ?_) (fun M1 e1 hE1 hS1 => ?_)
    · refine x_istore_n rfl rfl rfl rfl ?_
      refine x_iincN (a := k) (b := 1) rfl rfl rfl rfl rfl ?_
      refine x_goto rfl rfl ?_
      exact ih (k + 1) (by omega) q1 M1 (hR0.eqQ hE1) hQ1 hS1
    · refine x_istore_n rfl rfl rfl rfl ?_
      refine x_iincN (a := k) (b := 1) rfl rfl rfl rfl rfl ?_
      refine x_goto rfl rfl ?_
      have hx1 := (hR0.eqQ hE1).1.2.2.1 i x hx
      refine x_iload rfl rfl rfl ?_
      refine x_aload_n rfl rfl rfl ?_
      refine x_getR0 rfl rfl f_9_33 rfl (by decide) rfl rfl ?_
      refine x_iload_n rfl rfl rfl ?_
      refine x_ialdv (a := i) (v := nI ((tL x).length)) hx1.2.1 rfl rfl rfl (by decide) (by omega) (by decide) ?_
      refine x_icmpN_ge (by omega) (by omega) rfl rfl (fun hc4 => ?_) (fun hc4 => ?_)
      · refine x_iconstN (b := 0) rfl rfl ?_
        refine x_istore rfl rfl rfl rfl ?_
        refine x_iload rfl rfl rfl ?_
        refine x_aload_n rfl rfl rfl ?_
        refine x_getR0 rfl rfl f_9_42 rfl (by decide) rfl rfl ?_
        refine x_iload_n rfl rfl rfl ?_
        refine x_ialdv (a := i) (v := nI ((tY x).length)) hx1.2.2.2.1 rfl rfl rfl (by decide) (by omega) (by decide) ?_
        refine x_icmpN_ge (by omega) (by omega) rfl rfl (fun hc5 => ?_) (fun hc5 => ?_)
        · refine x_iload_n rfl rfl rfl ?_
          exact s_f rfl hS1 rfl rfl rfl
        · refine x_iload_n rfl rfl rfl ?_
          refine x_if_eq rfl rfl (fun _ => ?_) (fun hc6 => absurd hc6 (by decide +kernel))
          refine x_iload_n rfl rfl rfl ?_
          exact s_f rfl hS1 rfl rfl rfl
      · refine x_iload_n rfl rfl rfl ?_
        refine x_if_eq rfl rfl (fun _ => ?_) (fun hc7 => absurd hc7 (by decide +kernel))
        refine x_iconstN (b := 0) rfl rfl ?_
        refine x_istore rfl rfl rfl rfl ?_
        refine x_iload rfl rfl rfl ?_
        refine x_aload_n rfl rfl rfl ?_
        refine x_getR0 rfl rfl f_9_42 rfl (by decide) rfl rfl ?_
        refine x_iload_n rfl rfl rfl ?_
        refine x_ialdv (a := i) (v := nI ((tY x).length)) hx1.2.2.2.1 rfl rfl rfl (by decide) (by omega) (by decide) ?_
        refine x_icmpN_ge (by omega) (by omega) rfl rfl (fun hc8 => ?_) (fun hc8 => ?_)
        · refine x_iload_n rfl rfl rfl ?_
          exact s_f rfl hS1 rfl rfl rfl
        · refine x_iload_n rfl rfl rfl ?_
          refine x_if_eq rfl rfl (fun _ => ?_) (fun hc9 => absurd hc9 (by decide +kernel))
          refine x_iload_n rfl rfl rfl ?_
          exact s_f rfl hS1 rfl rfl rfl
set_option maxHeartbeats 4000000 in
set_option maxRecDepth 20000 in
theorem l_aiB (hG : Gok G) (hd : 1 ≤ d) (hwf : wfA A) {i j : Nat} {x y : Th} (hx : (aH A)[i]? = some x) (hy : (aH A)[j]? = some y) (hk12 : tK x = 12) (hky : tK y = 12) (hlen : (tL x).length = (tL y).length) (hlY : (tY x).length = (tY y).length) {M9 : Mm} : ∀ (n k : Nat), k + n = (tL x).length → ∀ (q0 : QS) (M : Mm), RM A M → (QX (40, 0) 41 (66, 0) (64, 0) (65, 0) (aH A).length) q0 M → EqF onQm M9 M → FS G mX9_areAlike d M9 onQm (QX (40, 0) 41 (66, 0) (64, 0) (65, 0) (aH A).length) ((mAll A ((tL x).drop k) ((tL y).drop k) q0).bind fun q1 => if tY x = tY y then mAll A (tV x) (tV y) q1 else none) 108 [(0, .ref (ga G (40, 0))), (1, .int (nI i)), (2, .int (nI j)), (3, .int (nI 1)), (4, .int (nI k))] [] M := by
  intro n
  induction n with
  | zero =>
    intro k hk q0 M hR0 hQ0 hS0
    have hn40 := hR0.n40
    have hx0 := hR0.1.2.2.1 i x hx
    have hy0 := hR0.1.2.2.1 j y hy
    have hil := at_lt hx
    have hjl := at_lt hy
    have hokx := hwf.2.2.1 _ (at_mem hx)
    have hoky := hwf.2.2.1 _ (at_mem hy)
    have hx8 := hx0.2.2.2.2.2.2.2.2.2.1
    have hy8 := hy0.2.2.2.2.2.2.2.2.2.1
    have hx6 := hx0.2.2.2.2.2.2.2.2.2.2.1
    have hy6 := hy0.2.2.2.2.2.2.2.2.2.2.1
    have hxv := hx0.2.2.2.2.2.2.2.2.2.2.2.1
    have hyv := hy0.2.2.2.2.2.2.2.2.2.2.2.1
    have hxk := hx0.2.2.2.2.2.2.2.2.2.2.2.2
    have hyk := hy0.2.2.2.2.2.2.2.2.2.2.2.2
    refine x_iload rfl rfl rfl ?_
    refine x_aload_n rfl rfl rfl ?_
    refine x_getR0 rfl rfl f_9_33 rfl (by decide) rfl rfl ?_
    refine x_iload_n rfl rfl rfl ?_
    refine x_ialdv (a := i) (v := nI ((tL x).length)) hx0.2.1 rfl rfl rfl (by decide) (by omega) (by decide) ?_
    refine x_icmpN_ge (by omega) (by omega) rfl rfl (fun hc1 => ?_) (fun hc1 => absurd hc1 (by omega))
    refine x_iconstN (b := 0) rfl rfl ?_
    refine x_istore rfl rfl rfl rfl ?_
    rw [List.drop_eq_nil_of_le (show (tL x).length ≤ k by omega), mAllL_nil]
    exact l_ap hG hd hwf hx hy hlY _ 0 (Nat.zero_add _) q0 M hR0 hQ0 hS0
  | succ n ih =>
    intro k hk q0 M hR0 hQ0 hS0
    have hn40 := hR0.n40
    have hx0 := hR0.1.2.2.1 i x hx
    have hy0 := hR0.1.2.2.1 j y hy
    have hil := at_lt hx
    have hjl := at_lt hy
    have hokx := hwf.2.2.1 _ (at_mem hx)
    have hoky := hwf.2.2.1 _ (at_mem hy)
    have hx8 := hx0.2.2.2.2.2.2.2.2.2.1
    have hy8 := hy0.2.2.2.2.2.2.2.2.2.1
    have hx6 := hx0.2.2.2.2.2.2.2.2.2.2.1
    have hy6 := hy0.2.2.2.2.2.2.2.2.2.2.1
    have hxv := hx0.2.2.2.2.2.2.2.2.2.2.2.1
    have hyv := hy0.2.2.2.2.2.2.2.2.2.2.2.1
    have hxk := hx0.2.2.2.2.2.2.2.2.2.2.2.2
    have hyk := hy0.2.2.2.2.2.2.2.2.2.2.2.2
    rw [drop_cons (show k < (tL x).length by omega), drop_cons (show k < (tL y).length by omega), show mAll A ((tL x)[k]?.getD 0 :: (tL x).drop (k + 1)) ((tL y)[k]?.getD 0 :: (tL y).drop (k + 1)) q0 = (mV A ((tL x)[k]?.getD 0) ((tL y)[k]?.getD 0) q0).bind (mAll A ((tL x).drop (k + 1)) ((tL y).drop (k + 1))) from rfl, Option.bind_assoc]
    obtain ⟨b, hb, eb⟩ := k12 hokx hk12 (k := k) (by omega)
    obtain ⟨c, hc, ec⟩ := k12 hoky hky (k := k) (by omega)
    have ux := hx0.2.2.2.2.2.2.2.2.1 hk12 k _ (show (tL x)[k]? = some ((tL x)[k]?.getD 0) by rw [List.getElem?_eq_getElem (show k < (tL x).length by omega)]; rfl)
    have uy := hy0.2.2.2.2.2.2.2.2.1 hky k _ (show (tL y)[k]? = some ((tL y)[k]?.getD 0) by rw [List.getElem?_eq_getElem (show k < (tL y).length by omega)]; rfl)
    rw [mV_by hb hc eb ec]
    refine x_iload rfl rfl rfl ?_
    refine x_aload_n rfl rfl rfl ?_
    refine x_getR0 rfl rfl f_9_33 rfl (by decide) rfl rfl ?_
    refine x_iload_n rfl rfl rfl ?_
    refine x_ialdv (a := i) (v := nI ((tL x).length)) hx0.2.1 rfl rfl rfl (by decide) (by omega) (by decide) ?_
    refine x_icmpN_ge (by omega) (by omega) rfl rfl (fun hc1 => absurd hc1 (by omega)) (fun hc1 => ?_)
    refine x_iload_n rfl rfl rfl ?_
    refine x_if_eq rfl rfl (fun hc2 => absurd hc2 (by decide +kernel)) (fun _ => ?_)
    refine x_aload_n rfl rfl rfl ?_
    refine x_getR0 rfl rfl f_9_27 rfl (by decide) rfl rfl ?_
    refine x_iload_n rfl rfl rfl ?_
    refine x_ialdv (a := i) (v := nI (tK x)) hx0.1 rfl rfl rfl (by decide) (by omega) (by decide) ?_
    refine x_bipush (v := nI 12) rfl rfl (by decide +kernel) ?_
    refine x_icmpN_ne (by omega) (by omega) rfl rfl (fun hc3 => absurd hc3 (by omega)) (fun hc3 => ?_)
    refine x_aload_n rfl rfl rfl ?_
    refine x_getR0 rfl rfl f_9_30 rfl (by decide) rfl rfl ?_
    refine x_iload_n rfl rfl rfl ?_
    refine x_lald (a := i) rfl rfl rfl (by decide) (by omega) (by decide) ?_
    refine x_bipush (v := nI 8) rfl rfl (by decide +kernel) ?_
    refine x_iload rfl rfl rfl ?_
    refine x_imulN (a := 8) (b := k) rfl rfl ?_
    refine x_lushr rfl rfl ?_
    refine x_ldc2 (v := 255) rfl rfl k_9_104 ?_
    refine x_land rfl rfl ?_
    refine x_aload_n rfl rfl rfl ?_
    refine x_getR0 rfl rfl f_9_30 rfl (by decide) rfl rfl ?_
    refine x_iload_n rfl rfl rfl ?_
    refine x_lald (a := j) rfl rfl rfl (by decide) (by omega) (by decide) ?_
    refine x_bipush (v := nI 8) rfl rfl (by decide +kernel) ?_
    refine x_iload rfl rfl rfl ?_
    refine x_imulN (a := 8) (b := k) rfl rfl ?_
    refine x_lushr rfl rfl ?_
    refine x_ldc2 (v := 255) rfl rfl k_9_104 ?_
    refine x_land rfl rfl ?_
    refine x_lc_ne rfl rfl rfl rfl (fun hc4 => ?_) (fun hc4 => ?_)
    · refine x_iconstN (b := 0) rfl rfl ?_
      refine x_goto rfl rfl ?_
      refine x_istore_n rfl rfl rfl rfl ?_
      refine x_iincN (a := k) (b := 1) rfl rfl rfl rfl rfl ?_
      refine x_goto rfl rfl ?_
      refine x_iload rfl rfl rfl ?_
      refine x_aload_n rfl rfl rfl ?_
      refine x_getR0 rfl rfl f_9_33 rfl (by decide) rfl rfl ?_
      refine x_iload_n rfl rfl rfl ?_
      refine x_ialdv (a := i) (v := nI ((tL x).length)) hx0.2.1 rfl rfl rfl (by decide) (by omega) (by decide) ?_
      refine x_icmpN_ge (by omega) (by omega) rfl rfl (fun hc5 => ?_) (fun hc5 => ?_)
      · refine x_iconstN (b := 0) rfl rfl ?_
        refine x_istore rfl rfl rfl rfl ?_
        refine x_iload rfl rfl rfl ?_
        refine x_aload_n rfl rfl rfl ?_
        refine x_getR0 rfl rfl f_9_42 rfl (by decide) rfl rfl ?_
        refine x_iload_n rfl rfl rfl ?_
        refine x_ialdv (a := i) (v := nI ((tY x).length)) hx0.2.2.2.1 rfl rfl rfl (by decide) (by omega) (by decide) ?_
        refine x_icmpN_ge (by omega) (by omega) rfl rfl (fun hc6 => ?_) (fun hc6 => ?_)
        · refine x_iload_n rfl rfl rfl ?_
          exact s_f (by rw [if_neg (fun z => hc4 (uN_inj (by rw [uN_bk (by omega), uN_bk (by omega), ux, uy]; exact z)))]; rfl) hS0 rfl rfl rfl
        · refine x_iload_n rfl rfl rfl ?_
          refine x_if_eq rfl rfl (fun _ => ?_) (fun hc7 => absurd hc7 (by decide +kernel))
          refine x_iload_n rfl rfl rfl ?_
          exact s_f (by rw [if_neg (fun z => hc4 (uN_inj (by rw [uN_bk (by omega), uN_bk (by omega), ux, uy]; exact z)))]; rfl) hS0 rfl rfl rfl
      · refine x_iload_n rfl rfl rfl ?_
        refine x_if_eq rfl rfl (fun _ => ?_) (fun hc8 => absurd hc8 (by decide +kernel))
        refine x_iconstN (b := 0) rfl rfl ?_
        refine x_istore rfl rfl rfl rfl ?_
        refine x_iload rfl rfl rfl ?_
        refine x_aload_n rfl rfl rfl ?_
        refine x_getR0 rfl rfl f_9_42 rfl (by decide) rfl rfl ?_
        refine x_iload_n rfl rfl rfl ?_
        refine x_ialdv (a := i) (v := nI ((tY x).length)) hx0.2.2.2.1 rfl rfl rfl (by decide) (by omega) (by decide) ?_
        refine x_icmpN_ge (by omega) (by omega) rfl rfl (fun hc9 => ?_) (fun hc9 => ?_)
        · refine x_iload_n rfl rfl rfl ?_
          exact s_f (by rw [if_neg (fun z => hc4 (uN_inj (by rw [uN_bk (by omega), uN_bk (by omega), ux, uy]; exact z)))]; rfl) hS0 rfl rfl rfl
        · refine x_iload_n rfl rfl rfl ?_
          refine x_if_eq rfl rfl (fun _ => ?_) (fun hc10 => absurd hc10 (by decide +kernel))
          refine x_iload_n rfl rfl rfl ?_
          exact s_f (by rw [if_neg (fun z => hc4 (uN_inj (by rw [uN_bk (by omega), uN_bk (by omega), ux, uy]; exact z)))]; rfl) hS0 rfl rfl rfl
    · refine x_iconstN (b := 1) rfl rfl ?_
      refine x_goto rfl rfl ?_
      refine x_istore_n rfl rfl rfl rfl ?_
      refine x_iincN (a := k) (b := 1) rfl rfl rfl rfl rfl ?_
      refine x_goto rfl rfl ?_
      rw [if_pos (by rw [← ux, ← uy, ← uN_bk (by omega), ← uN_bk (by omega), hc4])]
      exact ih (k + 1) (by omega) q0 M hR0 hQ0 hS0
theorem mT2_8 {x y : Th} {q : QS} (h1 : tK x = tK y) (h2 : tD x = tD y) (h3 : trv x = trv y) (hx : thOK A x) (hy : thOK A y) (kx : tK x = 8) (ky : tK y = 8) (vx : (tV x).length = (tY x).length) (vy : (tV y).length = (tY y).length) : mT2 A x y q = some q := by
  have ax := hx.2.2.2.2.2.2.2.1 (Or.inl kx)
  have ay := hy.2.2.2.2.2.2.2.1 (Or.inl ky)
  have bx := hx.2.2.2.2.2.2.2.2.1 kx
  have by_ := hy.2.2.2.2.2.2.2.2.1 ky
  have cx : tV x = [] := List.length_eq_zero_iff.mp (by rw [vx, ax]; rfl)
  have cy : tV y = [] := List.length_eq_zero_iff.mp (by rw [vy, ay]; rfl)
  unfold mT2
  rw [if_pos ⟨h1, h2, h3, by rw [ax, ay]⟩, bx, by_, cx, cy]
  rfl
set_option maxHeartbeats 4000000 in
set_option maxRecDepth 20000 in
theorem c_mareAlike (hG : Gok G) (hR0 : RM A M) {q0 : QS} (hQ0 : (QX (40, 0) 41 (66, 0) (64, 0) (65, 0) (aH A).length) q0 M) (hd : 1 ≤ d) (hwf : wfA A) {i j : Nat} {x y : Th} (hx : (aH A)[i]? = some x) (hy : (aH A)[j]? = some y) : CS G mX9_areAlike d [.ref (ga G (40, 0)), .int (nI i), .int (nI j)] M onQm (QX (40, 0) 41 (66, 0) (64, 0) (65, 0) (aH A).length) (mT2 A x y q0) := by
  have hS0 : EqF onQm M M := EqF.rf
  have hn40 := hR0.n40
  have hql := hQ0.len
  have hx0 := hR0.1.2.2.1 i x hx
  have hy0 := hR0.1.2.2.1 j y hy
  have hil := at_lt hx
  have hjl := at_lt hy
  have hokx := hwf.2.2.1 _ (at_mem hx)
  have hoky := hwf.2.2.1 _ (at_mem hy)
  have hx8 := hx0.2.2.2.2.2.2.2.2.2.1
  have hy8 := hy0.2.2.2.2.2.2.2.2.2.1
  have hx6 := hx0.2.2.2.2.2.2.2.2.2.2.1
  have hy6 := hy0.2.2.2.2.2.2.2.2.2.2.1
  have hxv := hx0.2.2.2.2.2.2.2.2.2.2.2.1
  have hyv := hy0.2.2.2.2.2.2.2.2.2.2.2.1
  have hxk := hx0.2.2.2.2.2.2.2.2.2.2.2.2
  have hyk := hy0.2.2.2.2.2.2.2.2.2.2.2.2
  refine s_of hG okX9_areAlike (by decide +kernel) rfl (Nat.le_of_ble_eq_true rfl) ?_
  refine x_aload_n rfl rfl rfl ?_
  refine x_getR0 rfl rfl f_9_27 rfl (by decide) rfl rfl ?_
  refine x_iload_n rfl rfl rfl ?_
  refine x_ialdv (a := i) (v := nI (tK x)) hx0.1 rfl rfl rfl (by decide) (by omega) (by decide) ?_
  refine x_aload_n rfl rfl rfl ?_
  refine x_getR0 rfl rfl f_9_27 rfl (by decide) rfl rfl ?_
  refine x_iload_n rfl rfl rfl ?_
  refine x_ialdv (a := j) (v := nI (tK y)) hy0.1 rfl rfl rfl (by decide) (by omega) (by decide) ?_
  refine x_icmpN_ne (by omega) (by omega) rfl rfl (fun hc1 => ?_) (fun hc1 => ?_)
  · refine x_iconstN (b := 0) rfl rfl ?_
    refine x_istore_n rfl rfl rfl rfl ?_
    refine x_iload_n rfl rfl rfl ?_
    refine x_if_ne rfl rfl (fun hc2 => absurd hc2 (by decide +kernel)) (fun _ => ?_)
    refine x_iconstN (b := 0) rfl rfl ?_
    exact s_f (if_neg (fun z => hc1 z.1)) hS0 rfl rfl rfl
  · refine x_aload_n rfl rfl rfl ?_
    refine x_getR0 rfl rfl f_9_33 rfl (by decide) rfl rfl ?_
    refine x_iload_n rfl rfl rfl ?_
    refine x_ialdv (a := i) (v := nI ((tL x).length)) hx0.2.1 rfl rfl rfl (by decide) (by omega) (by decide) ?_
    refine x_aload_n rfl rfl rfl ?_
    refine x_getR0 rfl rfl f_9_33 rfl (by decide) rfl rfl ?_
    refine x_iload_n rfl rfl rfl ?_
    refine x_ialdv (a := j) (v := nI ((tL y).length)) hy0.2.1 rfl rfl rfl (by decide) (by omega) (by decide) ?_
    refine x_icmpN_ne (by omega) (by omega) rfl rfl (fun hc3 => ?_) (fun hc3 => ?_)
    · refine x_iconstN (b := 0) rfl rfl ?_
      refine x_istore_n rfl rfl rfl rfl ?_
      refine x_iload_n rfl rfl rfl ?_
      refine x_if_ne rfl rfl (fun hc4 => absurd hc4 (by decide +kernel)) (fun _ => ?_)
      refine x_iconstN (b := 0) rfl rfl ?_
      exact s_f (mT2_len hc3) hS0 rfl rfl rfl
    · refine x_aload_n rfl rfl rfl ?_
      refine x_getR0 rfl rfl f_9_42 rfl (by decide) rfl rfl ?_
      refine x_iload_n rfl rfl rfl ?_
      refine x_ialdv (a := i) (v := nI ((tY x).length)) hx0.2.2.2.1 rfl rfl rfl (by decide) (by omega) (by decide) ?_
      refine x_aload_n rfl rfl rfl ?_
      refine x_getR0 rfl rfl f_9_42 rfl (by decide) rfl rfl ?_
      refine x_iload_n rfl rfl rfl ?_
      refine x_ialdv (a := j) (v := nI ((tY y).length)) hy0.2.2.2.1 rfl rfl rfl (by decide) (by omega) (by decide) ?_
      refine x_icmpN_ne (by omega) (by omega) rfl rfl (fun hc5 => ?_) (fun hc5 => ?_)
      · refine x_iconstN (b := 0) rfl rfl ?_
        refine x_istore_n rfl rfl rfl rfl ?_
        refine x_iload_n rfl rfl rfl ?_
        refine x_if_ne rfl rfl (fun hc6 => absurd hc6 (by decide +kernel)) (fun _ => ?_)
        refine x_iconstN (b := 0) rfl rfl ?_
        exact s_f (if_neg (fun z => hc5 (by rw [z.2.2.2]))) hS0 rfl rfl rfl
      · refine x_aload_n rfl rfl rfl ?_
        refine x_getR0 rfl rfl f_9_36 rfl (by decide) rfl rfl ?_
        refine x_iload_n rfl rfl rfl ?_
        refine x_ialdv (a := i) (v := trv x) hx0.2.2.1 rfl rfl rfl (by decide) (by omega) (by decide) ?_
        refine x_aload_n rfl rfl rfl ?_
        refine x_getR0 rfl rfl f_9_36 rfl (by decide) rfl rfl ?_
        refine x_iload_n rfl rfl rfl ?_
        refine x_ialdv (a := j) (v := trv y) hy0.2.2.1 rfl rfl rfl (by decide) (by omega) (by decide) ?_
        refine x_icmp_ne rfl rfl (fun hc7 => ?_) (fun hc7 => ?_)
        · refine x_iconstN (b := 0) rfl rfl ?_
          refine x_istore_n rfl rfl rfl rfl ?_
          refine x_iload_n rfl rfl rfl ?_
          refine x_if_ne rfl rfl (fun hc8 => absurd hc8 (by decide +kernel)) (fun _ => ?_)
          refine x_iconstN (b := 0) rfl rfl ?_
          exact s_f (if_neg (fun z => hc7 z.2.2.1)) hS0 rfl rfl rfl
        · refine x_iconstN (b := 1) rfl rfl ?_
          refine x_goto rfl rfl ?_
          refine x_istore_n rfl rfl rfl rfl ?_
          refine x_iload_n rfl rfl rfl ?_
          refine x_if_ne rfl rfl (fun _ => ?_) (fun hc9 => absurd hc9 (by decide +kernel))
          refine x_aload_n rfl rfl rfl ?_
          refine x_getR0 rfl rfl f_9_27 rfl (by decide) rfl rfl ?_
          refine x_iload_n rfl rfl rfl ?_
          refine x_ialdv (a := i) (v := nI (tK x)) hx0.1 rfl rfl rfl (by decide) (by omega) (by decide) ?_
          refine x_bipush (v := nI 8) rfl rfl (by decide +kernel) ?_
          refine x_icmpN_ne (by omega) (by omega) rfl rfl (fun hc10 => ?_) (fun hc10 => ?_)
          · refine x_iconstN (b := 0) rfl rfl ?_
            refine x_istore rfl rfl rfl rfl ?_
            rw [mT2_eq hc1 ((hokx.2.2.2.2.2.2.1 hc10).trans (hoky.2.2.2.2.2.2.1 (fun z => hc10 (hc1.trans z))).symm) hc7 hc3 (by omega)]
            by_cases h12 : tK x = 12
            · exact l_aiB hG hd hwf hx hy h12 (hc1.symm.trans h12) hc3 hc5 _ 0 (Nat.zero_add _) q0 M hR0 hQ0 hS0
            · exact l_aiV hG hd hwf hx hy h12 (fun z => h12 (hc1.trans z)) hc3 hc5 _ 0 (Nat.zero_add _) q0 M hR0 hQ0 hS0
          · have k8x := hc10
            have k8y := hc1.symm.trans k8x
            refine x_aload_n rfl rfl rfl ?_
            refine x_getR0 rfl rfl f_9_30 rfl (by decide) rfl rfl ?_
            refine x_iload_n rfl rfl rfl ?_
            refine x_laldv (a := i) (v := tD x) (hx0.2.2.2.2.2.2.2.1 k8x) rfl rfl rfl (by decide) (by omega) (by decide) ?_
            refine x_aload_n rfl rfl rfl ?_
            refine x_getR0 rfl rfl f_9_30 rfl (by decide) rfl rfl ?_
            refine x_iload_n rfl rfl rfl ?_
            refine x_laldv (a := j) (v := tD y) (hy0.2.2.2.2.2.2.2.1 k8y) rfl rfl rfl (by decide) (by omega) (by decide) ?_
            refine x_lc_ne rfl rfl rfl rfl (fun hc11 => ?_) (fun hc11 => ?_)
            · refine x_iconstN (b := 0) rfl rfl ?_
              exact s_f (if_neg (fun z => hc11 z.2.1)) hS0 rfl rfl rfl
            · refine x_iconstN (b := 1) rfl rfl ?_
              refine x_goto rfl rfl ?_
              exact s_t (mT2_8 hc1 hc11 hc7 hokx hoky k8x k8y hxv hyv) hS0 hQ0 rfl rfl rfl
end S3
