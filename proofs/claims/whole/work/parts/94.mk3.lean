theorem elk_swap {a b : Ky × (Nat → Value)} {E : Ex} (h : a.1 ≠ b.1) (k : Ky) : elk (a :: b :: E) k = elk (b :: a :: E) k := by
  by_cases h1 : k = a.1
  · have h2 : k ≠ b.1 := fun z => h (h1.symm.trans z)
    simp only [elk, if_pos h1, if_neg h2]
  · by_cases h2 : k = b.1
    · simp only [elk, if_neg h1, if_pos h2]
    · simp only [elk, if_neg h1, if_neg h2]
theorem elk_tl3 {E : Ex} {f g h : Nat → Value} (k : Ky) : elk (((1, 0), f) :: ((4, 0), g) :: ((3, 0), h) :: E) k = elk (((3, 0), h) :: ((4, 0), g) :: ((1, 0), f) :: E) k := by
  by_cases h3 : k = (3, 0)
  · subst h3; simp [elk]
  · by_cases h4 : k = (4, 0)
    · subst h4; simp [elk]
    · by_cases h1 : k = (1, 0)
      · subst h1; simp [elk]
      · simp [elk, h1, h3, h4]
section XO
variable {G : Gd} {y : Mt} {hp : Method → Code → Prop} {d kf : Nat} {Z : Zt} {k pc n t : Nat} {lv lv' : List (Nat × Value)} {st : List Value} {J : Heap → Prop}
theorem b_k {k' : Nat} (h : k = k') (kk : Fb G y hp d kf Z k' pc lv st J) : Fb G y hp d kf Z k pc lv st J := by rw [h]; exact kk
theorem b_hd {n0 n1 : Nat} {E : Ex} {q : Ky} {f g : Nat → Value} (hn : n0 = n1) (h : ∀ j, f j = g j) (kk : Fb G y hp d kf Z k pc lv st (Jb G n1 ((q, g) :: E))) : Fb G y hp d kf Z k pc lv st (Jb G n0 ((q, f) :: E)) := by
  rw [hn, funext h]
  exact kk
end XO
def f1S (G : Gd) : Nat → Value := updV (updV (updV (fun j => defaultValue (ftyp 4 j)) 0 (.ref (ga G (2, 0)))) 1 (.ref (ga G (3, 0)))) 2 (.ref (ga G (4, 0)))
def arF (G : Gd) (r i : Nat) : Nat → Value := fun j => if j < i then .ref (ga G (r, j)) else .null
theorem arF_up {G : Gd} {r i : Nat} (j : Nat) : updV (arF G r i) i (.ref (ga G (r, i))) j = arF G r (i + 1) j := by
  unfold updV arF
  by_cases h : j = i
  · subst h; simp
  · by_cases h2 : j < i
    · simp [h, h2, Nat.lt_succ_of_lt h2]
    · have h3 : ¬ j < i + 1 := by omega
      simp [h, h2, h3]
set_option maxHeartbeats 4000000 in
set_option maxRecDepth 20000 in
theorem l_i4b {G : Gd} {E : Ex} (hG : Gok G) (hB : Gbk G) (hE : Eok 2 E) (h1 : elk E (1, 0) = none) : ∀ r i : Nat, r + i = 40 → Fb G mX4_init inH 4 562 (Zb G (Jb G 324 E) 562) (82 + 12 * i) 59 [(0, .ref (ga G (1, 0))), (1, .int (nI i))] [] (Jb G (44 + 7 * i) (((4, 0), arF G 8 i) :: ((1, 0), f1S G) :: E))
  | 0, i, hri => by
    have e40 : i = 40 := by omega
    subst e40
    refine b_iload_n rfl rfl rfl ?_
    refine b_bipush (v := nI 40) rfl rfl (by decide +kernel) ?_
    refine b_icmpN_ge (by decide) (by decide) rfl rfl (fun h => ?_) (fun h => absurd h (by decide))
    refine b_to (fun H h => (h.drop (sp := .inr (4, 40)) rfl (fun j hj => ?_) ?_).drop (sp := .inl 4) rfl (fun j hj => ?_) h1) (b_vret rfl rfl rfl (by decide))
    · have hj2 : j < 40 := hj
      unfold arF
      rw [if_pos hj2]
      rfl
    · rw [elk_tl (fun h => by cases h)]
      exact hE (4, 0) (by decide)
    · match j, hj with
      | 0, _ => rfl
      | 1, _ => rfl
      | 2, _ => rfl
      | 3, _ => rfl
      | 4, _ => rfl
      | 5, _ => rfl
      | j + 6, hj => exact absurd hj (by show ¬ j + 6 < 6; omega)
  | r + 1, i, hri => by
    have hi : i < 40 := by omega
    have hE2 : Eok (44 + 7 * i + 1) (((4, 0), arF G 8 i) :: ((1, 0), f1S G) :: E) := ((hE.mono (by omega)).cons (by show 1 + 0 * 0 < _; omega)).cons (by show 4 + 0 * 0 < _; omega)
    refine b_iload_n rfl rfl rfl ?_
    refine b_bipush (v := nI 40) rfl rfl (by decide +kernel) ?_
    refine b_icmpN_ge (by omega) (by decide) rfl rfl (fun h => absurd h (by omega)) (fun h => ?_)
    refine b_aload_n rfl rfl rfl ?_
    refine b_get (ci := 4) (j := 2) (q := (1, 0)) (v := .ref (ga G (4, 0))) rfl rfl f_4_23 rfl (by decide) (by show 1 + 0 * 0 < _; omega) (by rw [ev_tl (fun h => by cases h), ev_hd]; rfl) ?_
    refine b_iload_n rfl rfl rfl ?_
    refine b_new (q := (8, i)) (u := 1) hB rfl rfl nw_4_21 rfl hi rfl (by decide) (by decide) (by omega) ?_
    refine b_dup rfl rfl rfl ?_
    refine b_callI (d2 := 3) (k2 := 11) (c_i5 hG hB hi hE2 (by rw [elk_tl (fun h => by cases h), elk_tl (fun h => by cases h)]; exact hE (8, i) (by show 2 ≤ 44 + 7 * i; omega))) rfl rfl i_4_28 rfl rfl (Nat.le_of_ble_eq_true rfl) (by decide) (by omega) ?_
    refine b_aast (tt := 4) (L := 40) (ci := 5) (q' := (8, i)) rfl rfl rfl (by decide) (by show 4 + 0 * 0 < _; omega) rfl (Or.inr rfl) hi (by decide) rfl hi (by show 44 + 7 * i < _; omega) rfl ?_
    refine b_iincN (b := 1) rfl rfl rfl rfl rfl ?_
    refine b_goto rfl rfl ?_
    exact b_k (by omega) (b_hd (by omega) arF_up (l_i4b hG hB hE h1 r (i + 1) (by omega)))
set_option maxHeartbeats 4000000 in
set_option maxRecDepth 20000 in
theorem l_i4a {G : Gd} {E : Ex} (hG : Gok G) (hB : Gbk G) (hE : Eok 2 E) (h1 : elk E (1, 0) = none) : ∀ r i : Nat, r + i = 13 → Fb G mX4_init inH 4 562 (Zb G (Jb G 324 E) 562) (17 + 5 * i) 32 [(0, .ref (ga G (1, 0))), (1, .int (nI i))] [] (Jb G (5 + 3 * i) (((3, 0), arF G 5 i) :: ((4, 0), fun _ => .null) :: ((1, 0), f1S G) :: E))
  | 0, i, hri => by
    have e40 : i = 13 := by omega
    subst e40
    refine b_iload_n rfl rfl rfl ?_
    refine b_bipush (v := nI 12) rfl rfl (by decide +kernel) ?_
    refine b_icmpN_gt (by decide) (by decide) rfl rfl (fun h => ?_) (fun h => absurd h (by decide))
    refine b_iconstN (b := 0) rfl rfl ?_
    refine b_istore_n rfl rfl rfl rfl ?_
    refine b_to (fun H h => h.drop (sp := .inr (3, 13)) rfl (fun j hj => ?_) ?_) ?_
    · have hj2 : j < 13 := hj
      unfold arF
      rw [if_pos hj2]
      rfl
    · rw [elk_tl (fun h => by cases h), elk_tl (fun h => by cases h)]
      exact hE (3, 0) (by decide)
    · exact b_hd rfl (fun j => by simp [arF]) (l_i4b hG hB hE h1 40 0 rfl)
  | r + 1, i, hri => by
    have hi : i < 13 := by omega
    have hE2 : Eok (5 + 3 * i + 1) (((3, 0), arF G 5 i) :: ((4, 0), fun _ => .null) :: ((1, 0), f1S G) :: E) := (((hE.mono (by omega)).cons (by show 1 + 0 * 0 < _; omega)).cons (by show 4 + 0 * 0 < _; omega)).cons (by show 3 + 0 * 0 < _; omega)
    refine b_iload_n rfl rfl rfl ?_
    refine b_bipush (v := nI 12) rfl rfl (by decide +kernel) ?_
    refine b_icmpN_gt (by omega) (by decide) rfl rfl (fun h => absurd h (by omega)) (fun h => ?_)
    refine b_aload_n rfl rfl rfl ?_
    refine b_get (ci := 4) (j := 1) (q := (1, 0)) (v := .ref (ga G (3, 0))) rfl rfl f_4_17 rfl (by decide) (by show 1 + 0 * 0 < _; omega) (by rw [ev_tl (fun h => by cases h), ev_tl (fun h => by cases h), ev_hd]; rfl) ?_
    refine b_iload_n rfl rfl rfl ?_
    refine b_new (q := (5, i)) (u := 1) hB rfl rfl nw_4_15 rfl hi rfl (by decide) (by decide) (by omega) ?_
    refine b_dup rfl rfl rfl ?_
    refine b_callI (d2 := 3) (k2 := 4) (c_i6 hG hB hi hE2 (by rw [elk_tl (fun h => by cases h), elk_tl (fun h => by cases h), elk_tl (fun h => by cases h)]; exact hE (5, i) (by show 2 ≤ 5 + 3 * i; omega))) rfl rfl i_4_27 rfl rfl (Nat.le_of_ble_eq_true rfl) (by decide) (by omega) ?_
    refine b_aast (tt := 3) (L := 13) (ci := 6) (q' := (5, i)) rfl rfl rfl (by decide) (by show 3 + 0 * 0 < _; omega) rfl (Or.inl rfl) hi (by decide) rfl hi (by show 5 + 3 * i < _; omega) rfl ?_
    refine b_iincN (b := 1) rfl rfl rfl rfl rfl ?_
    refine b_goto rfl rfl ?_
    exact b_k (by omega) (b_hd (by omega) arF_up (l_i4a hG hB hE h1 r (i + 1) (by omega)))
set_option maxHeartbeats 4000000 in
set_option maxRecDepth 20000 in
theorem c_i4 {G : Gd} {E : Ex} (hG : Gok G) (hB : Gbk G) (ha1 : va_AO "GraphCourier$Traits" (gs G)) (ha2 : va_AO "GraphCourier$Thing" (gs G)) (hE : Eok 2 E) (h1 : elk E (1, 0) = none) : Cb G mX4_init 4 [.ref (ga G (1, 0))] (Jb G 2 (((1, 0), fun j => defaultValue (ftyp 4 j)) :: E)) (Jb G 324 E) 562 := by
  refine cb_of jb_low hG okX4_init (by decide +kernel) rfl rfl (Nat.le_of_ble_eq_true rfl) ?_
  refine b_aload_n rfl rfl rfl ?_
  refine b_obj rfl rfl o_4 (by decide) (Nat.le_of_ble_eq_true rfl) o_in o_co ?_
  refine b_aload_n rfl rfl rfl ?_
  refine b_bipush (v := nI 40) rfl rfl (by decide +kernel) ?_
  refine b_newa (q := (2, 0)) (tt := 1) (L := 40) (u := 7) hB rfl (by decide) wa_long rfl rfl rfl (by decide) rfl (by rw [elk_tl (fun h => by cases h)]; exact hE (2, 0) (by decide)) rfl (by decide) (by decide) (by decide) (by decide) ?_
  refine b_putF (ci := 4) (j := 0) rfl rfl f_4_9 rfl e_4_9 rfl (by decide) (by decide) rfl rfl ?_
  refine b_aload_n rfl rfl rfl ?_
  refine b_bipush (v := nI 13) rfl rfl (by decide +kernel) ?_
  refine b_anew (q := (3, 0)) (tt := 3) (L := 13) (u := 3) hB rfl (Or.inl rfl) an_4_15 ha1 rfl rfl rfl (by decide) rfl rfl (by decide) (by decide) (by decide) (by decide) ?_
  refine b_to (fun H h => h.perm (elk_swap (by intro h; cases h))) ?_
  refine b_putF (ci := 4) (j := 1) rfl rfl f_4_17 rfl e_4_17 rfl (by decide) (by decide) rfl rfl ?_
  refine b_aload_n rfl rfl rfl ?_
  refine b_bipush (v := nI 40) rfl rfl (by decide +kernel) ?_
  refine b_anew (q := (4, 0)) (tt := 4) (L := 40) (u := 7) hB rfl (Or.inr rfl) an_4_21 ha2 rfl rfl rfl (by decide) rfl rfl (by decide) (by decide) (by decide) (by decide) ?_
  refine b_to (fun H h => h.perm (elk_swap (by intro h; cases h))) ?_
  refine b_putF (ci := 4) (j := 2) rfl rfl f_4_23 rfl e_4_23 rfl (by decide) (by decide) rfl rfl ?_
  refine b_to (fun H h => h.perm elk_tl3) ?_
  refine b_iconstN (b := 0) rfl rfl ?_
  refine b_istore_n rfl rfl rfl rfl ?_
  exact b_hd rfl (fun j => by simp [arF]) (l_i4a hG hB hE h1 13 0 rfl)
set_option maxHeartbeats 4000000 in
set_option maxRecDepth 20000 in
theorem c_i8 {G : Gd} {E : Ex} (hG : Gok G) (hB : Gbk G) (ha1 : va_AO "GraphCourier$Traits" (gs G)) (ha2 : va_AO "GraphCourier$Thing" (gs G)) (hE : Eok 1 E) (h1 : elk E (0, 0) = none) : Cb G mX8_init 5 [.ref (ga G (0, 0))] (Jb G 1 (((0, 0), fun j => defaultValue (ftyp 8 j)) :: E)) (Jb G 347 E) 940 := by
  refine cb_of jb_low hG okX8_init (by decide +kernel) rfl rfl (Nat.le_of_ble_eq_true rfl) ?_
  refine b_aload_n rfl rfl rfl ?_
  refine b_obj rfl rfl o_8 (by decide) (Nat.le_of_ble_eq_true rfl) o_in o_co ?_
  refine b_new (q := (1, 0)) (u := 1) hB rfl rfl nw_8_9 rfl (by decide) rfl (by decide) (by decide) (by decide) ?_
  refine b_dup rfl rfl rfl ?_
  refine b_callI (d2 := 4) (k2 := 562) (c_i4 hG hB ha1 ha2 ((hE.mono (by decide)).cons (by decide)) (by rw [elk_tl (fun h => by cases h)]; exact hE (1, 0) (by decide))) rfl rfl i_8_11 rfl rfl (Nat.le_of_ble_eq_true rfl) (by decide) (by decide) ?_
  refine b_astore_n rfl rfl rfl rfl ?_
  refine b_new (q := (15, 0)) (u := 1) hB rfl rfl nw_8_12 rfl (by decide) rfl (by decide) (by decide) (by decide) ?_
  refine b_dup rfl rfl rfl ?_
  refine b_callI (d2 := 2) (k2 := 103) (c_i3 hG hB ((hE.mono (by decide)).cons (by decide)) (by rw [elk_tl (fun h => by cases h)]; exact hE (15, 0) (by decide))) rfl rfl i_8_14 rfl rfl (Nat.le_of_ble_eq_true rfl) (by decide) (by decide) ?_
  refine b_astore_n rfl rfl rfl rfl ?_
  refine b_new (q := (17, 0)) (u := 1) hB rfl rfl nw_8_15 rfl (by decide) rfl (by decide) (by decide) (by decide) ?_
  refine b_dup rfl rfl rfl ?_
  refine b_bipush (v := nI 6) rfl rfl (by decide +kernel) ?_
  refine b_callI (d2 := 2) (k2 := 6 / 6 + 1) (c_i0 hG hB (lk_17 (by decide)) (by decide) (by decide) (by rw [elk_tl (fun h => by cases h)]; exact hE (17, 0) (by decide)) (by rw [elk_tl (fun h => by cases h)]; exact hE (18, 0) (by decide))) rfl rfl i_8_17 rfl rfl (Nat.le_of_ble_eq_true rfl) (by decide) (by decide) ?_
  refine b_astore_n rfl rfl rfl rfl ?_
  refine b_aload_n rfl rfl rfl ?_
  refine b_aload_n rfl rfl rfl ?_
  refine b_putF (ci := 8) (j := 0) rfl rfl f_8_20 rfl e_8_20 rfl (by decide) (by decide) rfl rfl ?_
  refine b_aload_n rfl rfl rfl ?_
  refine b_aload_n rfl rfl rfl ?_
  refine b_putF (ci := 8) (j := 1) rfl rfl f_8_24 rfl e_8_24 rfl (by decide) (by decide) rfl rfl ?_
  refine b_aload_n rfl rfl rfl ?_
  refine b_aload_n rfl rfl rfl ?_
  refine b_putF (ci := 8) (j := 2) rfl rfl f_8_28 rfl e_8_28 rfl (by decide) (by decide) rfl rfl ?_
  refine b_aload_n rfl rfl rfl ?_
  refine b_new (q := (19, 0)) (u := 1) hB rfl rfl nw_8_32 rfl (by decide) rfl (by decide) (by decide) (by decide) ?_
  refine b_dup rfl rfl rfl ?_
  refine b_aload_n rfl rfl rfl ?_
  refine b_callI (d2 := 3) (k2 := 167) (c_i7 hG hB ((hE.mono (by decide)).cons (by decide)) (by rw [elk_tl (fun h => by cases h)]; exact hE (19, 0) (by decide))) rfl rfl i_8_34 rfl rfl (Nat.le_of_ble_eq_true rfl) (by decide) (by decide) ?_
  refine b_putF (ci := 8) (j := 3) rfl rfl f_8_37 rfl e_8_37 rfl (by decide) (by decide) rfl rfl ?_
  refine b_aload_n rfl rfl rfl ?_
  refine b_new (q := (27, 0)) (u := 2) hB rfl rfl nw_8_41 rfl (by decide) rfl (by decide) (by decide) (by decide) ?_
  refine b_dup rfl rfl rfl ?_
  refine b_aload_n rfl rfl rfl ?_
  refine b_aload_n rfl rfl rfl ?_
  refine b_aload_n rfl rfl rfl ?_
  refine b_callI (d2 := 3) (k2 := 70) (c_i2 hG hB ((hE.mono (by decide)).cons (by decide)) (by rw [elk_tl (fun h => by cases h)]; exact hE (27, 0) (by decide))) rfl rfl i_8_43 rfl rfl (Nat.le_of_ble_eq_true rfl) (by decide) (by decide) ?_
  refine b_putF (ci := 8) (j := 4) rfl rfl f_8_46 rfl e_8_46 rfl (by decide) (by decide) rfl rfl ?_
  refine b_aload_n rfl rfl rfl ?_
  refine b_new (q := (34, 0)) (u := 1) hB rfl rfl nw_8_50 rfl (by decide) rfl (by decide) (by decide) (by decide) ?_
  refine b_dup rfl rfl rfl ?_
  refine b_aload_n rfl rfl rfl ?_
  refine b_callI (d2 := 2) (k2 := 23) (c_i1 hG hB ((hE.mono (by decide)).cons (by decide)) (by rw [elk_tl (fun h => by cases h)]; exact hE (34, 0) (by decide))) rfl rfl i_8_52 rfl rfl (Nat.le_of_ble_eq_true rfl) (by decide) (by decide) ?_
  refine b_putF (ci := 8) (j := 5) rfl rfl f_8_53 rfl e_8_53 rfl (by decide) (by decide) rfl rfl ?_
  refine b_to (fun H h => h.drop (sp := .inl 8) rfl (fun j hj => ?_) h1) (b_vret rfl rfl rfl (by decide))
  match j, hj with
  | 0, _ => rfl
  | 1, _ => rfl
  | 2, _ => rfl
  | 3, _ => rfl
  | 4, _ => rfl
  | 5, _ => rfl
  | j + 6, hj => exact absurd hj (by show ¬ j + 6 < 6; omega)
