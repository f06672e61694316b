/-! THE CONSTRUCTORS -/
theorem ll_tg {G : Gd} {q q' : Ky} {N : Nat} (h : LLk q q' N) : ∀ j, j < vsz (.inl 0) → updV (fun j => defaultValue (ftyp 0 j)) 0 (.ref (ga G q')) j = tgV G q j := by
  intro j hj
  obtain ⟨h1, h2, h3, h4, h5, h6⟩ := h
  match j, hj with
  | 0, _ =>
    unfold tgV
    rw [h1]
    show Value.ref (ga G q') = rv G (rf q 0)
    rw [h3]
    rfl
  | 1, _ =>
    unfold tgV
    rw [h1]
    show Value.int 0 = Value.int (M0.1 q 1)
    simp [M0]
  | j + 2, hj => exact absurd hj (by show ¬ j + 2 < 2; omega)
set_option maxHeartbeats 4000000 in
set_option maxRecDepth 20000 in
theorem c_i0 {G : Gd} {E : Ex} {q q' : Ky} {N n0 : Nat} (hG : Gok G) (hB : Gbk G) (h : LLk q q' N) (hb : bix q < n0) (hq : bix q' = n0) (hE : elk E q = none) (hE2 : elk E q' = none) :
    Cb G mX0_init 2 [.ref (ga G q), .int (nI N)] (Jb G n0 ((q, fun j => defaultValue (ftyp 0 j)) :: E)) (Jb G (n0 + 1) E) (N / 6 + 1) := by
  have hll := ll_tg (G := G) h
  obtain ⟨h1, h2, h3, h4, h5, h6⟩ := h
  have hne : q' ≠ q := fun z => by rw [z, h1] at h4; cases h4
  refine cb_of jb_low hG okX0_init (by decide +kernel) rfl rfl (Nat.le_of_ble_eq_true rfl) ?_
  refine b_aload_n rfl rfl rfl ?_
  refine b_obj rfl rfl o_0 (by decide) (Nat.le_of_ble_eq_true rfl) o_in o_co ?_
  refine b_aload_n rfl rfl rfl ?_
  refine b_iload_n rfl rfl rfl ?_
  refine b_newa (q := q') (tt := 1) (L := N) (u := N / 6 + 1) hB rfl (by decide) wa_long rfl rfl h4 h5 hq (by rw [elk_tl hne]; exact hE2) rfl (by omega) (by omega) (by omega) (by omega) ?_
  refine b_putF (ci := 0) (j := 0) rfl rfl f_0_9 rfl e_0_9 h1 h2 (by omega) rfl rfl ?_
  exact b_to (fun H h => h.drop h1 hll hE) (b_vret rfl rfl rfl (by omega))

set_option maxHeartbeats 4000000 in
set_option maxRecDepth 20000 in
theorem c_i6 {G : Gd} {E : Ex} (hG : Gok G) (hB : Gbk G) {i : Nat} (hi : i < 13) (hE : Eok (5 + 3 * i + 1) E) (h1 : elk E (5, i) = none) : Cb G mX6_init 3 [.ref (ga G (5, i))] (Jb G (5 + 3 * i + 1) (((5, i), fun j => defaultValue (ftyp 6 j)) :: E)) (Jb G (5 + 3 * i + 3) E) 4 := by
  refine cb_of jb_low hG okX6_init (by decide +kernel) rfl rfl (Nat.le_of_ble_eq_true rfl) ?_
  refine b_aload_n rfl rfl rfl ?_
  refine b_obj rfl rfl o_6 (by decide) (Nat.le_of_ble_eq_true rfl) o_in o_co ?_
  refine b_aload_n rfl rfl rfl ?_
  refine b_new (q := (6, i)) (u := 1) hB rfl rfl nw_6_9 rfl hi (by show 6 + 3 * i = _; omega) (by decide) (by decide) (by decide) ?_
  refine b_dup rfl rfl rfl ?_
  refine b_iconstN (b := 3) rfl rfl ?_
  refine b_callI (d2 := 2) (k2 := 3 / 6 + 1) (c_i0 hG hB (lk_6 hi) (by show 6 + 3 * i < _; omega) (by show 7 + 3 * i = _; omega) (by rw [elk_tl (fun h => by cases h)]; exact (hE (6, i) (by show _ ≤ 6 + 3 * i; omega))) (by rw [elk_tl (fun h => by cases h)]; exact (hE (7, i) (by show _ ≤ 7 + 3 * i; omega)))) rfl rfl i_6_11 rfl rfl (Nat.le_of_ble_eq_true rfl) (by decide) (by decide) ?_
  refine b_putF (ci := 6) (j := 0) rfl rfl f_6_14 rfl e_6_14 rfl hi (by show 5 + 3 * i < _; omega) rfl rfl ?_
  refine b_to (fun H h => h.drop (sp := .inl 6) rfl (fun j hj => ?_) h1) (b_vret rfl rfl rfl (by decide))
  match j, hj with
  | 0, _ => rfl
  | 1, _ => rfl
  | 2, _ => rfl
  | j + 3, hj => exact absurd hj (by show ¬ j + 3 < 3; omega)

set_option maxHeartbeats 4000000 in
set_option maxRecDepth 20000 in
theorem c_i5 {G : Gd} {E : Ex} (hG : Gok G) (hB : Gbk G) {i : Nat} (hi : i < 40) (hE : Eok (44 + 7 * i + 1) E) (h1 : elk E (8, i) = none) : Cb G mX5_init 3 [.ref (ga G (8, i))] (Jb G (44 + 7 * i + 1) (((8, i), fun j => defaultValue (ftyp 5 j)) :: E)) (Jb G (44 + 7 * i + 7) E) 11 := by
  refine cb_of jb_low hG okX5_init (by decide +kernel) rfl rfl (Nat.le_of_ble_eq_true rfl) ?_
  refine b_aload_n rfl rfl rfl ?_
  refine b_obj rfl rfl o_5 (by decide) (Nat.le_of_ble_eq_true rfl) o_in o_co ?_
  refine b_aload_n rfl rfl rfl ?_
  refine b_new (q := (9, i)) (u := 1) hB rfl rfl nw_5_9 rfl hi (by show 45 + 7 * i = _; omega) (by decide) (by decide) (by decide) ?_
  refine b_dup rfl rfl rfl ?_
  refine b_bipush (v := nI 8) rfl rfl (by decide +kernel) ?_
  refine b_callI (d2 := 2) (k2 := 8 / 6 + 1) (c_i0 hG hB (lk_9 hi) (by show 45 + 7 * i < _; omega) (by show 46 + 7 * i = _; omega) (by rw [elk_tl (fun h => by cases h)]; exact (hE (9, i) (by show _ ≤ 45 + 7 * i; omega))) (by rw [elk_tl (fun h => by cases h)]; exact (hE (10, i) (by show _ ≤ 46 + 7 * i; omega)))) rfl rfl i_5_11 rfl rfl (Nat.le_of_ble_eq_true rfl) (by decide) (by decide) ?_
  refine b_putF (ci := 5) (j := 0) rfl rfl f_5_14 rfl e_5_14 rfl hi (by show 44 + 7 * i < _; omega) rfl rfl ?_
  refine b_aload_n rfl rfl rfl ?_
  refine b_new (q := (11, i)) (u := 1) hB rfl rfl nw_5_9 rfl hi (by show 47 + 7 * i = _; omega) (by decide) (by decide) (by decide) ?_
  refine b_dup rfl rfl rfl ?_
  refine b_bipush (v := nI 6) rfl rfl (by decide +kernel) ?_
  refine b_callI (d2 := 2) (k2 := 6 / 6 + 1) (c_i0 hG hB (lk_11 hi) (by show 47 + 7 * i < _; omega) (by show 48 + 7 * i = _; omega) (by rw [elk_tl (fun h => by cases h)]; exact (hE (11, i) (by show _ ≤ 47 + 7 * i; omega))) (by rw [elk_tl (fun h => by cases h)]; exact (hE (12, i) (by show _ ≤ 48 + 7 * i; omega)))) rfl rfl i_5_11 rfl rfl (Nat.le_of_ble_eq_true rfl) (by decide) (by decide) ?_
  refine b_putF (ci := 5) (j := 1) rfl rfl f_5_20 rfl e_5_20 rfl hi (by show 44 + 7 * i < _; omega) rfl rfl ?_
  refine b_aload_n rfl rfl rfl ?_
  refine b_new (q := (13, i)) (u := 1) hB rfl rfl nw_5_9 rfl hi (by show 49 + 7 * i = _; omega) (by decide) (by decide) (by decide) ?_
  refine b_dup rfl rfl rfl ?_
  refine b_bipush (v := nI 6) rfl rfl (by decide +kernel) ?_
  refine b_callI (d2 := 2) (k2 := 6 / 6 + 1) (c_i0 hG hB (lk_13 hi) (by show 49 + 7 * i < _; omega) (by show 50 + 7 * i = _; omega) (by rw [elk_tl (fun h => by cases h)]; exact (hE (13, i) (by show _ ≤ 49 + 7 * i; omega))) (by rw [elk_tl (fun h => by cases h)]; exact (hE (14, i) (by show _ ≤ 50 + 7 * i; omega)))) rfl rfl i_5_11 rfl rfl (Nat.le_of_ble_eq_true rfl) (by decide) (by decide) ?_
  refine b_putF (ci := 5) (j := 2) rfl rfl f_5_23 rfl e_5_23 rfl hi (by show 44 + 7 * i < _; omega) rfl rfl ?_
  refine b_to (fun H h => h.drop (sp := .inl 5) rfl (fun j hj => ?_) h1) (b_vret rfl rfl rfl (by decide))
  match j, hj with
  | 0, _ => rfl
  | 1, _ => rfl
  | 2, _ => rfl
  | 3, _ => rfl
  | 4, _ => rfl
  | 5, _ => rfl
  | j + 6, hj => exact absurd hj (by show ¬ j + 6 < 6; omega)

set_option maxHeartbeats 4000000 in
set_option maxRecDepth 20000 in
theorem c_i3 {G : Gd} {E : Ex} (hG : Gok G) (hB : Gbk G) (hE : Eok (325) E) (h1 : elk E (15, 0) = none) : Cb G mX3_init 2 [.ref (ga G (15, 0))] (Jb G (325) (((15, 0), fun j => defaultValue (ftyp 3 j)) :: E)) (Jb G (326) E) 103 := by
  refine cb_of jb_low hG okX3_init (by decide +kernel) rfl rfl (Nat.le_of_ble_eq_true rfl) ?_
  refine b_aload_n rfl rfl rfl ?_
  refine b_obj rfl rfl o_3 (by decide) (Nat.le_of_ble_eq_true rfl) o_in o_co ?_
  refine b_aload_n rfl rfl rfl ?_
  refine b_sipush (v := nI 600) rfl rfl (by decide +kernel) ?_
  refine b_newa (q := (16, 0)) (tt := 0) (L := 600) (u := 100) hB rfl (by decide) wa_int rfl rfl rfl (by decide) (by show 325 + 0 * 0 = _; omega) (by rw [elk_tl (fun h => by cases h)]; exact (hE (16, 0) (by show _ ≤ 325 + 0 * 0; omega))) rfl (by decide) (by decide) (by decide) (by decide) ?_
  refine b_putF (ci := 3) (j := 0) rfl rfl f_3_9 rfl e_3_9 rfl (by decide) (by show 324 + 0 * 0 < _; omega) rfl rfl ?_
  refine b_to (fun H h => h.drop (sp := .inl 3) rfl (fun j hj => ?_) h1) (b_vret rfl rfl rfl (by decide))
  match j, hj with
  | 0, _ => rfl
  | 1, _ => rfl
  | j + 2, hj => exact absurd hj (by show ¬ j + 2 < 2; omega)

set_option maxHeartbeats 4000000 in
set_option maxRecDepth 20000 in
theorem c_i7 {G : Gd} {E : Ex} (hG : Gok G) (hB : Gbk G) (hE : Eok (329) E) (h1 : elk E (19, 0) = none) : Cb G mX7_init 3 [.ref (ga G (19, 0)), .ref (ga G (1, 0))] (Jb G (329) (((19, 0), fun j => defaultValue (ftyp 7 j)) :: E)) (Jb G (336) E) 167 := by
  refine cb_of jb_low hG okX7_init (by decide +kernel) rfl rfl (Nat.le_of_ble_eq_true rfl) ?_
  refine b_aload_n rfl rfl rfl ?_
  refine b_obj rfl rfl o_7 (by decide) (Nat.le_of_ble_eq_true rfl) o_in o_co ?_
  refine b_aload_n rfl rfl rfl ?_
  refine b_new (q := (20, 0)) (u := 1) hB rfl rfl nw_7_9 rfl (by decide) (by show 329 + 0 * 0 = _; omega) (by decide) (by decide) (by decide) ?_
  refine b_dup rfl rfl rfl ?_
  refine b_sipush (v := nI 300) rfl rfl (by decide +kernel) ?_
  refine b_callI (d2 := 2) (k2 := 300 / 6 + 1) (c_i0 hG hB (lk_20 (by decide)) (by show 329 + 0 * 0 < _; omega) (by show 330 + 0 * 0 = _; omega) (by rw [elk_tl (fun h => by cases h)]; exact (hE (20, 0) (by show _ ≤ 329 + 0 * 0; omega))) (by rw [elk_tl (fun h => by cases h)]; exact (hE (21, 0) (by show _ ≤ 330 + 0 * 0; omega)))) rfl rfl i_7_11 rfl rfl (Nat.le_of_ble_eq_true rfl) (by decide) (by decide) ?_
  refine b_putF (ci := 7) (j := 1) rfl rfl f_7_14 rfl e_7_14 rfl (by decide) (by show 328 + 0 * 0 < _; omega) rfl rfl ?_
  refine b_aload_n rfl rfl rfl ?_
  refine b_new (q := (22, 0)) (u := 1) hB rfl rfl nw_7_9 rfl (by decide) (by show 331 + 0 * 0 = _; omega) (by decide) (by decide) (by decide) ?_
  refine b_dup rfl rfl rfl ?_
  refine b_bipush (v := nI 40) rfl rfl (by decide +kernel) ?_
  refine b_callI (d2 := 2) (k2 := 40 / 6 + 1) (c_i0 hG hB (lk_22 (by decide)) (by show 331 + 0 * 0 < _; omega) (by show 332 + 0 * 0 = _; omega) (by rw [elk_tl (fun h => by cases h)]; exact (hE (22, 0) (by show _ ≤ 331 + 0 * 0; omega))) (by rw [elk_tl (fun h => by cases h)]; exact (hE (23, 0) (by show _ ≤ 332 + 0 * 0; omega)))) rfl rfl i_7_11 rfl rfl (Nat.le_of_ble_eq_true rfl) (by decide) (by decide) ?_
  refine b_putF (ci := 7) (j := 2) rfl rfl f_7_20 rfl e_7_20 rfl (by decide) (by show 328 + 0 * 0 < _; omega) rfl rfl ?_
  refine b_aload_n rfl rfl rfl ?_
  refine b_new (q := (24, 0)) (u := 1) hB rfl rfl nw_7_9 rfl (by decide) (by show 333 + 0 * 0 = _; omega) (by decide) (by decide) (by decide) ?_
  refine b_dup rfl rfl rfl ?_
  refine b_bipush (v := nI 12) rfl rfl (by decide +kernel) ?_
  refine b_callI (d2 := 2) (k2 := 12 / 6 + 1) (c_i0 hG hB (lk_24 (by decide)) (by show 333 + 0 * 0 < _; omega) (by show 334 + 0 * 0 = _; omega) (by rw [elk_tl (fun h => by cases h)]; exact (hE (24, 0) (by show _ ≤ 333 + 0 * 0; omega))) (by rw [elk_tl (fun h => by cases h)]; exact (hE (25, 0) (by show _ ≤ 334 + 0 * 0; omega)))) rfl rfl i_7_11 rfl rfl (Nat.le_of_ble_eq_true rfl) (by decide) (by decide) ?_
  refine b_putF (ci := 7) (j := 3) rfl rfl f_7_23 rfl e_7_23 rfl (by decide) (by show 328 + 0 * 0 < _; omega) rfl rfl ?_
  refine b_aload_n rfl rfl rfl ?_
  refine b_sipush (v := nI 600) rfl rfl (by decide +kernel) ?_
  refine b_newa (q := (26, 0)) (tt := 0) (L := 600) (u := 100) hB rfl (by decide) wa_int rfl rfl rfl (by decide) (by show 335 + 0 * 0 = _; omega) (by rw [elk_tl (fun h => by cases h)]; exact (hE (26, 0) (by show _ ≤ 335 + 0 * 0; omega))) rfl (by decide) (by decide) (by decide) (by decide) ?_
  refine b_putF (ci := 7) (j := 4) rfl rfl f_7_26 rfl e_7_26 rfl (by decide) (by show 328 + 0 * 0 < _; omega) rfl rfl ?_
  refine b_aload_n rfl rfl rfl ?_
  refine b_aload_n rfl rfl rfl ?_
  refine b_putF (ci := 7) (j := 0) rfl rfl f_7_30 rfl e_7_30 rfl (by decide) (by show 328 + 0 * 0 < _; omega) rfl rfl ?_
  refine b_to (fun H h => h.drop (sp := .inl 7) rfl (fun j hj => ?_) h1) (b_vret rfl rfl rfl (by decide))
  match j, hj with
  | 0, _ => rfl
  | 1, _ => rfl
  | 2, _ => rfl
  | 3, _ => rfl
  | 4, _ => rfl
  | 5, _ => rfl
  | j + 6, hj => exact absurd hj (by show ¬ j + 6 < 6; omega)

set_option maxHeartbeats 4000000 in
set_option maxRecDepth 20000 in
theorem c_i2 {G : Gd} {E : Ex} (hG : Gok G) (hB : Gbk G) (hE : Eok (337) E) (h1 : elk E (27, 0) = none) : Cb G mX2_init 3 [.ref (ga G (27, 0)), .ref (ga G (1, 0)), .ref (ga G (15, 0)), .ref (ga G (17, 0))] (Jb G (337) (((27, 0), fun j => defaultValue (ftyp 2 j)) :: E)) (Jb G (343) E) 70 := by
  refine cb_of jb_low hG okX2_init (by decide +kernel) rfl rfl (Nat.le_of_ble_eq_true rfl) ?_
  refine b_aload_n rfl rfl rfl ?_
  refine b_obj rfl rfl o_2 (by decide) (Nat.le_of_ble_eq_true rfl) o_in o_co ?_
  refine b_aload_n rfl rfl rfl ?_
  refine b_new (q := (28, 0)) (u := 1) hB rfl rfl nw_2_9 rfl (by decide) (by show 337 + 0 * 0 = _; omega) (by decide) (by decide) (by decide) ?_
  refine b_dup rfl rfl rfl ?_
  refine b_sipush (v := nI 300) rfl rfl (by decide +kernel) ?_
  refine b_callI (d2 := 2) (k2 := 300 / 6 + 1) (c_i0 hG hB (lk_28 (by decide)) (by show 337 + 0 * 0 < _; omega) (by show 338 + 0 * 0 = _; omega) (by rw [elk_tl (fun h => by cases h)]; exact (hE (28, 0) (by show _ ≤ 337 + 0 * 0; omega))) (by rw [elk_tl (fun h => by cases h)]; exact (hE (29, 0) (by show _ ≤ 338 + 0 * 0; omega)))) rfl rfl i_2_11 rfl rfl (Nat.le_of_ble_eq_true rfl) (by decide) (by decide) ?_
  refine b_putF (ci := 2) (j := 3) rfl rfl f_2_14 rfl e_2_14 rfl (by decide) (by show 336 + 0 * 0 < _; omega) rfl rfl ?_
  refine b_aload_n rfl rfl rfl ?_
  refine b_new (q := (30, 0)) (u := 1) hB rfl rfl nw_2_9 rfl (by decide) (by show 339 + 0 * 0 = _; omega) (by decide) (by decide) (by decide) ?_
  refine b_dup rfl rfl rfl ?_
  refine b_bipush (v := nI 40) rfl rfl (by decide +kernel) ?_
  refine b_callI (d2 := 2) (k2 := 40 / 6 + 1) (c_i0 hG hB (lk_30 (by decide)) (by show 339 + 0 * 0 < _; omega) (by show 340 + 0 * 0 = _; omega) (by rw [elk_tl (fun h => by cases h)]; exact (hE (30, 0) (by show _ ≤ 339 + 0 * 0; omega))) (by rw [elk_tl (fun h => by cases h)]; exact (hE (31, 0) (by show _ ≤ 340 + 0 * 0; omega)))) rfl rfl i_2_11 rfl rfl (Nat.le_of_ble_eq_true rfl) (by decide) (by decide) ?_
  refine b_putF (ci := 2) (j := 4) rfl rfl f_2_20 rfl e_2_20 rfl (by decide) (by show 336 + 0 * 0 < _; omega) rfl rfl ?_
  refine b_aload_n rfl rfl rfl ?_
  refine b_new (q := (32, 0)) (u := 1) hB rfl rfl nw_2_9 rfl (by decide) (by show 341 + 0 * 0 = _; omega) (by decide) (by decide) (by decide) ?_
  refine b_dup rfl rfl rfl ?_
  refine b_bipush (v := nI 40) rfl rfl (by decide +kernel) ?_
  refine b_callI (d2 := 2) (k2 := 40 / 6 + 1) (c_i0 hG hB (lk_32 (by decide)) (by show 341 + 0 * 0 < _; omega) (by show 342 + 0 * 0 = _; omega) (by rw [elk_tl (fun h => by cases h)]; exact (hE (32, 0) (by show _ ≤ 341 + 0 * 0; omega))) (by rw [elk_tl (fun h => by cases h)]; exact (hE (33, 0) (by show _ ≤ 342 + 0 * 0; omega)))) rfl rfl i_2_11 rfl rfl (Nat.le_of_ble_eq_true rfl) (by decide) (by decide) ?_
  refine b_putF (ci := 2) (j := 5) rfl rfl f_2_23 rfl e_2_23 rfl (by decide) (by show 336 + 0 * 0 < _; omega) rfl rfl ?_
  refine b_aload_n rfl rfl rfl ?_
  refine b_iconst (v := -1) rfl rfl (by decide +kernel) ?_
  refine b_put (ci := 2) (j := 10) rfl rfl f_2_26 rfl rfl (by decide) (by show 336 + 0 * 0 < _; omega) rfl rfl ?_
  refine b_aload_n rfl rfl rfl ?_
  refine b_aload_n rfl rfl rfl ?_
  refine b_putF (ci := 2) (j := 0) rfl rfl f_2_30 rfl e_2_30 rfl (by decide) (by show 336 + 0 * 0 < _; omega) rfl rfl ?_
  refine b_aload_n rfl rfl rfl ?_
  refine b_aload_n rfl rfl rfl ?_
  refine b_putF (ci := 2) (j := 1) rfl rfl f_2_34 rfl e_2_34 rfl (by decide) (by show 336 + 0 * 0 < _; omega) rfl rfl ?_
  refine b_aload_n rfl rfl rfl ?_
  refine b_aload_n rfl rfl rfl ?_
  refine b_putF (ci := 2) (j := 2) rfl rfl f_2_38 rfl e_2_38 rfl (by decide) (by show 336 + 0 * 0 < _; omega) rfl rfl ?_
  refine b_to (fun H h => h.drop (sp := .inl 2) rfl (fun j hj => ?_) h1) (b_vret rfl rfl rfl (by decide))
  match j, hj with
  | 0, _ => rfl
  | 1, _ => rfl
  | 2, _ => rfl
  | 3, _ => rfl
  | 4, _ => rfl
  | 5, _ => rfl
  | 6, _ => rfl
  | 7, _ => rfl
  | 8, _ => rfl
  | 9, _ => rfl
  | 10, _ => rfl
  | j + 11, hj => exact absurd hj (by show ¬ j + 11 < 11; omega)

set_option maxHeartbeats 4000000 in
set_option maxRecDepth 20000 in
theorem c_i1 {G : Gd} {E : Ex} (hG : Gok G) (hB : Gbk G) (hE : Eok (344) E) (h1 : elk E (34, 0) = none) : Cb G mX1_init 2 [.ref (ga G (34, 0)), .ref (ga G (1, 0))] (Jb G (344) (((34, 0), fun j => defaultValue (ftyp 1 j)) :: E)) (Jb G (347) E) 23 := by
  refine cb_of jb_low hG okX1_init (by decide +kernel) rfl rfl (Nat.le_of_ble_eq_true rfl) ?_
  refine b_aload_n rfl rfl rfl ?_
  refine b_obj rfl rfl o_1 (by decide) (Nat.le_of_ble_eq_true rfl) o_in o_co ?_
  refine b_aload_n rfl rfl rfl ?_
  refine b_bipush (v := nI 40) rfl rfl (by decide +kernel) ?_
  refine b_newa (q := (35, 0)) (tt := 0) (L := 40) (u := 7) hB rfl (by decide) wa_int rfl rfl rfl (by decide) (by show 344 + 0 * 0 = _; omega) (by rw [elk_tl (fun h => by cases h)]; exact (hE (35, 0) (by show _ ≤ 344 + 0 * 0; omega))) rfl (by decide) (by decide) (by decide) (by decide) ?_
  refine b_putF (ci := 1) (j := 1) rfl rfl f_1_9 rfl e_1_9 rfl (by decide) (by show 343 + 0 * 0 < _; omega) rfl rfl ?_
  refine b_aload_n rfl rfl rfl ?_
  refine b_bipush (v := nI 40) rfl rfl (by decide +kernel) ?_
  refine b_newa (q := (36, 0)) (tt := 0) (L := 40) (u := 7) hB rfl (by decide) wa_int rfl rfl rfl (by decide) (by show 345 + 0 * 0 = _; omega) (by rw [elk_tl (fun h => by cases h)]; exact (hE (36, 0) (by show _ ≤ 345 + 0 * 0; omega))) rfl (by decide) (by decide) (by decide) (by decide) ?_
  refine b_putF (ci := 1) (j := 2) rfl rfl f_1_15 rfl e_1_15 rfl (by decide) (by show 343 + 0 * 0 < _; omega) rfl rfl ?_
  refine b_aload_n rfl rfl rfl ?_
  refine b_bipush (v := nI 40) rfl rfl (by decide +kernel) ?_
  refine b_newa (q := (37, 0)) (tt := 0) (L := 40) (u := 7) hB rfl (by decide) wa_int rfl rfl rfl (by decide) (by show 346 + 0 * 0 = _; omega) (by rw [elk_tl (fun h => by cases h)]; exact (hE (37, 0) (by show _ ≤ 346 + 0 * 0; omega))) rfl (by decide) (by decide) (by decide) (by decide) ?_
  refine b_putF (ci := 1) (j := 3) rfl rfl f_1_18 rfl e_1_18 rfl (by decide) (by show 343 + 0 * 0 < _; omega) rfl rfl ?_
  refine b_aload_n rfl rfl rfl ?_
  refine b_aload_n rfl rfl rfl ?_
  refine b_putF (ci := 1) (j := 0) rfl rfl f_1_21 rfl e_1_21 rfl (by decide) (by show 343 + 0 * 0 < _; omega) rfl rfl ?_
  refine b_to (fun H h => h.drop (sp := .inl 1) rfl (fun j hj => ?_) h1) (b_vret rfl rfl rfl (by decide))
  match j, hj with
  | 0, _ => rfl
  | 1, _ => rfl
  | 2, _ => rfl
  | 3, _ => rfl
  | 4, _ => rfl
  | j + 5, hj => exact absurd hj (by show ¬ j + 5 < 5; omega)
