set_option maxHeartbeats 4000000 in
set_option maxRecDepth 20000 in
theorem c_i9 {G : Gd} {E : Ex} (hG : Gok G) (hB : Gbk G) (hE : Eok (348) E) (h1 : elk E (40, 0) = none) : Cb G mX9_init 2 [.ref (ga G (40, 0))] (Jb G (348) (((40, 0), fun j => defaultValue (ftyp 9 j)) :: E)) (Jb G (374) E) 671 := by
  refine cb_of jb_low hG okX9_init (by decide +kernel) rfl rfl (Nat.le_of_ble_eq_true rfl) ?_
  refine b_aload_n rfl rfl rfl ?_
  refine b_obj rfl rfl o_9 (by decide) (Nat.le_of_ble_eq_true rfl) o_in o_co ?_
  refine b_aload_n rfl rfl rfl ?_
  refine b_bipush (v := nI 40) rfl rfl (by decide +kernel) ?_
  refine b_newa (q := (41, 0)) (tt := 1) (L := 40) (u := 7) hB rfl (by decide) wa_long rfl rfl rfl (by decide) (by show 348 + 0 * 0 = _; omega) (by rw [elk_tl (fun h => by cases h)]; exact (hE (41, 0) (by show _ ≤ 348 + 0 * 0; omega))) rfl (by decide) (by decide) (by decide) (by decide) ?_
  refine b_putF (ci := 9) (j := 2) rfl rfl f_9_7 rfl e_9_7 rfl (by decide) (by show 347 + 0 * 0 < _; omega) rfl rfl ?_
  refine b_aload_n rfl rfl rfl ?_
  refine b_bipush (v := nI 12) rfl rfl (by decide +kernel) ?_
  refine b_newa (q := (42, 0)) (tt := 1) (L := 12) (u := 2) hB rfl (by decide) wa_long rfl rfl rfl (by decide) (by show 349 + 0 * 0 = _; omega) (by rw [elk_tl (fun h => by cases h)]; exact (hE (42, 0) (by show _ ≤ 349 + 0 * 0; omega))) rfl (by decide) (by decide) (by decide) (by decide) ?_
  refine b_putF (ci := 9) (j := 4) rfl rfl f_9_13 rfl e_9_13 rfl (by decide) (by show 347 + 0 * 0 < _; omega) rfl rfl ?_
  refine b_aload_n rfl rfl rfl ?_
  refine b_bipush (v := nI 12) rfl rfl (by decide +kernel) ?_
  refine b_newa (q := (43, 0)) (tt := 2) (L := 12) (u := 2) hB rfl (by decide) wa_boolean rfl rfl rfl (by decide) (by show 350 + 0 * 0 = _; omega) (by rw [elk_tl (fun h => by cases h)]; exact (hE (43, 0) (by show _ ≤ 350 + 0 * 0; omega))) rfl (by decide) (by decide) (by decide) (by decide) ?_
  refine b_putF (ci := 9) (j := 5) rfl rfl f_9_16 rfl e_9_16 rfl (by decide) (by show 347 + 0 * 0 < _; omega) rfl rfl ?_
  refine b_aload_n rfl rfl rfl ?_
  refine b_bipush (v := nI 12) rfl rfl (by decide +kernel) ?_
  refine b_newa (q := (44, 0)) (tt := 0) (L := 12) (u := 2) hB rfl (by decide) wa_int rfl rfl rfl (by decide) (by show 351 + 0 * 0 = _; omega) (by rw [elk_tl (fun h => by cases h)]; exact (hE (44, 0) (by show _ ≤ 351 + 0 * 0; omega))) rfl (by decide) (by decide) (by decide) (by decide) ?_
  refine b_putF (ci := 9) (j := 6) rfl rfl f_9_20 rfl e_9_20 rfl (by decide) (by show 347 + 0 * 0 < _; omega) rfl rfl ?_
  refine b_aload_n rfl rfl rfl ?_
  refine b_bipush (v := nI 36) rfl rfl (by decide +kernel) ?_
  refine b_newa (q := (45, 0)) (tt := 1) (L := 36) (u := 6) hB rfl (by decide) wa_long rfl rfl rfl (by decide) (by show 352 + 0 * 0 = _; omega) (by rw [elk_tl (fun h => by cases h)]; exact (hE (45, 0) (by show _ ≤ 352 + 0 * 0; omega))) rfl (by decide) (by decide) (by decide) (by decide) ?_
  refine b_putF (ci := 9) (j := 7) rfl rfl f_9_24 rfl e_9_24 rfl (by decide) (by show 347 + 0 * 0 < _; omega) rfl rfl ?_
  refine b_aload_n rfl rfl rfl ?_
  refine b_bipush (v := nI 40) rfl rfl (by decide +kernel) ?_
  refine b_newa (q := (46, 0)) (tt := 0) (L := 40) (u := 7) hB rfl (by decide) wa_int rfl rfl rfl (by decide) (by show 353 + 0 * 0 = _; omega) (by rw [elk_tl (fun h => by cases h)]; exact (hE (46, 0) (by show _ ≤ 353 + 0 * 0; omega))) rfl (by decide) (by decide) (by decide) (by decide) ?_
  refine b_putF (ci := 9) (j := 9) rfl rfl f_9_27 rfl e_9_27 rfl (by decide) (by show 347 + 0 * 0 < _; omega) rfl rfl ?_
  refine b_aload_n rfl rfl rfl ?_
  refine b_bipush (v := nI 40) rfl rfl (by decide +kernel) ?_
  refine b_newa (q := (47, 0)) (tt := 1) (L := 40) (u := 7) hB rfl (by decide) wa_long rfl rfl rfl (by decide) (by show 354 + 0 * 0 = _; omega) (by rw [elk_tl (fun h => by cases h)]; exact (hE (47, 0) (by show _ ≤ 354 + 0 * 0; omega))) rfl (by decide) (by decide) (by decide) (by decide) ?_
  refine b_putF (ci := 9) (j := 10) rfl rfl f_9_30 rfl e_9_30 rfl (by decide) (by show 347 + 0 * 0 < _; omega) rfl rfl ?_
  refine b_aload_n rfl rfl rfl ?_
  refine b_bipush (v := nI 40) rfl rfl (by decide +kernel) ?_
  refine b_newa (q := (48, 0)) (tt := 0) (L := 40) (u := 7) hB rfl (by decide) wa_int rfl rfl rfl (by decide) (by show 355 + 0 * 0 = _; omega) (by rw [elk_tl (fun h => by cases h)]; exact (hE (48, 0) (by show _ ≤ 355 + 0 * 0; omega))) rfl (by decide) (by decide) (by decide) (by decide) ?_
  refine b_putF (ci := 9) (j := 11) rfl rfl f_9_33 rfl e_9_33 rfl (by decide) (by show 347 + 0 * 0 < _; omega) rfl rfl ?_
  refine b_aload_n rfl rfl rfl ?_
  refine b_bipush (v := nI 40) rfl rfl (by decide +kernel) ?_
  refine b_newa (q := (49, 0)) (tt := 0) (L := 40) (u := 7) hB rfl (by decide) wa_int rfl rfl rfl (by decide) (by show 356 + 0 * 0 = _; omega) (by rw [elk_tl (fun h => by cases h)]; exact (hE (49, 0) (by show _ ≤ 356 + 0 * 0; omega))) rfl (by decide) (by decide) (by decide) (by decide) ?_
  refine b_putF (ci := 9) (j := 12) rfl rfl f_9_36 rfl e_9_36 rfl (by decide) (by show 347 + 0 * 0 < _; omega) rfl rfl ?_
  refine b_aload_n rfl rfl rfl ?_
  refine b_sipush (v := nI 320) rfl rfl (by decide +kernel) ?_
  refine b_newa (q := (50, 0)) (tt := 1) (L := 320) (u := 54) hB rfl (by decide) wa_long rfl rfl rfl (by decide) (by show 357 + 0 * 0 = _; omega) (by rw [elk_tl (fun h => by cases h)]; exact (hE (50, 0) (by show _ ≤ 357 + 0 * 0; omega))) rfl (by decide) (by decide) (by decide) (by decide) ?_
  refine b_putF (ci := 9) (j := 13) rfl rfl f_9_39 rfl e_9_39 rfl (by decide) (by show 347 + 0 * 0 < _; omega) rfl rfl ?_
  refine b_aload_n rfl rfl rfl ?_
  refine b_bipush (v := nI 40) rfl rfl (by decide +kernel) ?_
  refine b_newa (q := (51, 0)) (tt := 0) (L := 40) (u := 7) hB rfl (by decide) wa_int rfl rfl rfl (by decide) (by show 358 + 0 * 0 = _; omega) (by rw [elk_tl (fun h => by cases h)]; exact (hE (51, 0) (by show _ ≤ 358 + 0 * 0; omega))) rfl (by decide) (by decide) (by decide) (by decide) ?_
  refine b_putF (ci := 9) (j := 14) rfl rfl f_9_42 rfl e_9_42 rfl (by decide) (by show 347 + 0 * 0 < _; omega) rfl rfl ?_
  refine b_aload_n rfl rfl rfl ?_
  refine b_sipush (v := nI 240) rfl rfl (by decide +kernel) ?_
  refine b_newa (q := (52, 0)) (tt := 1) (L := 240) (u := 40) hB rfl (by decide) wa_long rfl rfl rfl (by decide) (by show 359 + 0 * 0 = _; omega) (by rw [elk_tl (fun h => by cases h)]; exact (hE (52, 0) (by show _ ≤ 359 + 0 * 0; omega))) rfl (by decide) (by decide) (by decide) (by decide) ?_
  refine b_putF (ci := 9) (j := 15) rfl rfl f_9_45 rfl e_9_45 rfl (by decide) (by show 347 + 0 * 0 < _; omega) rfl rfl ?_
  refine b_aload_n rfl rfl rfl ?_
  refine b_sipush (v := nI 240) rfl rfl (by decide +kernel) ?_
  refine b_newa (q := (53, 0)) (tt := 1) (L := 240) (u := 40) hB rfl (by decide) wa_long rfl rfl rfl (by decide) (by show 360 + 0 * 0 = _; omega) (by rw [elk_tl (fun h => by cases h)]; exact (hE (53, 0) (by show _ ≤ 360 + 0 * 0; omega))) rfl (by decide) (by decide) (by decide) (by decide) ?_
  refine b_putF (ci := 9) (j := 16) rfl rfl f_9_48 rfl e_9_48 rfl (by decide) (by show 347 + 0 * 0 < _; omega) rfl rfl ?_
  refine b_aload_n rfl rfl rfl ?_
  refine b_bipush (v := nI 7) rfl rfl (by decide +kernel) ?_
  refine b_newa (q := (54, 0)) (tt := 1) (L := 7) (u := 2) hB rfl (by decide) wa_long rfl rfl rfl (by decide) (by show 361 + 0 * 0 = _; omega) (by rw [elk_tl (fun h => by cases h)]; exact (hE (54, 0) (by show _ ≤ 361 + 0 * 0; omega))) rfl (by decide) (by decide) (by decide) (by decide) ?_
  refine b_putF (ci := 9) (j := 18) rfl rfl f_9_51 rfl e_9_51 rfl (by decide) (by show 347 + 0 * 0 < _; omega) rfl rfl ?_
  refine b_aload_n rfl rfl rfl ?_
  refine b_sipush (v := nI 600) rfl rfl (by decide +kernel) ?_
  refine b_newa (q := (55, 0)) (tt := 0) (L := 600) (u := 100) hB rfl (by decide) wa_int rfl rfl rfl (by decide) (by show 362 + 0 * 0 = _; omega) (by rw [elk_tl (fun h => by cases h)]; exact (hE (55, 0) (by show _ ≤ 362 + 0 * 0; omega))) rfl (by decide) (by decide) (by decide) (by decide) ?_
  refine b_putF (ci := 9) (j := 20) rfl rfl f_9_54 rfl e_9_54 rfl (by decide) (by show 347 + 0 * 0 < _; omega) rfl rfl ?_
  refine b_aload_n rfl rfl rfl ?_
  refine b_sipush (v := nI 620) rfl rfl (by decide +kernel) ?_
  refine b_newa (q := (56, 0)) (tt := 1) (L := 620) (u := 104) hB rfl (by decide) wa_long rfl rfl rfl (by decide) (by show 363 + 0 * 0 = _; omega) (by rw [elk_tl (fun h => by cases h)]; exact (hE (56, 0) (by show _ ≤ 363 + 0 * 0; omega))) rfl (by decide) (by decide) (by decide) (by decide) ?_
  refine b_putF (ci := 9) (j := 23) rfl rfl f_9_57 rfl e_9_57 rfl (by decide) (by show 347 + 0 * 0 < _; omega) rfl rfl ?_
  refine b_aload_n rfl rfl rfl ?_
  refine b_bipush (v := nI 80) rfl rfl (by decide +kernel) ?_
  refine b_newa (q := (57, 0)) (tt := 0) (L := 80) (u := 14) hB rfl (by decide) wa_int rfl rfl rfl (by decide) (by show 364 + 0 * 0 = _; omega) (by rw [elk_tl (fun h => by cases h)]; exact (hE (57, 0) (by show _ ≤ 364 + 0 * 0; omega))) rfl (by decide) (by decide) (by decide) (by decide) ?_
  refine b_putF (ci := 9) (j := 25) rfl rfl f_9_60 rfl e_9_60 rfl (by decide) (by show 347 + 0 * 0 < _; omega) rfl rfl ?_
  refine b_aload_n rfl rfl rfl ?_
  refine b_sipush (v := nI 620) rfl rfl (by decide +kernel) ?_
  refine b_newa (q := (58, 0)) (tt := 0) (L := 620) (u := 104) hB rfl (by decide) wa_int rfl rfl rfl (by decide) (by show 365 + 0 * 0 = _; omega) (by rw [elk_tl (fun h => by cases h)]; exact (hE (58, 0) (by show _ ≤ 365 + 0 * 0; omega))) rfl (by decide) (by decide) (by decide) (by decide) ?_
  refine b_putF (ci := 9) (j := 27) rfl rfl f_9_63 rfl e_9_63 rfl (by decide) (by show 347 + 0 * 0 < _; omega) rfl rfl ?_
  refine b_aload_n rfl rfl rfl ?_
  refine b_bipush (v := nI 13) rfl rfl (by decide +kernel) ?_
  refine b_newa (q := (59, 0)) (tt := 0) (L := 13) (u := 3) hB rfl (by decide) wa_int rfl rfl rfl (by decide) (by show 366 + 0 * 0 = _; omega) (by rw [elk_tl (fun h => by cases h)]; exact (hE (59, 0) (by show _ ≤ 366 + 0 * 0; omega))) rfl (by decide) (by decide) (by decide) (by decide) ?_
  refine b_putF (ci := 9) (j := 29) rfl rfl f_9_66 rfl e_9_66 rfl (by decide) (by show 347 + 0 * 0 < _; omega) rfl rfl ?_
  refine b_aload_n rfl rfl rfl ?_
  refine b_bipush (v := nI 13) rfl rfl (by decide +kernel) ?_
  refine b_newa (q := (60, 0)) (tt := 0) (L := 13) (u := 3) hB rfl (by decide) wa_int rfl rfl rfl (by decide) (by show 367 + 0 * 0 = _; omega) (by rw [elk_tl (fun h => by cases h)]; exact (hE (60, 0) (by show _ ≤ 367 + 0 * 0; omega))) rfl (by decide) (by decide) (by decide) (by decide) ?_
  refine b_putF (ci := 9) (j := 30) rfl rfl f_9_69 rfl e_9_69 rfl (by decide) (by show 347 + 0 * 0 < _; omega) rfl rfl ?_
  refine b_aload_n rfl rfl rfl ?_
  refine b_bipush (v := nI 13) rfl rfl (by decide +kernel) ?_
  refine b_newa (q := (61, 0)) (tt := 0) (L := 13) (u := 3) hB rfl (by decide) wa_int rfl rfl rfl (by decide) (by show 368 + 0 * 0 = _; omega) (by rw [elk_tl (fun h => by cases h)]; exact (hE (61, 0) (by show _ ≤ 368 + 0 * 0; omega))) rfl (by decide) (by decide) (by decide) (by decide) ?_
  refine b_putF (ci := 9) (j := 31) rfl rfl f_9_72 rfl e_9_72 rfl (by decide) (by show 347 + 0 * 0 < _; omega) rfl rfl ?_
  refine b_aload_n rfl rfl rfl ?_
  refine b_bipush (v := nI 13) rfl rfl (by decide +kernel) ?_
  refine b_newa (q := (62, 0)) (tt := 2) (L := 13) (u := 3) hB rfl (by decide) wa_boolean rfl rfl rfl (by decide) (by show 369 + 0 * 0 = _; omega) (by rw [elk_tl (fun h => by cases h)]; exact (hE (62, 0) (by show _ ≤ 369 + 0 * 0; omega))) rfl (by decide) (by decide) (by decide) (by decide) ?_
  refine b_putF (ci := 9) (j := 32) rfl rfl f_9_75 rfl e_9_75 rfl (by decide) (by show 347 + 0 * 0 < _; omega) rfl rfl ?_
  refine b_aload_n rfl rfl rfl ?_
  refine b_sipush (v := nI 700) rfl rfl (by decide +kernel) ?_
  refine b_newa (q := (63, 0)) (tt := 0) (L := 700) (u := 117) hB rfl (by decide) wa_int rfl rfl rfl (by decide) (by show 370 + 0 * 0 = _; omega) (by rw [elk_tl (fun h => by cases h)]; exact (hE (63, 0) (by show _ ≤ 370 + 0 * 0; omega))) rfl (by decide) (by decide) (by decide) (by decide) ?_
  refine b_putF (ci := 9) (j := 34) rfl rfl f_9_78 rfl e_9_78 rfl (by decide) (by show 347 + 0 * 0 < _; omega) rfl rfl ?_
  refine b_aload_n rfl rfl rfl ?_
  refine b_bipush (v := nI 40) rfl rfl (by decide +kernel) ?_
  refine b_newa (q := (64, 0)) (tt := 0) (L := 40) (u := 7) hB rfl (by decide) wa_int rfl rfl rfl (by decide) (by show 371 + 0 * 0 = _; omega) (by rw [elk_tl (fun h => by cases h)]; exact (hE (64, 0) (by show _ ≤ 371 + 0 * 0; omega))) rfl (by decide) (by decide) (by decide) (by decide) ?_
  refine b_putF (ci := 9) (j := 39) rfl rfl f_9_81 rfl e_9_81 rfl (by decide) (by show 347 + 0 * 0 < _; omega) rfl rfl ?_
  refine b_aload_n rfl rfl rfl ?_
  refine b_bipush (v := nI 40) rfl rfl (by decide +kernel) ?_
  refine b_newa (q := (65, 0)) (tt := 0) (L := 40) (u := 7) hB rfl (by decide) wa_int rfl rfl rfl (by decide) (by show 372 + 0 * 0 = _; omega) (by rw [elk_tl (fun h => by cases h)]; exact (hE (65, 0) (by show _ ≤ 372 + 0 * 0; omega))) rfl (by decide) (by decide) (by decide) (by decide) ?_
  refine b_putF (ci := 9) (j := 40) rfl rfl f_9_84 rfl e_9_84 rfl (by decide) (by show 347 + 0 * 0 < _; omega) rfl rfl ?_
  refine b_aload_n rfl rfl rfl ?_
  refine b_bipush (v := nI 40) rfl rfl (by decide +kernel) ?_
  refine b_newa (q := (66, 0)) (tt := 0) (L := 40) (u := 7) hB rfl (by decide) wa_int rfl rfl rfl (by decide) (by show 373 + 0 * 0 = _; omega) (by rw [elk_tl (fun h => by cases h)]; exact (hE (66, 0) (by show _ ≤ 373 + 0 * 0; omega))) rfl (by decide) (by decide) (by decide) (by decide) ?_
  refine b_putF (ci := 9) (j := 42) rfl rfl f_9_87 rfl e_9_87 rfl (by decide) (by show 347 + 0 * 0 < _; omega) rfl rfl ?_
  refine b_aload_n rfl rfl rfl ?_
  refine b_iconst (v := -1) rfl rfl (by decide +kernel) ?_
  refine b_put (ci := 9) (j := 21) rfl rfl f_9_90 rfl rfl (by decide) (by show 347 + 0 * 0 < _; omega) rfl rfl ?_
  refine b_aload_n rfl rfl rfl ?_
  refine b_iconstN (b := 1) rfl rfl ?_
  refine b_put (ci := 9) (j := 17) rfl rfl f_9_94 rfl rfl (by decide) (by show 347 + 0 * 0 < _; omega) rfl rfl ?_
  refine b_to (fun H h => h.drop (sp := .inl 9) rfl (fun j hj => ?_) h1) (b_vret rfl rfl rfl (by decide))
  match j, hj with
  | 0, _ => rfl
  | 1, _ => rfl
  | 2, _ => rfl
  | 3, _ => rfl
  | 4, _ => rfl
  | 5, _ => rfl
  | 6, _ => rfl
  | 7, _ => rfl
  | 8, _ => rfl
  | 9, _ => rfl
  | 10, _ => rfl
  | 11, _ => rfl
  | 12, _ => rfl
  | 13, _ => rfl
  | 14, _ => rfl
  | 15, _ => rfl
  | 16, _ => rfl
  | 17, _ => rfl
  | 18, _ => rfl
  | 19, _ => rfl
  | 20, _ => rfl
  | 21, _ => rfl
  | 22, _ => rfl
  | 23, _ => rfl
  | 24, _ => rfl
  | 25, _ => rfl
  | 26, _ => rfl
  | 27, _ => rfl
  | 28, _ => rfl
  | 29, _ => rfl
  | 30, _ => rfl
  | 31, _ => rfl
  | 32, _ => rfl
  | 33, _ => rfl
  | 34, _ => rfl
  | 35, _ => rfl
  | 36, _ => rfl
  | 37, _ => rfl
  | 38, _ => rfl
  | 39, _ => rfl
  | 40, _ => rfl
  | 41, _ => rfl
  | 42, _ => rfl
  | j + 43, hj => exact absurd hj (by show ¬ j + 43 < 43; omega)
