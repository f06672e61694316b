theorem nI_ofInt {n : Int} (h : 0 ≤ n) : Int32.ofInt n = nI n.toNat := by
  obtain ⟨k, rfl⟩ := Int.eq_ofNat_of_zero_le h
  rfl
theorem lgc_eq (x y : Int64) : lg_cmp x y = 0 ↔ x = y := lg_cmp_eq x y
theorem lgc_lt (x y : Int64) : lg_cmp x y < 0 ↔ x < y := lg_cmp_lt x y
theorem lgc_le (x y : Int64) : lg_cmp x y ≤ 0 ↔ x ≤ y := lg_cmp_le x y

section XR
variable {G : Gd} {y : Mt} {d kf : Nat} {Z : Zt} {k pc n t : Nat} {lv lv' : List (Nat × Value)} {st : List Value} {M : Mm}
theorem x_iload_n {i : Fin 4} {x : Int32} (hi : tget (yT y) pc = some (.iload_n i, n, t)) (hn : pc + 1 = n) (hl : tget lv (i : Nat) = some (.int x)) (kk : Fr G y d kf Z k n lv (.int x :: st) M) : Fr G y d kf Z k pc lv (st) M := by
  intro p e R s m args below meth c H locs ls C hx hH hL
  obtain ⟨hg, hok, ha, hb, hret, hlk, hml, hown, hwm, -⟩ := id C
  have hd := (hok.get hi).1
  subst hn
  rw [Nat.add_sub_cancel_left] at hd
  exact lv_iload_n ha hb hd rfl (lv_of hL hl) (kk p e R s m args below meth c H locs ls C hx hH hL)
theorem x_iload {i : Nat} {x : Int32} (hi : tget (yT y) pc = some (.iload i, n, t)) (hn : pc + 2 = n) (hl : tget lv i = some (.int x)) (kk : Fr G y d kf Z k n lv (.int x :: st) M) : Fr G y d kf Z k pc lv (st) M := by
  intro p e R s m args below meth c H locs ls C hx hH hL
  obtain ⟨hg, hok, ha, hb, hret, hlk, hml, hown, hwm, -⟩ := id C
  have hd := (hok.get hi).1
  subst hn
  rw [Nat.add_sub_cancel_left] at hd
  exact lv_iload ha hb hd (lv_of hL hl) (kk p e R s m args below meth c H locs ls C hx hH hL)
theorem x_lload_n {i : Fin 4} {x : Int64} (hi : tget (yT y) pc = some (.lload_n i, n, t)) (hn : pc + 1 = n) (hl : tget lv (i : Nat) = some (.long x)) (kk : Fr G y d kf Z k n lv (.long x :: st) M) : Fr G y d kf Z k pc lv (st) M := by
  intro p e R s m args below meth c H locs ls C hx hH hL
  obtain ⟨hg, hok, ha, hb, hret, hlk, hml, hown, hwm, -⟩ := id C
  have hd := (hok.get hi).1
  subst hn
  rw [Nat.add_sub_cancel_left] at hd
  exact lv_lload_n ha hb hd rfl (lv_of hL hl) (kk p e R s m args below meth c H locs ls C hx hH hL)
theorem x_lload {i : Nat} {x : Int64} (hi : tget (yT y) pc = some (.lload i, n, t)) (hn : pc + 2 = n) (hl : tget lv i = some (.long x)) (kk : Fr G y d kf Z k n lv (.long x :: st) M) : Fr G y d kf Z k pc lv (st) M := by
  intro p e R s m args below meth c H locs ls C hx hH hL
  obtain ⟨hg, hok, ha, hb, hret, hlk, hml, hown, hwm, -⟩ := id C
  have hd := (hok.get hi).1
  subst hn
  rw [Nat.add_sub_cancel_left] at hd
  exact lv_lload ha hb hd (lv_of hL hl) (kk p e R s m args below meth c H locs ls C hx hH hL)
theorem x_aload_n {i : Fin 4} {x : Nat} (hi : tget (yT y) pc = some (.aload_n i, n, t)) (hn : pc + 1 = n) (hl : tget lv (i : Nat) = some (.ref x)) (kk : Fr G y d kf Z k n lv (.ref x :: st) M) : Fr G y d kf Z k pc lv (st) M := by
  intro p e R s m args below meth c H locs ls C hx hH hL
  obtain ⟨hg, hok, ha, hb, hret, hlk, hml, hown, hwm, -⟩ := id C
  have hd := (hok.get hi).1
  subst hn
  rw [Nat.add_sub_cancel_left] at hd
  exact lv_aload_n ha hb hd rfl (lv_of hL hl) (kk p e R s m args below meth c H locs ls C hx hH hL)
theorem x_aload {i : Nat} {x : Nat} (hi : tget (yT y) pc = some (.aload i, n, t)) (hn : pc + 2 = n) (hl : tget lv i = some (.ref x)) (kk : Fr G y d kf Z k n lv (.ref x :: st) M) : Fr G y d kf Z k pc lv (st) M := by
  intro p e R s m args below meth c H locs ls C hx hH hL
  obtain ⟨hg, hok, ha, hb, hret, hlk, hml, hown, hwm, -⟩ := id C
  have hd := (hok.get hi).1
  subst hn
  rw [Nat.add_sub_cancel_left] at hd
  exact lv_aload ha hb hd (lv_of hL hl) (kk p e R s m args below meth c H locs ls C hx hH hL)
theorem x_istore_n {i : Fin 4} {x : Int32} (hi : tget (yT y) pc = some (.istore_n i, n, t)) (hn : pc + 1 = n) (hb2 : Nat.blt (i : Nat) (yL y) = true) (hs : lins (.int x) (i : Nat) lv = some lv') (kk : Fr G y d kf Z k n lv' st M) : Fr G y d kf Z k pc lv (.int x :: st) M := by
  intro p e R s m args below meth c H locs ls C hx hH hL
  obtain ⟨hg, hok, ha, hb, hret, hlk, hml, hown, hwm, -⟩ := id C
  have hd := (hok.get hi).1
  subst hn
  rw [Nat.add_sub_cancel_left] at hd
  refine lv_istore_n ha hb hd rfl hL (Nat.le_of_ble_eq_true hb2) rfl (fun ls' hL' => ?_)
  refine kk p e R s m args below meth c H locs ls' C hx hH (lv_weak hL' fun q hq => ?_)
  rcases lins_mem hs q hq with rfl | ⟨h1, h2⟩
  · exact List.mem_cons_self
  · exact List.mem_cons_of_mem _ (List.mem_filter.mpr ⟨h1, lflt1 h2⟩)
theorem x_istore {i : Nat} {x : Int32} (hi : tget (yT y) pc = some (.istore i, n, t)) (hn : pc + 2 = n) (hb2 : Nat.blt i (yL y) = true) (hs : lins (.int x) i lv = some lv') (kk : Fr G y d kf Z k n lv' st M) : Fr G y d kf Z k pc lv (.int x :: st) M := by
  intro p e R s m args below meth c H locs ls C hx hH hL
  obtain ⟨hg, hok, ha, hb, hret, hlk, hml, hown, hwm, -⟩ := id C
  have hd := (hok.get hi).1
  subst hn
  rw [Nat.add_sub_cancel_left] at hd
  refine lv_istore ha hb hd hL (Nat.le_of_ble_eq_true hb2) rfl (fun ls' hL' => ?_)
  refine kk p e R s m args below meth c H locs ls' C hx hH (lv_weak hL' fun q hq => ?_)
  rcases lins_mem hs q hq with rfl | ⟨h1, h2⟩
  · exact List.mem_cons_self
  · exact List.mem_cons_of_mem _ (List.mem_filter.mpr ⟨h1, lflt1 h2⟩)
theorem x_lstore_n {i : Fin 4} {x : Int64} (hi : tget (yT y) pc = some (.lstore_n i, n, t)) (hn : pc + 1 = n) (hb2 : Nat.blt ((i : Nat) + 1) (yL y) = true) (hs : lins (.long x) (i : Nat) lv = some lv') (kk : Fr G y d kf Z k n lv' st M) : Fr G y d kf Z k pc lv (.long x :: st) M := by
  intro p e R s m args below meth c H locs ls C hx hH hL
  obtain ⟨hg, hok, ha, hb, hret, hlk, hml, hown, hwm, -⟩ := id C
  have hd := (hok.get hi).1
  subst hn
  rw [Nat.add_sub_cancel_left] at hd
  refine lv_lstore_n ha hb hd rfl hL (Nat.le_of_ble_eq_true hb2) rfl (fun ls' hL' => ?_)
  refine kk p e R s m args below meth c H locs ls' C hx hH (lv_weak hL' fun q hq => ?_)
  rcases lins_mem hs q hq with rfl | ⟨h1, h2⟩
  · exact List.mem_cons_self
  · exact List.mem_cons_of_mem _ (List.mem_filter.mpr ⟨h1, lflt2 h2⟩)
theorem x_lstore {i : Nat} {x : Int64} (hi : tget (yT y) pc = some (.lstore i, n, t)) (hn : pc + 2 = n) (hb2 : Nat.blt (i + 1) (yL y) = true) (hs : lins (.long x) i lv = some lv') (kk : Fr G y d kf Z k n lv' st M) : Fr G y d kf Z k pc lv (.long x :: st) M := by
  intro p e R s m args below meth c H locs ls C hx hH hL
  obtain ⟨hg, hok, ha, hb, hret, hlk, hml, hown, hwm, -⟩ := id C
  have hd := (hok.get hi).1
  subst hn
  rw [Nat.add_sub_cancel_left] at hd
  refine lv_lstore ha hb hd hL (Nat.le_of_ble_eq_true hb2) rfl (fun ls' hL' => ?_)
  refine kk p e R s m args below meth c H locs ls' C hx hH (lv_weak hL' fun q hq => ?_)
  rcases lins_mem hs q hq with rfl | ⟨h1, h2⟩
  · exact List.mem_cons_self
  · exact List.mem_cons_of_mem _ (List.mem_filter.mpr ⟨h1, lflt2 h2⟩)
theorem x_astore_n {i : Fin 4} {x : Nat} (hi : tget (yT y) pc = some (.astore_n i, n, t)) (hn : pc + 1 = n) (hb2 : Nat.blt (i : Nat) (yL y) = true) (hs : lins (.ref x) (i : Nat) lv = some lv') (kk : Fr G y d kf Z k n lv' st M) : Fr G y d kf Z k pc lv (.ref x :: st) M := by
  intro p e R s m args below meth c H locs ls C hx hH hL
  obtain ⟨hg, hok, ha, hb, hret, hlk, hml, hown, hwm, -⟩ := id C
  have hd := (hok.get hi).1
  subst hn
  rw [Nat.add_sub_cancel_left] at hd
  refine lv_astore_n ha hb hd rfl hL (Nat.le_of_ble_eq_true hb2) rfl (fun ls' hL' => ?_)
  refine kk p e R s m args below meth c H locs ls' C hx hH (lv_weak hL' fun q hq => ?_)
  rcases lins_mem hs q hq with rfl | ⟨h1, h2⟩
  · exact List.mem_cons_self
  · exact List.mem_cons_of_mem _ (List.mem_filter.mpr ⟨h1, lflt1 h2⟩)
theorem x_astore {i : Nat} {x : Nat} (hi : tget (yT y) pc = some (.astore i, n, t)) (hn : pc + 2 = n) (hb2 : Nat.blt i (yL y) = true) (hs : lins (.ref x) i lv = some lv') (kk : Fr G y d kf Z k n lv' st M) : Fr G y d kf Z k pc lv (.ref x :: st) M := by
  intro p e R s m args below meth c H locs ls C hx hH hL
  obtain ⟨hg, hok, ha, hb, hret, hlk, hml, hown, hwm, -⟩ := id C
  have hd := (hok.get hi).1
  subst hn
  rw [Nat.add_sub_cancel_left] at hd
  refine lv_astore ha hb hd hL (Nat.le_of_ble_eq_true hb2) rfl (fun ls' hL' => ?_)
  refine kk p e R s m args below meth c H locs ls' C hx hH (lv_weak hL' fun q hq => ?_)
  rcases lins_mem hs q hq with rfl | ⟨h1, h2⟩
  · exact List.mem_cons_self
  · exact List.mem_cons_of_mem _ (List.mem_filter.mpr ⟨h1, lflt1 h2⟩)
theorem x_iinc {i : Nat} {b : Int} {x v : Int32} (hi : tget (yT y) pc = some (.iinc i b, n, t)) (hn : pc + 3 = n) (hl : tget lv i = some (.int x)) (hv : x + Int32.ofInt b = v) (hb2 : Nat.blt i (yL y) = true) (hs : lins (.int v) i lv = some lv') (kk : Fr G y d kf Z k n lv' st M) : Fr G y d kf Z k pc lv st M := by
  intro p e R s m args below meth c H locs ls C hx hH hL
  obtain ⟨hg, hok, ha, hb, hret, hlk, hml, hown, hwm, -⟩ := id C
  have hd := (hok.get hi).1
  subst hn
  rw [Nat.add_sub_cancel_left] at hd
  obtain ⟨kq, hkq⟩ := List.getElem?_of_mem (tget_mem hl)
  refine lv_iinc ha hb hd hL hkq hv (Nat.le_of_ble_eq_true hb2) rfl (fun ls' hL' => ?_)
  refine kk p e R s m args below meth c H locs ls' C hx hH (lv_weak hL' fun q hq => ?_)
  rcases lins_mem hs q hq with rfl | ⟨h1, h2⟩
  · exact List.mem_cons_self
  · exact List.mem_cons_of_mem _ (List.mem_filter.mpr ⟨h1, lflt1 h2⟩)
theorem x_iincN {i a b : Nat} (hi : tget (yT y) pc = some (.iinc i (b : Int), n, t)) (hn : pc + 3 = n) (hl : tget lv i = some (.int (nI a))) (hb2 : Nat.blt i (yL y) = true) (hs : lins (.int (nI (a + b))) i lv = some lv') (kk : Fr G y d kf Z k n lv' st M) : Fr G y d kf Z k pc lv st M :=
  x_iinc hi hn hl (nI_add a b) hb2 hs kk
theorem x_iconst {b : Int} {v : Int32} (hi : tget (yT y) pc = some (.iconst b, n, t)) (hn : pc + 1 = n) (hv : Int32.ofInt b = v) (kk : Fr G y d kf Z k n lv (.int v :: st) M) : Fr G y d kf Z k pc lv (st) M := by
  intro p e R s m args below meth c H locs ls C hx hH hL
  obtain ⟨hg, hok, ha, hb, hret, hlk, hml, hown, hwm, -⟩ := id C
  have hd := (hok.get hi).1
  subst hn
  rw [Nat.add_sub_cancel_left] at hd
  exact lv_iconst ha hb hd hv (kk p e R s m args below meth c H locs ls C hx hH hL)
theorem x_iconstN {b : Nat} (hi : tget (yT y) pc = some (.iconst (b : Int), n, t)) (hn : pc + 1 = n)  (kk : Fr G y d kf Z k n lv (.int (nI b) :: st) M) : Fr G y d kf Z k pc lv (st) M := by
  intro p e R s m args below meth c H locs ls C hx hH hL
  obtain ⟨hg, hok, ha, hb, hret, hlk, hml, hown, hwm, -⟩ := id C
  have hd := (hok.get hi).1
  subst hn
  rw [Nat.add_sub_cancel_left] at hd
  exact lv_iconst (v := nI b) ha hb hd rfl (kk p e R s m args below meth c H locs ls C hx hH hL)
theorem x_bipush {b : Int} {v : Int32} (hi : tget (yT y) pc = some (.bipush b, n, t)) (hn : pc + 2 = n) (hv : (Int8.ofInt b).toInt32 = v) (kk : Fr G y d kf Z k n lv (.int v :: st) M) : Fr G y d kf Z k pc lv (st) M := by
  intro p e R s m args below meth c H locs ls C hx hH hL
  obtain ⟨hg, hok, ha, hb, hret, hlk, hml, hown, hwm, -⟩ := id C
  have hd := (hok.get hi).1
  subst hn
  rw [Nat.add_sub_cancel_left] at hd
  exact lv_bipush ha hb hd hv (kk p e R s m args below meth c H locs ls C hx hH hL)
theorem x_sipush {b : Int} {v : Int32} (hi : tget (yT y) pc = some (.sipush b, n, t)) (hn : pc + 3 = n) (hv : (Int16.ofInt b).toInt32 = v) (kk : Fr G y d kf Z k n lv (.int v :: st) M) : Fr G y d kf Z k pc lv (st) M := by
  intro p e R s m args below meth c H locs ls C hx hH hL
  obtain ⟨hg, hok, ha, hb, hret, hlk, hml, hown, hwm, -⟩ := id C
  have hd := (hok.get hi).1
  subst hn
  rw [Nat.add_sub_cancel_left] at hd
  exact lv_sipush ha hb hd hv (kk p e R s m args below meth c H locs ls C hx hH hL)
theorem x_lconst {b : Fin 2} {v : Int64} (hi : tget (yT y) pc = some (.lconst b, n, t)) (hn : pc + 1 = n) (hv : Int64.ofNat (b : Nat) = v) (kk : Fr G y d kf Z k n lv (.long v :: st) M) : Fr G y d kf Z k pc lv (st) M := by
  intro p e R s m args below meth c H locs ls C hx hH hL
  obtain ⟨hg, hok, ha, hb, hret, hlk, hml, hown, hwm, -⟩ := id C
  have hd := (hok.get hi).1
  subst hn
  rw [Nat.add_sub_cancel_left] at hd
  exact lv_lconst ha hb hd hv (kk p e R s m args below meth c H locs ls C hx hH hL)
theorem x_ldc {b : Nat} {v : Int32} (hi : tget (yT y) pc = some (.ldc b, n, t)) (hn : pc + 2 = n) (hw : Cond.constant (cnm (yC y)) b v ∈ lw_tbl) (kk : Fr G y d kf Z k n lv (.int v :: st) M) : Fr G y d kf Z k pc lv (st) M := by
  intro p e R s m args below meth c H locs ls C hx hH hL
  obtain ⟨hg, hok, ha, hb, hret, hlk, hml, hown, hwm, -⟩ := id C
  have hd := (hok.get hi).1
  subst hn
  rw [Nat.add_sub_cancel_left] at hd
  exact lv_ldc ha hb hown (hg.1 _ hw rfl args s hwm) hd (kk p e R s m args below meth c H locs ls C hx hH hL)
theorem x_ldcw {b : Nat} {v : Int32} (hi : tget (yT y) pc = some (.ldc_w b, n, t)) (hn : pc + 3 = n) (hw : Cond.constant (cnm (yC y)) b v ∈ lw_tbl) (kk : Fr G y d kf Z k n lv (.int v :: st) M) : Fr G y d kf Z k pc lv (st) M := by
  intro p e R s m args below meth c H locs ls C hx hH hL
  obtain ⟨hg, hok, ha, hb, hret, hlk, hml, hown, hwm, -⟩ := id C
  have hd := (hok.get hi).1
  subst hn
  rw [Nat.add_sub_cancel_left] at hd
  exact lv_ldcw ha hb hown (hg.1 _ hw rfl args s hwm) hd (kk p e R s m args below meth c H locs ls C hx hH hL)
theorem x_ldc2 {b : Nat} {v : Int64} (hi : tget (yT y) pc = some (.ldc2_w b, n, t)) (hn : pc + 3 = n) (hw : Cond.constantLong (cnm (yC y)) b v ∈ lw_tbl) (kk : Fr G y d kf Z k n lv (.long v :: st) M) : Fr G y d kf Z k pc lv (st) M := by
  intro p e R s m args below meth c H locs ls C hx hH hL
  obtain ⟨hg, hok, ha, hb, hret, hlk, hml, hown, hwm, -⟩ := id C
  have hd := (hok.get hi).1
  subst hn
  rw [Nat.add_sub_cancel_left] at hd
  exact lv_ldc2 ha hb hown (hg.1 _ hw rfl args s hwm) hd (kk p e R s m args below meth c H locs ls C hx hH hL)
theorem x_iadd {x z : Int32} (hi : tget (yT y) pc = some (.iadd, n, t)) (hn : pc + 1 = n)  (kk : Fr G y d kf Z k n lv (.int (x + z) :: st) M) : Fr G y d kf Z k pc lv (.int z :: .int x :: st) M := by
  intro p e R s m args below meth c H locs ls C hx hH hL
  obtain ⟨hg, hok, ha, hb, hret, hlk, hml, hown, hwm, -⟩ := id C
  have hd := (hok.get hi).1
  subst hn
  rw [Nat.add_sub_cancel_left] at hd
  exact lv_iadd ha hb hd (kk p e R s m args below meth c H locs ls C hx hH hL)
theorem x_isub {x z : Int32} (hi : tget (yT y) pc = some (.isub, n, t)) (hn : pc + 1 = n)  (kk : Fr G y d kf Z k n lv (.int (x - z) :: st) M) : Fr G y d kf Z k pc lv (.int z :: .int x :: st) M := by
  intro p e R s m args below meth c H locs ls C hx hH hL
  obtain ⟨hg, hok, ha, hb, hret, hlk, hml, hown, hwm, -⟩ := id C
  have hd := (hok.get hi).1
  subst hn
  rw [Nat.add_sub_cancel_left] at hd
  exact lv_isub ha hb hd (kk p e R s m args below meth c H locs ls C hx hH hL)
theorem x_imul {x z : Int32} (hi : tget (yT y) pc = some (.imul, n, t)) (hn : pc + 1 = n)  (kk : Fr G y d kf Z k n lv (.int (x * z) :: st) M) : Fr G y d kf Z k pc lv (.int z :: .int x :: st) M := by
  intro p e R s m args below meth c H locs ls C hx hH hL
  obtain ⟨hg, hok, ha, hb, hret, hlk, hml, hown, hwm, -⟩ := id C
  have hd := (hok.get hi).1
  subst hn
  rw [Nat.add_sub_cancel_left] at hd
  exact lv_imul ha hb hd (kk p e R s m args below meth c H locs ls C hx hH hL)
theorem x_iand {x z : Int32} (hi : tget (yT y) pc = some (.iand, n, t)) (hn : pc + 1 = n)  (kk : Fr G y d kf Z k n lv (.int (x &&& z) :: st) M) : Fr G y d kf Z k pc lv (.int z :: .int x :: st) M := by
  intro p e R s m args below meth c H locs ls C hx hH hL
  obtain ⟨hg, hok, ha, hb, hret, hlk, hml, hown, hwm, -⟩ := id C
  have hd := (hok.get hi).1
  subst hn
  rw [Nat.add_sub_cancel_left] at hd
  exact lv_iand ha hb hd (kk p e R s m args below meth c H locs ls C hx hH hL)
theorem x_ior {x z : Int32} (hi : tget (yT y) pc = some (.ior, n, t)) (hn : pc + 1 = n)  (kk : Fr G y d kf Z k n lv (.int (x ||| z) :: st) M) : Fr G y d kf Z k pc lv (.int z :: .int x :: st) M := by
  intro p e R s m args below meth c H locs ls C hx hH hL
  obtain ⟨hg, hok, ha, hb, hret, hlk, hml, hown, hwm, -⟩ := id C
  have hd := (hok.get hi).1
  subst hn
  rw [Nat.add_sub_cancel_left] at hd
  exact lv_ior ha hb hd (kk p e R s m args below meth c H locs ls C hx hH hL)
theorem x_ishl {x z : Int32} (hi : tget (yT y) pc = some (.ishl, n, t)) (hn : pc + 1 = n)  (kk : Fr G y d kf Z k n lv (.int (x <<< (z &&& 31)) :: st) M) : Fr G y d kf Z k pc lv (.int z :: .int x :: st) M := by
  intro p e R s m args below meth c H locs ls C hx hH hL
  obtain ⟨hg, hok, ha, hb, hret, hlk, hml, hown, hwm, -⟩ := id C
  have hd := (hok.get hi).1
  subst hn
  rw [Nat.add_sub_cancel_left] at hd
  exact lv_ishl ha hb hd (kk p e R s m args below meth c H locs ls C hx hH hL)
theorem x_ishr {x z : Int32} (hi : tget (yT y) pc = some (.ishr, n, t)) (hn : pc + 1 = n)  (kk : Fr G y d kf Z k n lv (.int (x >>> (z &&& 31)) :: st) M) : Fr G y d kf Z k pc lv (.int z :: .int x :: st) M := by
  intro p e R s m args below meth c H locs ls C hx hH hL
  obtain ⟨hg, hok, ha, hb, hret, hlk, hml, hown, hwm, -⟩ := id C
  have hd := (hok.get hi).1
  subst hn
  rw [Nat.add_sub_cancel_left] at hd
  exact lv_ishr ha hb hd (kk p e R s m args below meth c H locs ls C hx hH hL)
theorem x_idiv {x z : Int32} (hi : tget (yT y) pc = some (.idiv, n, t)) (hn : pc + 1 = n) (hz : ¬ z = 0) (kk : Fr G y d kf Z k n lv (.int (x / z) :: st) M) : Fr G y d kf Z k pc lv (.int z :: .int x :: st) M := by
  intro p e R s m args below meth c H locs ls C hx hH hL
  obtain ⟨hg, hok, ha, hb, hret, hlk, hml, hown, hwm, -⟩ := id C
  have hd := (hok.get hi).1
  subst hn
  rw [Nat.add_sub_cancel_left] at hd
  exact lv_idiv ha hb hd hz (kk p e R s m args below meth c H locs ls C hx hH hL)
theorem x_irem {x z : Int32} (hi : tget (yT y) pc = some (.irem, n, t)) (hn : pc + 1 = n) (hz : ¬ z = 0) (kk : Fr G y d kf Z k n lv (.int (x - x / z * z) :: st) M) : Fr G y d kf Z k pc lv (.int z :: .int x :: st) M := by
  intro p e R s m args below meth c H locs ls C hx hH hL
  obtain ⟨hg, hok, ha, hb, hret, hlk, hml, hown, hwm, -⟩ := id C
  have hd := (hok.get hi).1
  subst hn
  rw [Nat.add_sub_cancel_left] at hd
  exact lv_irem ha hb hd hz (kk p e R s m args below meth c H locs ls C hx hH hL)
theorem x_ladd {x z : Int64} (hi : tget (yT y) pc = some (.ladd, n, t)) (hn : pc + 1 = n)  (kk : Fr G y d kf Z k n lv (.long (x + z) :: st) M) : Fr G y d kf Z k pc lv (.long z :: .long x :: st) M := by
  intro p e R s m args below meth c H locs ls C hx hH hL
  obtain ⟨hg, hok, ha, hb, hret, hlk, hml, hown, hwm, -⟩ := id C
  have hd := (hok.get hi).1
  subst hn
  rw [Nat.add_sub_cancel_left] at hd
  exact lv_ladd ha hb hd (kk p e R s m args below meth c H locs ls C hx hH hL)
theorem x_lmul {x z : Int64} (hi : tget (yT y) pc = some (.lmul, n, t)) (hn : pc + 1 = n)  (kk : Fr G y d kf Z k n lv (.long (x * z) :: st) M) : Fr G y d kf Z k pc lv (.long z :: .long x :: st) M := by
  intro p e R s m args below meth c H locs ls C hx hH hL
  obtain ⟨hg, hok, ha, hb, hret, hlk, hml, hown, hwm, -⟩ := id C
  have hd := (hok.get hi).1
  subst hn
  rw [Nat.add_sub_cancel_left] at hd
  exact lv_lmul ha hb hd (kk p e R s m args below meth c H locs ls C hx hH hL)
theorem x_land {x z : Int64} (hi : tget (yT y) pc = some (.land, n, t)) (hn : pc + 1 = n)  (kk : Fr G y d kf Z k n lv (.long (x &&& z) :: st) M) : Fr G y d kf Z k pc lv (.long z :: .long x :: st) M := by
  intro p e R s m args below meth c H locs ls C hx hH hL
  obtain ⟨hg, hok, ha, hb, hret, hlk, hml, hown, hwm, -⟩ := id C
  have hd := (hok.get hi).1
  subst hn
  rw [Nat.add_sub_cancel_left] at hd
  exact lv_land ha hb hd (kk p e R s m args below meth c H locs ls C hx hH hL)
theorem x_lor {x z : Int64} (hi : tget (yT y) pc = some (.lor, n, t)) (hn : pc + 1 = n)  (kk : Fr G y d kf Z k n lv (.long (x ||| z) :: st) M) : Fr G y d kf Z k pc lv (.long z :: .long x :: st) M := by
  intro p e R s m args below meth c H locs ls C hx hH hL
  obtain ⟨hg, hok, ha, hb, hret, hlk, hml, hown, hwm, -⟩ := id C
  have hd := (hok.get hi).1
  subst hn
  rw [Nat.add_sub_cancel_left] at hd
  exact lv_lor ha hb hd (kk p e R s m args below meth c H locs ls C hx hH hL)
theorem x_lshl {x : Int64} {z : Int32} (hi : tget (yT y) pc = some (.lshl, n, t)) (hn : pc + 1 = n)  (kk : Fr G y d kf Z k n lv (.long (x <<< (z.toInt64 &&& 63)) :: st) M) : Fr G y d kf Z k pc lv (.int z :: .long x :: st) M := by
  intro p e R s m args below meth c H locs ls C hx hH hL
  obtain ⟨hg, hok, ha, hb, hret, hlk, hml, hown, hwm, -⟩ := id C
  have hd := (hok.get hi).1
  subst hn
  rw [Nat.add_sub_cancel_left] at hd
  exact lv_lshl ha hb hd rfl (kk p e R s m args below meth c H locs ls C hx hH hL)
theorem x_lshr {x : Int64} {z : Int32} (hi : tget (yT y) pc = some (.lshr, n, t)) (hn : pc + 1 = n)  (kk : Fr G y d kf Z k n lv (.long (x >>> (z.toInt64 &&& 63)) :: st) M) : Fr G y d kf Z k pc lv (.int z :: .long x :: st) M := by
  intro p e R s m args below meth c H locs ls C hx hH hL
  obtain ⟨hg, hok, ha, hb, hret, hlk, hml, hown, hwm, -⟩ := id C
  have hd := (hok.get hi).1
  subst hn
  rw [Nat.add_sub_cancel_left] at hd
  exact lv_lshr ha hb hd rfl (kk p e R s m args below meth c H locs ls C hx hH hL)
theorem x_lushr {x : Int64} {z : Int32} (hi : tget (yT y) pc = some (.lushr, n, t)) (hn : pc + 1 = n)  (kk : Fr G y d kf Z k n lv (.long ((x.toUInt64 >>> (z.toInt64.toUInt64 &&& Int64.toUInt64 63)).toInt64) :: st) M) : Fr G y d kf Z k pc lv (.int z :: .long x :: st) M := by
  intro p e R s m args below meth c H locs ls C hx hH hL
  obtain ⟨hg, hok, ha, hb, hret, hlk, hml, hown, hwm, -⟩ := id C
  have hd := (hok.get hi).1
  subst hn
  rw [Nat.add_sub_cancel_left] at hd
  exact lv_lushr ha hb hd rfl (kk p e R s m args below meth c H locs ls C hx hH hL)
theorem x_i2l {x : Int32} (hi : tget (yT y) pc = some (.i2l, n, t)) (hn : pc + 1 = n)  (kk : Fr G y d kf Z k n lv (.long x.toInt64 :: st) M) : Fr G y d kf Z k pc lv (.int x :: st) M := by
  intro p e R s m args below meth c H locs ls C hx hH hL
  obtain ⟨hg, hok, ha, hb, hret, hlk, hml, hown, hwm, -⟩ := id C
  have hd := (hok.get hi).1
  subst hn
  rw [Nat.add_sub_cancel_left] at hd
  exact lv_i2l ha hb hd rfl (kk p e R s m args below meth c H locs ls C hx hH hL)
theorem x_l2i {x : Int64} (hi : tget (yT y) pc = some (.l2i, n, t)) (hn : pc + 1 = n)  (kk : Fr G y d kf Z k n lv (.int x.toInt32 :: st) M) : Fr G y d kf Z k pc lv (.long x :: st) M := by
  intro p e R s m args below meth c H locs ls C hx hH hL
  obtain ⟨hg, hok, ha, hb, hret, hlk, hml, hown, hwm, -⟩ := id C
  have hd := (hok.get hi).1
  subst hn
  rw [Nat.add_sub_cancel_left] at hd
  exact lv_l2i ha hb hd rfl (kk p e R s m args below meth c H locs ls C hx hH hL)
theorem x_dup {v : Value} (hi : tget (yT y) pc = some (.dup, n, t)) (hn : pc + 1 = n) (hv : v.category = 1) (kk : Fr G y d kf Z k n lv (v :: v :: st) M) : Fr G y d kf Z k pc lv (v :: st) M := by
  intro p e R s m args below meth c H locs ls C hx hH hL
  obtain ⟨hg, hok, ha, hb, hret, hlk, hml, hown, hwm, -⟩ := id C
  have hd := (hok.get hi).1
  subst hn
  rw [Nat.add_sub_cancel_left] at hd
  exact lv_dup ha hb hd hv (kk p e R s m args below meth c H locs ls C hx hH hL)
theorem x_dup2 {v w : Value} (hi : tget (yT y) pc = some (.dup2, n, t)) (hn : pc + 1 = n) (hv : v.category = 1) (hw : w.category = 1) (kk : Fr G y d kf Z k n lv (v :: w :: v :: w :: st) M) : Fr G y d kf Z k pc lv (v :: w :: st) M := by
  intro p e R s m args below meth c H locs ls C hx hH hL
  obtain ⟨hg, hok, ha, hb, hret, hlk, hml, hown, hwm, -⟩ := id C
  have hd := (hok.get hi).1
  subst hn
  rw [Nat.add_sub_cancel_left] at hd
  exact lv_dup2_11 ha hb hd hv hw (kk p e R s m args below meth c H locs ls C hx hH hL)
theorem x_iaddN {a b : Nat} (hi : tget (yT y) pc = some (.iadd, n, t)) (hn : pc + 1 = n) (kk : Fr G y d kf Z k n lv (.int (nI (a + b)) :: st) M) : Fr G y d kf Z k pc lv (.int (nI b) :: .int (nI a) :: st) M := x_iadd hi hn (by rw [nI_add]; exact kk)
theorem x_imulN {a b : Nat} (hi : tget (yT y) pc = some (.imul, n, t)) (hn : pc + 1 = n) (kk : Fr G y d kf Z k n lv (.int (nI (a * b)) :: st) M) : Fr G y d kf Z k pc lv (.int (nI b) :: .int (nI a) :: st) M := x_imul hi hn (by rw [pk_mul]; exact kk)
theorem x_isubN {a b : Nat} (h : b ≤ a) (hi : tget (yT y) pc = some (.isub, n, t)) (hn : pc + 1 = n) (kk : Fr G y d kf Z k n lv (.int (nI (a - b)) :: st) M) : Fr G y d kf Z k pc lv (.int (nI b) :: .int (nI a) :: st) M := x_isub hi hn (by rw [pk_sub h]; exact kk)
theorem x_idivN {a b : Nat} (ha : a < 2 ^ 31) (h0 : 0 < b) (hb : b < 2 ^ 31) (hi : tget (yT y) pc = some (.idiv, n, t)) (hn : pc + 1 = n) (kk : Fr G y d kf Z k n lv (.int (nI (a / b)) :: st) M) : Fr G y d kf Z k pc lv (.int (nI b) :: .int (nI a) :: st) M := x_idiv hi hn (nI_ne0 h0 hb) (by rw [pk_div ha h0 hb]; exact kk)
theorem x_iremN {a b : Nat} (ha : a < 2 ^ 31) (h0 : 0 < b) (hb : b < 2 ^ 31) (hi : tget (yT y) pc = some (.irem, n, t)) (hn : pc + 1 = n) (kk : Fr G y d kf Z k n lv (.int (nI (a % b)) :: st) M) : Fr G y d kf Z k pc lv (.int (nI b) :: .int (nI a) :: st) M := x_irem hi hn (nI_ne0 h0 hb) (by rw [pk_rem ha h0 hb]; exact kk)
theorem x_i2lN {a : Nat} (h : a < 2 ^ 31) (hi : tget (yT y) pc = some (.i2l, n, t)) (hn : pc + 1 = n) (kk : Fr G y d kf Z k n lv (.long (lN a) :: st) M) : Fr G y d kf Z k pc lv (.int (nI a) :: st) M := x_i2l hi hn (by rw [nI_l h]; exact kk)
theorem x_goto {o : Int} (hi : tget (yT y) pc = some (.goto o, n, t)) (hn : pc + 3 = n) (kk : Fr G y d kf Z k t lv st M) : Fr G y d kf Z k pc lv st M := by
  intro p e R s m args below meth c H locs ls C hx hH hL
  obtain ⟨hg, hok, ha, hb, hret, hlk, hml, hown, hwm, -⟩ := id C
  obtain ⟨hd, -, ht⟩ := hok.get hi
  subst hn
  rw [Nat.add_sub_cancel_left] at hd
  exact lv_goto ha hb hd (ht _ rfl) (kk p e R s m args below meth c H locs ls C hx hH hL)
theorem x_if_eq {x : Int32} {o : Int} (hi : tget (yT y) pc = some (.ifCond .eq o, n, t)) (hn : pc + 3 = n) (kt : x = 0 → Fr G y d kf Z k t lv st M) (ke : ¬ x = 0 → Fr G y d kf Z k n lv st M) : Fr G y d kf Z k pc lv (.int x :: st) M := by
  intro p e R s m args below meth c H locs ls C hx hH hL
  obtain ⟨hg, hok, ha, hb, hret, hlk, hml, hown, hwm, -⟩ := id C
  obtain ⟨hd, -, ht⟩ := hok.get hi
  subst hn
  rw [Nat.add_sub_cancel_left] at hd
  exact lv_if_eq ha hb hd (ht _ rfl) (fun h => kt h p e R s m args below meth c H locs ls C hx hH hL) (fun h => ke h p e R s m args below meth c H locs ls C hx hH hL)
theorem x_icmp_eq {x z : Int32} {o : Int} (hi : tget (yT y) pc = some (.if_icmp .eq o, n, t)) (hn : pc + 3 = n) (kt : x = z → Fr G y d kf Z k t lv st M) (ke : ¬ x = z → Fr G y d kf Z k n lv st M) : Fr G y d kf Z k pc lv (.int z :: .int x :: st) M := by
  intro p e R s m args below meth c H locs ls C hx hH hL
  obtain ⟨hg, hok, ha, hb, hret, hlk, hml, hown, hwm, -⟩ := id C
  obtain ⟨hd, -, ht⟩ := hok.get hi
  subst hn
  rw [Nat.add_sub_cancel_left] at hd
  exact lv_icmp_eq ha hb hd (ht _ rfl) (fun h => kt h p e R s m args below meth c H locs ls C hx hH hL) (fun h => ke h p e R s m args below meth c H locs ls C hx hH hL)
theorem x_if_ne {x : Int32} {o : Int} (hi : tget (yT y) pc = some (.ifCond .ne o, n, t)) (hn : pc + 3 = n) (kt : ¬ x = 0 → Fr G y d kf Z k t lv st M) (ke : x = 0 → Fr G y d kf Z k n lv st M) : Fr G y d kf Z k pc lv (.int x :: st) M := by
  intro p e R s m args below meth c H locs ls C hx hH hL
  obtain ⟨hg, hok, ha, hb, hret, hlk, hml, hown, hwm, -⟩ := id C
  obtain ⟨hd, -, ht⟩ := hok.get hi
  subst hn
  rw [Nat.add_sub_cancel_left] at hd
  exact lv_if_ne ha hb hd (ht _ rfl) (fun h => kt h p e R s m args below meth c H locs ls C hx hH hL) (fun h => ke h p e R s m args below meth c H locs ls C hx hH hL)
theorem x_icmp_ne {x z : Int32} {o : Int} (hi : tget (yT y) pc = some (.if_icmp .ne o, n, t)) (hn : pc + 3 = n) (kt : ¬ x = z → Fr G y d kf Z k t lv st M) (ke : x = z → Fr G y d kf Z k n lv st M) : Fr G y d kf Z k pc lv (.int z :: .int x :: st) M := by
  intro p e R s m args below meth c H locs ls C hx hH hL
  obtain ⟨hg, hok, ha, hb, hret, hlk, hml, hown, hwm, -⟩ := id C
  obtain ⟨hd, -, ht⟩ := hok.get hi
  subst hn
  rw [Nat.add_sub_cancel_left] at hd
  exact lv_icmp_ne ha hb hd (ht _ rfl) (fun h => kt h p e R s m args below meth c H locs ls C hx hH hL) (fun h => ke h p e R s m args below meth c H locs ls C hx hH hL)
theorem x_if_lt {x : Int32} {o : Int} (hi : tget (yT y) pc = some (.ifCond .lt o, n, t)) (hn : pc + 3 = n) (kt : x < 0 → Fr G y d kf Z k t lv st M) (ke : ¬ x < 0 → Fr G y d kf Z k n lv st M) : Fr G y d kf Z k pc lv (.int x :: st) M := by
  intro p e R s m args below meth c H locs ls C hx hH hL
  obtain ⟨hg, hok, ha, hb, hret, hlk, hml, hown, hwm, -⟩ := id C
  obtain ⟨hd, -, ht⟩ := hok.get hi
  subst hn
  rw [Nat.add_sub_cancel_left] at hd
  exact lv_if_lt ha hb hd (ht _ rfl) (fun h => kt h p e R s m args below meth c H locs ls C hx hH hL) (fun h => ke h p e R s m args below meth c H locs ls C hx hH hL)
theorem x_icmp_lt {x z : Int32} {o : Int} (hi : tget (yT y) pc = some (.if_icmp .lt o, n, t)) (hn : pc + 3 = n) (kt : x < z → Fr G y d kf Z k t lv st M) (ke : ¬ x < z → Fr G y d kf Z k n lv st M) : Fr G y d kf Z k pc lv (.int z :: .int x :: st) M := by
  intro p e R s m args below meth c H locs ls C hx hH hL
  obtain ⟨hg, hok, ha, hb, hret, hlk, hml, hown, hwm, -⟩ := id C
  obtain ⟨hd, -, ht⟩ := hok.get hi
  subst hn
  rw [Nat.add_sub_cancel_left] at hd
  exact lv_icmp_lt ha hb hd (ht _ rfl) (fun h => kt h p e R s m args below meth c H locs ls C hx hH hL) (fun h => ke h p e R s m args below meth c H locs ls C hx hH hL)
theorem x_if_ge {x : Int32} {o : Int} (hi : tget (yT y) pc = some (.ifCond .ge o, n, t)) (hn : pc + 3 = n) (kt : 0 ≤ x → Fr G y d kf Z k t lv st M) (ke : ¬ 0 ≤ x → Fr G y d kf Z k n lv st M) : Fr G y d kf Z k pc lv (.int x :: st) M := by
  intro p e R s m args below meth c H locs ls C hx hH hL
  obtain ⟨hg, hok, ha, hb, hret, hlk, hml, hown, hwm, -⟩ := id C
  obtain ⟨hd, -, ht⟩ := hok.get hi
  subst hn
  rw [Nat.add_sub_cancel_left] at hd
  exact lv_if_ge ha hb hd (ht _ rfl) (fun h => kt h p e R s m args below meth c H locs ls C hx hH hL) (fun h => ke h p e R s m args below meth c H locs ls C hx hH hL)
theorem x_icmp_ge {x z : Int32} {o : Int} (hi : tget (yT y) pc = some (.if_icmp .ge o, n, t)) (hn : pc + 3 = n) (kt : z ≤ x → Fr G y d kf Z k t lv st M) (ke : ¬ z ≤ x → Fr G y d kf Z k n lv st M) : Fr G y d kf Z k pc lv (.int z :: .int x :: st) M := by
  intro p e R s m args below meth c H locs ls C hx hH hL
  obtain ⟨hg, hok, ha, hb, hret, hlk, hml, hown, hwm, -⟩ := id C
  obtain ⟨hd, -, ht⟩ := hok.get hi
  subst hn
  rw [Nat.add_sub_cancel_left] at hd
  exact lv_icmp_ge ha hb hd (ht _ rfl) (fun h => kt h p e R s m args below meth c H locs ls C hx hH hL) (fun h => ke h p e R s m args below meth c H locs ls C hx hH hL)
theorem x_if_gt {x : Int32} {o : Int} (hi : tget (yT y) pc = some (.ifCond .gt o, n, t)) (hn : pc + 3 = n) (kt : 0 < x → Fr G y d kf Z k t lv st M) (ke : ¬ 0 < x → Fr G y d kf Z k n lv st M) : Fr G y d kf Z k pc lv (.int x :: st) M := by
  intro p e R s m args below meth c H locs ls C hx hH hL
  obtain ⟨hg, hok, ha, hb, hret, hlk, hml, hown, hwm, -⟩ := id C
  obtain ⟨hd, -, ht⟩ := hok.get hi
  subst hn
  rw [Nat.add_sub_cancel_left] at hd
  exact lv_if_gt ha hb hd (ht _ rfl) (fun h => kt h p e R s m args below meth c H locs ls C hx hH hL) (fun h => ke h p e R s m args below meth c H locs ls C hx hH hL)
theorem x_icmp_gt {x z : Int32} {o : Int} (hi : tget (yT y) pc = some (.if_icmp .gt o, n, t)) (hn : pc + 3 = n) (kt : z < x → Fr G y d kf Z k t lv st M) (ke : ¬ z < x → Fr G y d kf Z k n lv st M) : Fr G y d kf Z k pc lv (.int z :: .int x :: st) M := by
  intro p e R s m args below meth c H locs ls C hx hH hL
  obtain ⟨hg, hok, ha, hb, hret, hlk, hml, hown, hwm, -⟩ := id C
  obtain ⟨hd, -, ht⟩ := hok.get hi
  subst hn
  rw [Nat.add_sub_cancel_left] at hd
  exact lv_icmp_gt ha hb hd (ht _ rfl) (fun h => kt h p e R s m args below meth c H locs ls C hx hH hL) (fun h => ke h p e R s m args below meth c H locs ls C hx hH hL)
theorem x_if_le {x : Int32} {o : Int} (hi : tget (yT y) pc = some (.ifCond .le o, n, t)) (hn : pc + 3 = n) (kt : x ≤ 0 → Fr G y d kf Z k t lv st M) (ke : ¬ x ≤ 0 → Fr G y d kf Z k n lv st M) : Fr G y d kf Z k pc lv (.int x :: st) M := by
  intro p e R s m args below meth c H locs ls C hx hH hL
  obtain ⟨hg, hok, ha, hb, hret, hlk, hml, hown, hwm, -⟩ := id C
  obtain ⟨hd, -, ht⟩ := hok.get hi
  subst hn
  rw [Nat.add_sub_cancel_left] at hd
  exact lv_if_le ha hb hd (ht _ rfl) (fun h => kt h p e R s m args below meth c H locs ls C hx hH hL) (fun h => ke h p e R s m args below meth c H locs ls C hx hH hL)
theorem x_icmp_le {x z : Int32} {o : Int} (hi : tget (yT y) pc = some (.if_icmp .le o, n, t)) (hn : pc + 3 = n) (kt : x ≤ z → Fr G y d kf Z k t lv st M) (ke : ¬ x ≤ z → Fr G y d kf Z k n lv st M) : Fr G y d kf Z k pc lv (.int z :: .int x :: st) M := by
  intro p e R s m args below meth c H locs ls C hx hH hL
  obtain ⟨hg, hok, ha, hb, hret, hlk, hml, hown, hwm, -⟩ := id C
  obtain ⟨hd, -, ht⟩ := hok.get hi
  subst hn
  rw [Nat.add_sub_cancel_left] at hd
  exact lv_icmp_le ha hb hd (ht _ rfl) (fun h => kt h p e R s m args below meth c H locs ls C hx hH hL) (fun h => ke h p e R s m args below meth c H locs ls C hx hH hL)
theorem x_icmpN_lt {a b : Nat} (ha : a < 2 ^ 31) (hb : b < 2 ^ 31) {o : Int} (hi : tget (yT y) pc = some (.if_icmp .lt o, n, t)) (hn : pc + 3 = n) (kt : a < b → Fr G y d kf Z k t lv st M) (ke : b ≤ a → Fr G y d kf Z k n lv st M) : Fr G y d kf Z k pc lv (.int (nI b) :: .int (nI a) :: st) M :=
  x_icmp_lt hi hn (fun h => kt (by exact (nI_ltI ha hb).mp h)) (fun h => ke (by exact Nat.not_lt.mp fun q => h ((nI_ltI ha hb).mpr q)))
theorem x_icmpN_ge {a b : Nat} (ha : a < 2 ^ 31) (hb : b < 2 ^ 31) {o : Int} (hi : tget (yT y) pc = some (.if_icmp .ge o, n, t)) (hn : pc + 3 = n) (kt : b ≤ a → Fr G y d kf Z k t lv st M) (ke : a < b → Fr G y d kf Z k n lv st M) : Fr G y d kf Z k pc lv (.int (nI b) :: .int (nI a) :: st) M :=
  x_icmp_ge hi hn (fun h => kt (by exact (nI_leI hb ha).mp h)) (fun h => ke (by exact Nat.not_le.mp fun q => h ((nI_leI hb ha).mpr q)))
theorem x_icmpN_gt {a b : Nat} (ha : a < 2 ^ 31) (hb : b < 2 ^ 31) {o : Int} (hi : tget (yT y) pc = some (.if_icmp .gt o, n, t)) (hn : pc + 3 = n) (kt : b < a → Fr G y d kf Z k t lv st M) (ke : a ≤ b → Fr G y d kf Z k n lv st M) : Fr G y d kf Z k pc lv (.int (nI b) :: .int (nI a) :: st) M :=
  x_icmp_gt hi hn (fun h => kt (by exact (nI_ltI hb ha).mp h)) (fun h => ke (by exact Nat.not_lt.mp fun q => h ((nI_ltI hb ha).mpr q)))
theorem x_icmpN_le {a b : Nat} (ha : a < 2 ^ 31) (hb : b < 2 ^ 31) {o : Int} (hi : tget (yT y) pc = some (.if_icmp .le o, n, t)) (hn : pc + 3 = n) (kt : a ≤ b → Fr G y d kf Z k t lv st M) (ke : b < a → Fr G y d kf Z k n lv st M) : Fr G y d kf Z k pc lv (.int (nI b) :: .int (nI a) :: st) M :=
  x_icmp_le hi hn (fun h => kt (by exact (nI_leI ha hb).mp h)) (fun h => ke (by exact Nat.not_le.mp fun q => h ((nI_leI ha hb).mpr q)))
theorem x_icmpN_eq {a b : Nat} (ha : a < 2 ^ 31) (hb : b < 2 ^ 31) {o : Int} (hi : tget (yT y) pc = some (.if_icmp .eq o, n, t)) (hn : pc + 3 = n) (kt : a = b → Fr G y d kf Z k t lv st M) (ke : ¬ a = b → Fr G y d kf Z k n lv st M) : Fr G y d kf Z k pc lv (.int (nI b) :: .int (nI a) :: st) M :=
  x_icmp_eq hi hn (fun h => kt (by exact (nI_eq ha hb).mp h)) (fun h => ke (by exact fun q => h ((nI_eq ha hb).mpr q)))
theorem x_icmpN_ne {a b : Nat} (ha : a < 2 ^ 31) (hb : b < 2 ^ 31) {o : Int} (hi : tget (yT y) pc = some (.if_icmp .ne o, n, t)) (hn : pc + 3 = n) (kt : ¬ a = b → Fr G y d kf Z k t lv st M) (ke : a = b → Fr G y d kf Z k n lv st M) : Fr G y d kf Z k pc lv (.int (nI b) :: .int (nI a) :: st) M :=
  x_icmp_ne hi hn (fun h => kt (by exact fun q => h ((nI_eq ha hb).mpr q))) (fun h => ke (by exact (nI_eq ha hb).mp h))
theorem x_lcmp {x z : Int64} (hi : tget (yT y) pc = some (.lcmp, n, t)) (hn : pc + 1 = n)  (kk : Fr G y d kf Z k n lv (.int (lg_cmp x z) :: st) M) : Fr G y d kf Z k pc lv (.long z :: .long x :: st) M := by
  intro p e R s m args below meth c H locs ls C hx hH hL
  obtain ⟨hg, hok, ha, hb, hret, hlk, hml, hown, hwm, -⟩ := id C
  have hd := (hok.get hi).1
  subst hn
  rw [Nat.add_sub_cancel_left] at hd
  exact W.lcmp ha hb hd (kk p e R s m args below meth c H locs ls C hx hH hL)
theorem x_lc_eq {x z : Int64} {o : Int} {n2 t2 : Nat} (hi : tget (yT y) pc = some (.lcmp, n, t)) (hn : pc + 1 = n) (hi2 : tget (yT y) n = some (.ifCond .eq o, n2, t2)) (hn2 : n + 3 = n2) (kt : x = z → Fr G y d kf Z k t2 lv st M) (ke : ¬ x = z → Fr G y d kf Z k n2 lv st M) : Fr G y d kf Z k pc lv (.long z :: .long x :: st) M :=
  x_lcmp hi hn (x_if_eq hi2 hn2 (fun h => kt ((lgc_eq x z).mp h)) (fun h => ke (fun q => h ((lgc_eq x z).mpr q))))
theorem x_lc_ne {x z : Int64} {o : Int} {n2 t2 : Nat} (hi : tget (yT y) pc = some (.lcmp, n, t)) (hn : pc + 1 = n) (hi2 : tget (yT y) n = some (.ifCond .ne o, n2, t2)) (hn2 : n + 3 = n2) (kt : ¬ x = z → Fr G y d kf Z k t2 lv st M) (ke : x = z → Fr G y d kf Z k n2 lv st M) : Fr G y d kf Z k pc lv (.long z :: .long x :: st) M :=
  x_lcmp hi hn (x_if_ne hi2 hn2 (fun h => kt (fun q => h ((lgc_eq x z).mpr q))) (fun h => ke ((lgc_eq x z).mp h)))
theorem x_lc_lt {x z : Int64} {o : Int} {n2 t2 : Nat} (hi : tget (yT y) pc = some (.lcmp, n, t)) (hn : pc + 1 = n) (hi2 : tget (yT y) n = some (.ifCond .lt o, n2, t2)) (hn2 : n + 3 = n2) (kt : x < z → Fr G y d kf Z k t2 lv st M) (ke : ¬ x < z → Fr G y d kf Z k n2 lv st M) : Fr G y d kf Z k pc lv (.long z :: .long x :: st) M :=
  x_lcmp hi hn (x_if_lt hi2 hn2 (fun h => kt ((lgc_lt x z).mp h)) (fun h => ke (fun q => h ((lgc_lt x z).mpr q))))
theorem x_lc_ge {x z : Int64} {o : Int} {n2 t2 : Nat} (hi : tget (yT y) pc = some (.lcmp, n, t)) (hn : pc + 1 = n) (hi2 : tget (yT y) n = some (.ifCond .ge o, n2, t2)) (hn2 : n + 3 = n2) (kt : ¬ x < z → Fr G y d kf Z k t2 lv st M) (ke : x < z → Fr G y d kf Z k n2 lv st M) : Fr G y d kf Z k pc lv (.long z :: .long x :: st) M :=
  x_lcmp hi hn (x_if_ge hi2 hn2 (fun h => kt (fun q => Int32.not_lt.mpr h ((lgc_lt x z).mpr q))) (fun h => ke ((lgc_lt x z).mp (Int32.not_le.mp h))))
theorem x_lc_gt {x z : Int64} {o : Int} {n2 t2 : Nat} (hi : tget (yT y) pc = some (.lcmp, n, t)) (hn : pc + 1 = n) (hi2 : tget (yT y) n = some (.ifCond .gt o, n2, t2)) (hn2 : n + 3 = n2) (kt : ¬ x ≤ z → Fr G y d kf Z k t2 lv st M) (ke : x ≤ z → Fr G y d kf Z k n2 lv st M) : Fr G y d kf Z k pc lv (.long z :: .long x :: st) M :=
  x_lcmp hi hn (x_if_gt hi2 hn2 (fun h => kt (fun q => Int32.not_le.mpr h ((lgc_le x z).mpr q))) (fun h => ke ((lgc_le x z).mp (Int32.not_lt.mp h))))
theorem x_lc_le {x z : Int64} {o : Int} {n2 t2 : Nat} (hi : tget (yT y) pc = some (.lcmp, n, t)) (hn : pc + 1 = n) (hi2 : tget (yT y) n = some (.ifCond .le o, n2, t2)) (hn2 : n + 3 = n2) (kt : x ≤ z → Fr G y d kf Z k t2 lv st M) (ke : ¬ x ≤ z → Fr G y d kf Z k n2 lv st M) : Fr G y d kf Z k pc lv (.long z :: .long x :: st) M :=
  x_lcmp hi hn (x_if_le hi2 hn2 (fun h => kt ((lgc_le x z).mp h)) (fun h => ke (fun q => h ((lgc_le x z).mpr q))))
theorem x_swIn {dflt lo hi9 : Int} {offs : Array Int} {x : Int32} {off : Int} {tg : Nat} (hi : tget (yT y) pc = some (.tableswitch dflt lo hi9 offs, n, t)) (h1 : ¬ x.toInt < lo) (h2 : ¬ hi9 < x.toInt) (ho : offs[(x.toInt - lo).toNat]? = some off) (ht : (pc : Int) + off = (tg : Int)) (kk : Fr G y d kf Z k tg lv st M) : Fr G y d kf Z k pc lv (.int x :: st) M := by
  intro p e R s m args below meth c H locs ls C hx hH hL
  obtain ⟨hg, hok, ha, hb, -⟩ := id C
  exact lv_tableIn ha hb (hok.get hi).1 h1 h2 ho ht (kk p e R s m args below meth c H locs ls C hx hH hL)
theorem x_swOut {dflt lo hi9 : Int} {offs : Array Int} {x : Int32} {tg : Nat} (hi : tget (yT y) pc = some (.tableswitch dflt lo hi9 offs, n, t)) (h : x.toInt < lo ∨ hi9 < x.toInt) (ht : (pc : Int) + dflt = (tg : Int)) (kk : Fr G y d kf Z k tg lv st M) : Fr G y d kf Z k pc lv (.int x :: st) M := by
  intro p e R s m args below meth c H locs ls C hx hH hL
  obtain ⟨hg, hok, ha, hb, -⟩ := id C
  exact lv_tableOut ha hb (hok.get hi).1 h ht (kk p e R s m args below meth c H locs ls C hx hH hL)
end XR
