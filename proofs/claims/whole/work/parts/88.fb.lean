/-! A FRAME OVER ANY PICTURE OF THE HEAP, and any facts of the method: for the making, and for methods that catch -/
def Hb (G : Gd) (J : Heap → Prop) (s : State) (H : Heap) (locs : List Loc) : Prop := J H ∧ s.heap.size ≤ H.size ∧ ∀ z ∈ locs, gb G ≤ z.base
def Fb (G : Gd) (y : Mt) (hp : Method → Code → Prop) (d kf : Nat) (Z : Zt) (k pc : Nat) (lv : List (Nat × Value)) (st : List Value) (J : Heap → Prop) : Prop :=
  ∀ (p : Program) (e : Env) (R : Room) (s : State) (m : MethodId) (args : Array Value) (below : List Frame) (meth : Method) (c : Code) (H : Heap) (locs : List Loc) (ls : Array Slot),
    Cx G y d kf p R s m meth c → hp meth c → Hb G J s H locs → lv_has ls (yL y) lv →
    W p (gl G) e R s m args below meth c H locs k (6 * k) (Z below args s) (F0 m pc ls st)
def noH : Method → Code → Prop := fun _ c => ∀ x ∈ c.exceptionTable.toList, False
theorem fb_fr {G : Gd} {y : Mt} {d kf : Nat} {Z : Zt} {k pc : Nat} {lv : List (Nat × Value)} {st : List Value} {M : Mm} (h : Fr G y d kf Z k pc lv st M) : Fb G y noH d kf Z k pc lv st (HqE G M) := h
theorem fr_fb {G : Gd} {y : Mt} {d kf : Nat} {Z : Zt} {k pc : Nat} {lv : List (Nat × Value)} {st : List Value} {M : Mm} (h : Fb G y noH d kf Z k pc lv st (HqE G M)) : Fr G y d kf Z k pc lv st M := h
section XB
variable {G : Gd} {y : Mt} {hp : Method → Code → Prop} {d kf : Nat} {Z : Zt} {k pc n t : Nat} {lv lv' : List (Nat × Value)} {st : List Value} {J : Heap → Prop}
theorem b_iload_n {i : Fin 4} {x : Int32} (hi : tget (yT y) pc = some (.iload_n i, n, t)) (hn : pc + 1 = n) (hl : tget lv (i : Nat) = some (.int x)) (kk : Fb G y hp d kf Z k n lv (.int x :: st) J) : Fb G y hp d kf Z k pc lv (st) J := by
  intro p e R s m args below meth c H locs ls C hx hH hL
  obtain ⟨hg, hok, ha, hb, hret, hlk, hml, hown, hwm, -⟩ := id C
  have hd := (hok.get hi).1
  subst hn
  rw [Nat.add_sub_cancel_left] at hd
  exact lv_iload_n ha hb hd rfl (lv_of hL hl) (kk p e R s m args below meth c H locs ls C hx hH hL)
theorem b_iload {i : Nat} {x : Int32} (hi : tget (yT y) pc = some (.iload i, n, t)) (hn : pc + 2 = n) (hl : tget lv i = some (.int x)) (kk : Fb G y hp d kf Z k n lv (.int x :: st) J) : Fb G y hp d kf Z k pc lv (st) J := by
  intro p e R s m args below meth c H locs ls C hx hH hL
  obtain ⟨hg, hok, ha, hb, hret, hlk, hml, hown, hwm, -⟩ := id C
  have hd := (hok.get hi).1
  subst hn
  rw [Nat.add_sub_cancel_left] at hd
  exact lv_iload ha hb hd (lv_of hL hl) (kk p e R s m args below meth c H locs ls C hx hH hL)
theorem b_lload_n {i : Fin 4} {x : Int64} (hi : tget (yT y) pc = some (.lload_n i, n, t)) (hn : pc + 1 = n) (hl : tget lv (i : Nat) = some (.long x)) (kk : Fb G y hp d kf Z k n lv (.long x :: st) J) : Fb G y hp d kf Z k pc lv (st) J := by
  intro p e R s m args below meth c H locs ls C hx hH hL
  obtain ⟨hg, hok, ha, hb, hret, hlk, hml, hown, hwm, -⟩ := id C
  have hd := (hok.get hi).1
  subst hn
  rw [Nat.add_sub_cancel_left] at hd
  exact lv_lload_n ha hb hd rfl (lv_of hL hl) (kk p e R s m args below meth c H locs ls C hx hH hL)
theorem b_lload {i : Nat} {x : Int64} (hi : tget (yT y) pc = some (.lload i, n, t)) (hn : pc + 2 = n) (hl : tget lv i = some (.long x)) (kk : Fb G y hp d kf Z k n lv (.long x :: st) J) : Fb G y hp d kf Z k pc lv (st) J := by
  intro p e R s m args below meth c H locs ls C hx hH hL
  obtain ⟨hg, hok, ha, hb, hret, hlk, hml, hown, hwm, -⟩ := id C
  have hd := (hok.get hi).1
  subst hn
  rw [Nat.add_sub_cancel_left] at hd
  exact lv_lload ha hb hd (lv_of hL hl) (kk p e R s m args below meth c H locs ls C hx hH hL)
theorem b_aload_n {i : Fin 4} {x : Nat} (hi : tget (yT y) pc = some (.aload_n i, n, t)) (hn : pc + 1 = n) (hl : tget lv (i : Nat) = some (.ref x)) (kk : Fb G y hp d kf Z k n lv (.ref x :: st) J) : Fb G y hp d kf Z k pc lv (st) J := by
  intro p e R s m args below meth c H locs ls C hx hH hL
  obtain ⟨hg, hok, ha, hb, hret, hlk, hml, hown, hwm, -⟩ := id C
  have hd := (hok.get hi).1
  subst hn
  rw [Nat.add_sub_cancel_left] at hd
  exact lv_aload_n ha hb hd rfl (lv_of hL hl) (kk p e R s m args below meth c H locs ls C hx hH hL)
theorem b_aload {i : Nat} {x : Nat} (hi : tget (yT y) pc = some (.aload i, n, t)) (hn : pc + 2 = n) (hl : tget lv i = some (.ref x)) (kk : Fb G y hp d kf Z k n lv (.ref x :: st) J) : Fb G y hp d kf Z k pc lv (st) J := by
  intro p e R s m args below meth c H locs ls C hx hH hL
  obtain ⟨hg, hok, ha, hb, hret, hlk, hml, hown, hwm, -⟩ := id C
  have hd := (hok.get hi).1
  subst hn
  rw [Nat.add_sub_cancel_left] at hd
  exact lv_aload ha hb hd (lv_of hL hl) (kk p e R s m args below meth c H locs ls C hx hH hL)
theorem b_istore_n {i : Fin 4} {x : Int32} (hi : tget (yT y) pc = some (.istore_n i, n, t)) (hn : pc + 1 = n) (hb2 : Nat.blt (i : Nat) (yL y) = true) (hs : lins (.int x) (i : Nat) lv = some lv') (kk : Fb G y hp d kf Z k n lv' st J) : Fb G y hp d kf Z k pc lv (.int x :: st) J := by
  intro p e R s m args below meth c H locs ls C hx hH hL
  obtain ⟨hg, hok, ha, hb, hret, hlk, hml, hown, hwm, -⟩ := id C
  have hd := (hok.get hi).1
  subst hn
  rw [Nat.add_sub_cancel_left] at hd
  refine lv_istore_n ha hb hd rfl hL (Nat.le_of_ble_eq_true hb2) rfl (fun ls' hL' => ?_)
  refine kk p e R s m args below meth c H locs ls' C hx hH (lv_weak hL' fun q hq => ?_)
  rcases lins_mem hs q hq with rfl | ⟨h1, h2⟩
  · exact List.mem_cons_self
  · exact List.mem_cons_of_mem _ (List.mem_filter.mpr ⟨h1, lflt1 h2⟩)
theorem b_istore {i : Nat} {x : Int32} (hi : tget (yT y) pc = some (.istore i, n, t)) (hn : pc + 2 = n) (hb2 : Nat.blt i (yL y) = true) (hs : lins (.int x) i lv = some lv') (kk : Fb G y hp d kf Z k n lv' st J) : Fb G y hp d kf Z k pc lv (.int x :: st) J := by
  intro p e R s m args below meth c H locs ls C hx hH hL
  obtain ⟨hg, hok, ha, hb, hret, hlk, hml, hown, hwm, -⟩ := id C
  have hd := (hok.get hi).1
  subst hn
  rw [Nat.add_sub_cancel_left] at hd
  refine lv_istore ha hb hd hL (Nat.le_of_ble_eq_true hb2) rfl (fun ls' hL' => ?_)
  refine kk p e R s m args below meth c H locs ls' C hx hH (lv_weak hL' fun q hq => ?_)
  rcases lins_mem hs q hq with rfl | ⟨h1, h2⟩
  · exact List.mem_cons_self
  · exact List.mem_cons_of_mem _ (List.mem_filter.mpr ⟨h1, lflt1 h2⟩)
theorem b_lstore_n {i : Fin 4} {x : Int64} (hi : tget (yT y) pc = some (.lstore_n i, n, t)) (hn : pc + 1 = n) (hb2 : Nat.blt ((i : Nat) + 1) (yL y) = true) (hs : lins (.long x) (i : Nat) lv = some lv') (kk : Fb G y hp d kf Z k n lv' st J) : Fb G y hp d kf Z k pc lv (.long x :: st) J := by
  intro p e R s m args below meth c H locs ls C hx hH hL
  obtain ⟨hg, hok, ha, hb, hret, hlk, hml, hown, hwm, -⟩ := id C
  have hd := (hok.get hi).1
  subst hn
  rw [Nat.add_sub_cancel_left] at hd
  refine lv_lstore_n ha hb hd rfl hL (Nat.le_of_ble_eq_true hb2) rfl (fun ls' hL' => ?_)
  refine kk p e R s m args below meth c H locs ls' C hx hH (lv_weak hL' fun q hq => ?_)
  rcases lins_mem hs q hq with rfl | ⟨h1, h2⟩
  · exact List.mem_cons_self
  · exact List.mem_cons_of_mem _ (List.mem_filter.mpr ⟨h1, lflt2 h2⟩)
theorem b_lstore {i : Nat} {x : Int64} (hi : tget (yT y) pc = some (.lstore i, n, t)) (hn : pc + 2 = n) (hb2 : Nat.blt (i + 1) (yL y) = true) (hs : lins (.long x) i lv = some lv') (kk : Fb G y hp d kf Z k n lv' st J) : Fb G y hp d kf Z k pc lv (.long x :: st) J := by
  intro p e R s m args below meth c H locs ls C hx hH hL
  obtain ⟨hg, hok, ha, hb, hret, hlk, hml, hown, hwm, -⟩ := id C
  have hd := (hok.get hi).1
  subst hn
  rw [Nat.add_sub_cancel_left] at hd
  refine lv_lstore ha hb hd hL (Nat.le_of_ble_eq_true hb2) rfl (fun ls' hL' => ?_)
  refine kk p e R s m args below meth c H locs ls' C hx hH (lv_weak hL' fun q hq => ?_)
  rcases lins_mem hs q hq with rfl | ⟨h1, h2⟩
  · exact List.mem_cons_self
  · exact List.mem_cons_of_mem _ (List.mem_filter.mpr ⟨h1, lflt2 h2⟩)
theorem b_astore_n {i : Fin 4} {x : Nat} (hi : tget (yT y) pc = some (.astore_n i, n, t)) (hn : pc + 1 = n) (hb2 : Nat.blt (i : Nat) (yL y) = true) (hs : lins (.ref x) (i : Nat) lv = some lv') (kk : Fb G y hp d kf Z k n lv' st J) : Fb G y hp d kf Z k pc lv (.ref x :: st) J := by
  intro p e R s m args below meth c H locs ls C hx hH hL
  obtain ⟨hg, hok, ha, hb, hret, hlk, hml, hown, hwm, -⟩ := id C
  have hd := (hok.get hi).1
  subst hn
  rw [Nat.add_sub_cancel_left] at hd
  refine lv_astore_n ha hb hd rfl hL (Nat.le_of_ble_eq_true hb2) rfl (fun ls' hL' => ?_)
  refine kk p e R s m args below meth c H locs ls' C hx hH (lv_weak hL' fun q hq => ?_)
  rcases lins_mem hs q hq with rfl | ⟨h1, h2⟩
  · exact List.mem_cons_self
  · exact List.mem_cons_of_mem _ (List.mem_filter.mpr ⟨h1, lflt1 h2⟩)
theorem b_astore {i : Nat} {x : Nat} (hi : tget (yT y) pc = some (.astore i, n, t)) (hn : pc + 2 = n) (hb2 : Nat.blt i (yL y) = true) (hs : lins (.ref x) i lv = some lv') (kk : Fb G y hp d kf Z k n lv' st J) : Fb G y hp d kf Z k pc lv (.ref x :: st) J := by
  intro p e R s m args below meth c H locs ls C hx hH hL
  obtain ⟨hg, hok, ha, hb, hret, hlk, hml, hown, hwm, -⟩ := id C
  have hd := (hok.get hi).1
  subst hn
  rw [Nat.add_sub_cancel_left] at hd
  refine lv_astore ha hb hd hL (Nat.le_of_ble_eq_true hb2) rfl (fun ls' hL' => ?_)
  refine kk p e R s m args below meth c H locs ls' C hx hH (lv_weak hL' fun q hq => ?_)
  rcases lins_mem hs q hq with rfl | ⟨h1, h2⟩
  · exact List.mem_cons_self
  · exact List.mem_cons_of_mem _ (List.mem_filter.mpr ⟨h1, lflt1 h2⟩)
theorem b_iinc {i : Nat} {b : Int} {x v : Int32} (hi : tget (yT y) pc = some (.iinc i b, n, t)) (hn : pc + 3 = n) (hl : tget lv i = some (.int x)) (hv : x + Int32.ofInt b = v) (hb2 : Nat.blt i (yL y) = true) (hs : lins (.int v) i lv = some lv') (kk : Fb G y hp d kf Z k n lv' st J) : Fb G y hp d kf Z k pc lv st J := by
  intro p e R s m args below meth c H locs ls C hx hH hL
  obtain ⟨hg, hok, ha, hb, hret, hlk, hml, hown, hwm, -⟩ := id C
  have hd := (hok.get hi).1
  subst hn
  rw [Nat.add_sub_cancel_left] at hd
  obtain ⟨kq, hkq⟩ := List.getElem?_of_mem (tget_mem hl)
  refine lv_iinc ha hb hd hL hkq hv (Nat.le_of_ble_eq_true hb2) rfl (fun ls' hL' => ?_)
  refine kk p e R s m args below meth c H locs ls' C hx hH (lv_weak hL' fun q hq => ?_)
  rcases lins_mem hs q hq with rfl | ⟨h1, h2⟩
  · exact List.mem_cons_self
  · exact List.mem_cons_of_mem _ (List.mem_filter.mpr ⟨h1, lflt1 h2⟩)
theorem b_iincN {i a b : Nat} (hi : tget (yT y) pc = some (.iinc i (b : Int), n, t)) (hn : pc + 3 = n) (hl : tget lv i = some (.int (nI a))) (hb2 : Nat.blt i (yL y) = true) (hs : lins (.int (nI (a + b))) i lv = some lv') (kk : Fb G y hp d kf Z k n lv' st J) : Fb G y hp d kf Z k pc lv st J :=
  b_iinc hi hn hl (nI_add a b) hb2 hs kk
theorem b_iconst {b : Int} {v : Int32} (hi : tget (yT y) pc = some (.iconst b, n, t)) (hn : pc + 1 = n) (hv : Int32.ofInt b = v) (kk : Fb G y hp d kf Z k n lv (.int v :: st) J) : Fb G y hp d kf Z k pc lv (st) J := by
  intro p e R s m args below meth c H locs ls C hx hH hL
  obtain ⟨hg, hok, ha, hb, hret, hlk, hml, hown, hwm, -⟩ := id C
  have hd := (hok.get hi).1
  subst hn
  rw [Nat.add_sub_cancel_left] at hd
  exact lv_iconst ha hb hd hv (kk p e R s m args below meth c H locs ls C hx hH hL)
theorem b_iconstN {b : Nat} (hi : tget (yT y) pc = some (.iconst (b : Int), n, t)) (hn : pc + 1 = n)  (kk : Fb G y hp d kf Z k n lv (.int (nI b) :: st) J) : Fb G y hp d kf Z k pc lv (st) J := by
  intro p e R s m args below meth c H locs ls C hx hH hL
  obtain ⟨hg, hok, ha, hb, hret, hlk, hml, hown, hwm, -⟩ := id C
  have hd := (hok.get hi).1
  subst hn
  rw [Nat.add_sub_cancel_left] at hd
  exact lv_iconst (v := nI b) ha hb hd rfl (kk p e R s m args below meth c H locs ls C hx hH hL)
theorem b_bipush {b : Int} {v : Int32} (hi : tget (yT y) pc = some (.bipush b, n, t)) (hn : pc + 2 = n) (hv : (Int8.ofInt b).toInt32 = v) (kk : Fb G y hp d kf Z k n lv (.int v :: st) J) : Fb G y hp d kf Z k pc lv (st) J := by
  intro p e R s m args below meth c H locs ls C hx hH hL
  obtain ⟨hg, hok, ha, hb, hret, hlk, hml, hown, hwm, -⟩ := id C
  have hd := (hok.get hi).1
  subst hn
  rw [Nat.add_sub_cancel_left] at hd
  exact lv_bipush ha hb hd hv (kk p e R s m args below meth c H locs ls C hx hH hL)
theorem b_sipush {b : Int} {v : Int32} (hi : tget (yT y) pc = some (.sipush b, n, t)) (hn : pc + 3 = n) (hv : (Int16.ofInt b).toInt32 = v) (kk : Fb G y hp d kf Z k n lv (.int v :: st) J) : Fb G y hp d kf Z k pc lv (st) J := by
  intro p e R s m args below meth c H locs ls C hx hH hL
  obtain ⟨hg, hok, ha, hb, hret, hlk, hml, hown, hwm, -⟩ := id C
  have hd := (hok.get hi).1
  subst hn
  rw [Nat.add_sub_cancel_left] at hd
  exact lv_sipush ha hb hd hv (kk p e R s m args below meth c H locs ls C hx hH hL)
theorem b_lconst {b : Fin 2} {v : Int64} (hi : tget (yT y) pc = some (.lconst b, n, t)) (hn : pc + 1 = n) (hv : Int64.ofNat (b : Nat) = v) (kk : Fb G y hp d kf Z k n lv (.long v :: st) J) : Fb G y hp d kf Z k pc lv (st) J := by
  intro p e R s m args below meth c H locs ls C hx hH hL
  obtain ⟨hg, hok, ha, hb, hret, hlk, hml, hown, hwm, -⟩ := id C
  have hd := (hok.get hi).1
  subst hn
  rw [Nat.add_sub_cancel_left] at hd
  exact lv_lconst ha hb hd hv (kk p e R s m args below meth c H locs ls C hx hH hL)
theorem b_ldc {b : Nat} {v : Int32} (hi : tget (yT y) pc = some (.ldc b, n, t)) (hn : pc + 2 = n) (hw : Cond.constant (cnm (yC y)) b v ∈ lw_tbl) (kk : Fb G y hp d kf Z k n lv (.int v :: st) J) : Fb G y hp d kf Z k pc lv (st) J := by
  intro p e R s m args below meth c H locs ls C hx hH hL
  obtain ⟨hg, hok, ha, hb, hret, hlk, hml, hown, hwm, -⟩ := id C
  have hd := (hok.get hi).1
  subst hn
  rw [Nat.add_sub_cancel_left] at hd
  exact lv_ldc ha hb hown (hg.1 _ hw rfl args s hwm) hd (kk p e R s m args below meth c H locs ls C hx hH hL)
theorem b_ldcw {b : Nat} {v : Int32} (hi : tget (yT y) pc = some (.ldc_w b, n, t)) (hn : pc + 3 = n) (hw : Cond.constant (cnm (yC y)) b v ∈ lw_tbl) (kk : Fb G y hp d kf Z k n lv (.int v :: st) J) : Fb G y hp d kf Z k pc lv (st) J := by
  intro p e R s m args below meth c H locs ls C hx hH hL
  obtain ⟨hg, hok, ha, hb, hret, hlk, hml, hown, hwm, -⟩ := id C
  have hd := (hok.get hi).1
  subst hn
  rw [Nat.add_sub_cancel_left] at hd
  exact lv_ldcw ha hb hown (hg.1 _ hw rfl args s hwm) hd (kk p e R s m args below meth c H locs ls C hx hH hL)
theorem b_ldc2 {b : Nat} {v : Int64} (hi : tget (yT y) pc = some (.ldc2_w b, n, t)) (hn : pc + 3 = n) (hw : Cond.constantLong (cnm (yC y)) b v ∈ lw_tbl) (kk : Fb G y hp d kf Z k n lv (.long v :: st) J) : Fb G y hp d kf Z k pc lv (st) J := by
  intro p e R s m args below meth c H locs ls C hx hH hL
  obtain ⟨hg, hok, ha, hb, hret, hlk, hml, hown, hwm, -⟩ := id C
  have hd := (hok.get hi).1
  subst hn
  rw [Nat.add_sub_cancel_left] at hd
  exact lv_ldc2 ha hb hown (hg.1 _ hw rfl args s hwm) hd (kk p e R s m args below meth c H locs ls C hx hH hL)
theorem b_iadd {x z : Int32} (hi : tget (yT y) pc = some (.iadd, n, t)) (hn : pc + 1 = n)  (kk : Fb G y hp d kf Z k n lv (.int (x + z) :: st) J) : Fb G y hp d kf Z k pc lv (.int z :: .int x :: st) J := by
  intro p e R s m args below meth c H locs ls C hx hH hL
  obtain ⟨hg, hok, ha, hb, hret, hlk, hml, hown, hwm, -⟩ := id C
  have hd := (hok.get hi).1
  subst hn
  rw [Nat.add_sub_cancel_left] at hd
  exact lv_iadd ha hb hd (kk p e R s m args below meth c H locs ls C hx hH hL)
theorem b_isub {x z : Int32} (hi : tget (yT y) pc = some (.isub, n, t)) (hn : pc + 1 = n)  (kk : Fb G y hp d kf Z k n lv (.int (x - z) :: st) J) : Fb G y hp d kf Z k pc lv (.int z :: .int x :: st) J := by
  intro p e R s m args below meth c H locs ls C hx hH hL
  obtain ⟨hg, hok, ha, hb, hret, hlk, hml, hown, hwm, -⟩ := id C
  have hd := (hok.get hi).1
  subst hn
  rw [Nat.add_sub_cancel_left] at hd
  exact lv_isub ha hb hd (kk p e R s m args below meth c H locs ls C hx hH hL)
theorem b_imul {x z : Int32} (hi : tget (yT y) pc = some (.imul, n, t)) (hn : pc + 1 = n)  (kk : Fb G y hp d kf Z k n lv (.int (x * z) :: st) J) : Fb G y hp d kf Z k pc lv (.int z :: .int x :: st) J := by
  intro p e R s m args below meth c H locs ls C hx hH hL
  obtain ⟨hg, hok, ha, hb, hret, hlk, hml, hown, hwm, -⟩ := id C
  have hd := (hok.get hi).1
  subst hn
  rw [Nat.add_sub_cancel_left] at hd
  exact lv_imul ha hb hd (kk p e R s m args below meth c H locs ls C hx hH hL)
theorem b_iand {x z : Int32} (hi : tget (yT y) pc = some (.iand, n, t)) (hn : pc + 1 = n)  (kk : Fb G y hp d kf Z k n lv (.int (x &&& z) :: st) J) : Fb G y hp d kf Z k pc lv (.int z :: .int x :: st) J := by
  intro p e R s m args below meth c H locs ls C hx hH hL
  obtain ⟨hg, hok, ha, hb, hret, hlk, hml, hown, hwm, -⟩ := id C
  have hd := (hok.get hi).1
  subst hn
  rw [Nat.add_sub_cancel_left] at hd
  exact lv_iand ha hb hd (kk p e R s m args below meth c H locs ls C hx hH hL)
theorem b_ior {x z : Int32} (hi : tget (yT y) pc = some (.ior, n, t)) (hn : pc + 1 = n)  (kk : Fb G y hp d kf Z k n lv (.int (x ||| z) :: st) J) : Fb G y hp d kf Z k pc lv (.int z :: .int x :: st) J := by
  intro p e R s m args below meth c H locs ls C hx hH hL
  obtain ⟨hg, hok, ha, hb, hret, hlk, hml, hown, hwm, -⟩ := id C
  have hd := (hok.get hi).1
  subst hn
  rw [Nat.add_sub_cancel_left] at hd
  exact lv_ior ha hb hd (kk p e R s m args below meth c H locs ls C hx hH hL)
theorem b_ishl {x z : Int32} (hi : tget (yT y) pc = some (.ishl, n, t)) (hn : pc + 1 = n)  (kk : Fb G y hp d kf Z k n lv (.int (x <<< (z &&& 31)) :: st) J) : Fb G y hp d kf Z k pc lv (.int z :: .int x :: st) J := by
  intro p e R s m args below meth c H locs ls C hx hH hL
  obtain ⟨hg, hok, ha, hb, hret, hlk, hml, hown, hwm, -⟩ := id C
  have hd := (hok.get hi).1
  subst hn
  rw [Nat.add_sub_cancel_left] at hd
  exact lv_ishl ha hb hd (kk p e R s m args below meth c H locs ls C hx hH hL)
theorem b_ishr {x z : Int32} (hi : tget (yT y) pc = some (.ishr, n, t)) (hn : pc + 1 = n)  (kk : Fb G y hp d kf Z k n lv (.int (x >>> (z &&& 31)) :: st) J) : Fb G y hp d kf Z k pc lv (.int z :: .int x :: st) J := by
  intro p e R s m args below meth c H locs ls C hx hH hL
  obtain ⟨hg, hok, ha, hb, hret, hlk, hml, hown, hwm, -⟩ := id C
  have hd := (hok.get hi).1
  subst hn
  rw [Nat.add_sub_cancel_left] at hd
  exact lv_ishr ha hb hd (kk p e R s m args below meth c H locs ls C hx hH hL)
theorem b_idiv {x z : Int32} (hi : tget (yT y) pc = some (.idiv, n, t)) (hn : pc + 1 = n) (hz : ¬ z = 0) (kk : Fb G y hp d kf Z k n lv (.int (x / z) :: st) J) : Fb G y hp d kf Z k pc lv (.int z :: .int x :: st) J := by
  intro p e R s m args below meth c H locs ls C hx hH hL
  obtain ⟨hg, hok, ha, hb, hret, hlk, hml, hown, hwm, -⟩ := id C
  have hd := (hok.get hi).1
  subst hn
  rw [Nat.add_sub_cancel_left] at hd
  exact lv_idiv ha hb hd hz (kk p e R s m args below meth c H locs ls C hx hH hL)
theorem b_irem {x z : Int32} (hi : tget (yT y) pc = some (.irem, n, t)) (hn : pc + 1 = n) (hz : ¬ z = 0) (kk : Fb G y hp d kf Z k n lv (.int (x - x / z * z) :: st) J) : Fb G y hp d kf Z k pc lv (.int z :: .int x :: st) J := by
  intro p e R s m args below meth c H locs ls C hx hH hL
  obtain ⟨hg, hok, ha, hb, hret, hlk, hml, hown, hwm, -⟩ := id C
  have hd := (hok.get hi).1
  subst hn
  rw [Nat.add_sub_cancel_left] at hd
  exact lv_irem ha hb hd hz (kk p e R s m args below meth c H locs ls C hx hH hL)
theorem b_ladd {x z : Int64} (hi : tget (yT y) pc = some (.ladd, n, t)) (hn : pc + 1 = n)  (kk : Fb G y hp d kf Z k n lv (.long (x + z) :: st) J) : Fb G y hp d kf Z k pc lv (.long z :: .long x :: st) J := by
  intro p e R s m args below meth c H locs ls C hx hH hL
  obtain ⟨hg, hok, ha, hb, hret, hlk, hml, hown, hwm, -⟩ := id C
  have hd := (hok.get hi).1
  subst hn
  rw [Nat.add_sub_cancel_left] at hd
  exact lv_ladd ha hb hd (kk p e R s m args below meth c H locs ls C hx hH hL)
theorem b_lmul {x z : Int64} (hi : tget (yT y) pc = some (.lmul, n, t)) (hn : pc + 1 = n)  (kk : Fb G y hp d kf Z k n lv (.long (x * z) :: st) J) : Fb G y hp d kf Z k pc lv (.long z :: .long x :: st) J := by
  intro p e R s m args below meth c H locs ls C hx hH hL
  obtain ⟨hg, hok, ha, hb, hret, hlk, hml, hown, hwm, -⟩ := id C
  have hd := (hok.get hi).1
  subst hn
  rw [Nat.add_sub_cancel_left] at hd
  exact lv_lmul ha hb hd (kk p e R s m args below meth c H locs ls C hx hH hL)
theorem b_land {x z : Int64} (hi : tget (yT y) pc = some (.land, n, t)) (hn : pc + 1 = n)  (kk : Fb G y hp d kf Z k n lv (.long (x &&& z) :: st) J) : Fb G y hp d kf Z k pc lv (.long z :: .long x :: st) J := by
  intro p e R s m args below meth c H locs ls C hx hH hL
  obtain ⟨hg, hok, ha, hb, hret, hlk, hml, hown, hwm, -⟩ := id C
  have hd := (hok.get hi).1
  subst hn
  rw [Nat.add_sub_cancel_left] at hd
  exact lv_land ha hb hd (kk p e R s m args below meth c H locs ls C hx hH hL)
theorem b_lor {x z : Int64} (hi : tget (yT y) pc = some (.lor, n, t)) (hn : pc + 1 = n)  (kk : Fb G y hp d kf Z k n lv (.long (x ||| z) :: st) J) : Fb G y hp d kf Z k pc lv (.long z :: .long x :: st) J := by
  intro p e R s m args below meth c H locs ls C hx hH hL
  obtain ⟨hg, hok, ha, hb, hret, hlk, hml, hown, hwm, -⟩ := id C
  have hd := (hok.get hi).1
  subst hn
  rw [Nat.add_sub_cancel_left] at hd
  exact lv_lor ha hb hd (kk p e R s m args below meth c H locs ls C hx hH hL)
theorem b_lshl {x : Int64} {z : Int32} (hi : tget (yT y) pc = some (.lshl, n, t)) (hn : pc + 1 = n)  (kk : Fb G y hp d kf Z k n lv (.long (x <<< (z.toInt64 &&& 63)) :: st) J) : Fb G y hp d kf Z k pc lv (.int z :: .long x :: st) J := by
  intro p e R s m args below meth c H locs ls C hx hH hL
  obtain ⟨hg, hok, ha, hb, hret, hlk, hml, hown, hwm, -⟩ := id C
  have hd := (hok.get hi).1
  subst hn
  rw [Nat.add_sub_cancel_left] at hd
  exact lv_lshl ha hb hd rfl (kk p e R s m args below meth c H locs ls C hx hH hL)
theorem b_lshr {x : Int64} {z : Int32} (hi : tget (yT y) pc = some (.lshr, n, t)) (hn : pc + 1 = n)  (kk : Fb G y hp d kf Z k n lv (.long (x >>> (z.toInt64 &&& 63)) :: st) J) : Fb G y hp d kf Z k pc lv (.int z :: .long x :: st) J := by
  intro p e R s m args below meth c H locs ls C hx hH hL
  obtain ⟨hg, hok, ha, hb, hret, hlk, hml, hown, hwm, -⟩ := id C
  have hd := (hok.get hi).1
  subst hn
  rw [Nat.add_sub_cancel_left] at hd
  exact lv_lshr ha hb hd rfl (kk p e R s m args below meth c H locs ls C hx hH hL)
theorem b_lushr {x : Int64} {z : Int32} (hi : tget (yT y) pc = some (.lushr, n, t)) (hn : pc + 1 = n)  (kk : Fb G y hp d kf Z k n lv (.long ((x.toUInt64 >>> (z.toInt64.toUInt64 &&& Int64.toUInt64 63)).toInt64) :: st) J) : Fb G y hp d kf Z k pc lv (.int z :: .long x :: st) J := by
  intro p e R s m args below meth c H locs ls C hx hH hL
  obtain ⟨hg, hok, ha, hb, hret, hlk, hml, hown, hwm, -⟩ := id C
  have hd := (hok.get hi).1
  subst hn
  rw [Nat.add_sub_cancel_left] at hd
  exact lv_lushr ha hb hd rfl (kk p e R s m args below meth c H locs ls C hx hH hL)
theorem b_i2l {x : Int32} (hi : tget (yT y) pc = some (.i2l, n, t)) (hn : pc + 1 = n)  (kk : Fb G y hp d kf Z k n lv (.long x.toInt64 :: st) J) : Fb G y hp d kf Z k pc lv (.int x :: st) J := by
  intro p e R s m args below meth c H locs ls C hx hH hL
  obtain ⟨hg, hok, ha, hb, hret, hlk, hml, hown, hwm, -⟩ := id C
  have hd := (hok.get hi).1
  subst hn
  rw [Nat.add_sub_cancel_left] at hd
  exact lv_i2l ha hb hd rfl (kk p e R s m args below meth c H locs ls C hx hH hL)
theorem b_l2i {x : Int64} (hi : tget (yT y) pc = some (.l2i, n, t)) (hn : pc + 1 = n)  (kk : Fb G y hp d kf Z k n lv (.int x.toInt32 :: st) J) : Fb G y hp d kf Z k pc lv (.long x :: st) J := by
  intro p e R s m args below meth c H locs ls C hx hH hL
  obtain ⟨hg, hok, ha, hb, hret, hlk, hml, hown, hwm, -⟩ := id C
  have hd := (hok.get hi).1
  subst hn
  rw [Nat.add_sub_cancel_left] at hd
  exact lv_l2i ha hb hd rfl (kk p e R s m args below meth c H locs ls C hx hH hL)
theorem b_dup {v : Value} (hi : tget (yT y) pc = some (.dup, n, t)) (hn : pc + 1 = n) (hv : v.category = 1) (kk : Fb G y hp d kf Z k n lv (v :: v :: st) J) : Fb G y hp d kf Z k pc lv (v :: st) J := by
  intro p e R s m args below meth c H locs ls C hx hH hL
  obtain ⟨hg, hok, ha, hb, hret, hlk, hml, hown, hwm, -⟩ := id C
  have hd := (hok.get hi).1
  subst hn
  rw [Nat.add_sub_cancel_left] at hd
  exact lv_dup ha hb hd hv (kk p e R s m args below meth c H locs ls C hx hH hL)
theorem b_dup2 {v w : Value} (hi : tget (yT y) pc = some (.dup2, n, t)) (hn : pc + 1 = n) (hv : v.category = 1) (hw : w.category = 1) (kk : Fb G y hp d kf Z k n lv (v :: w :: v :: w :: st) J) : Fb G y hp d kf Z k pc lv (v :: w :: st) J := by
  intro p e R s m args below meth c H locs ls C hx hH hL
  obtain ⟨hg, hok, ha, hb, hret, hlk, hml, hown, hwm, -⟩ := id C
  have hd := (hok.get hi).1
  subst hn
  rw [Nat.add_sub_cancel_left] at hd
  exact lv_dup2_11 ha hb hd hv hw (kk p e R s m args below meth c H locs ls C hx hH hL)
theorem b_iaddN {a b : Nat} (hi : tget (yT y) pc = some (.iadd, n, t)) (hn : pc + 1 = n) (kk : Fb G y hp d kf Z k n lv (.int (nI (a + b)) :: st) J) : Fb G y hp d kf Z k pc lv (.int (nI b) :: .int (nI a) :: st) J := b_iadd hi hn (by rw [nI_add]; exact kk)
theorem b_imulN {a b : Nat} (hi : tget (yT y) pc = some (.imul, n, t)) (hn : pc + 1 = n) (kk : Fb G y hp d kf Z k n lv (.int (nI (a * b)) :: st) J) : Fb G y hp d kf Z k pc lv (.int (nI b) :: .int (nI a) :: st) J := b_imul hi hn (by rw [pk_mul]; exact kk)
theorem b_isubN {a b : Nat} (h : b ≤ a) (hi : tget (yT y) pc = some (.isub, n, t)) (hn : pc + 1 = n) (kk : Fb G y hp d kf Z k n lv (.int (nI (a - b)) :: st) J) : Fb G y hp d kf Z k pc lv (.int (nI b) :: .int (nI a) :: st) J := b_isub hi hn (by rw [pk_sub h]; exact kk)
theorem b_idivN {a b : Nat} (ha : a < 2 ^ 31) (h0 : 0 < b) (hb : b < 2 ^ 31) (hi : tget (yT y) pc = some (.idiv, n, t)) (hn : pc + 1 = n) (kk : Fb G y hp d kf Z k n lv (.int (nI (a / b)) :: st) J) : Fb G y hp d kf Z k pc lv (.int (nI b) :: .int (nI a) :: st) J := b_idiv hi hn (nI_ne0 h0 hb) (by rw [pk_div ha h0 hb]; exact kk)
theorem b_iremN {a b : Nat} (ha : a < 2 ^ 31) (h0 : 0 < b) (hb : b < 2 ^ 31) (hi : tget (yT y) pc = some (.irem, n, t)) (hn : pc + 1 = n) (kk : Fb G y hp d kf Z k n lv (.int (nI (a % b)) :: st) J) : Fb G y hp d kf Z k pc lv (.int (nI b) :: .int (nI a) :: st) J := b_irem hi hn (nI_ne0 h0 hb) (by rw [pk_rem ha h0 hb]; exact kk)
theorem b_i2lN {a : Nat} (h : a < 2 ^ 31) (hi : tget (yT y) pc = some (.i2l, n, t)) (hn : pc + 1 = n) (kk : Fb G y hp d kf Z k n lv (.long (lN a) :: st) J) : Fb G y hp d kf Z k pc lv (.int (nI a) :: st) J := b_i2l hi hn (by rw [nI_l h]; exact kk)
theorem b_goto {o : Int} (hi : tget (yT y) pc = some (.goto o, n, t)) (hn : pc + 3 = n) (kk : Fb G y hp d kf Z k t lv st J) : Fb G y hp d kf Z k pc lv st J := by
  intro p e R s m args below meth c H locs ls C hx hH hL
  obtain ⟨hg, hok, ha, hb, hret, hlk, hml, hown, hwm, -⟩ := id C
  obtain ⟨hd, -, ht⟩ := hok.get hi
  subst hn
  rw [Nat.add_sub_cancel_left] at hd
  exact lv_goto ha hb hd (ht _ rfl) (kk p e R s m args below meth c H locs ls C hx hH hL)
theorem b_if_eq {x : Int32} {o : Int} (hi : tget (yT y) pc = some (.ifCond .eq o, n, t)) (hn : pc + 3 = n) (kt : x = 0 → Fb G y hp d kf Z k t lv st J) (ke : ¬ x = 0 → Fb G y hp d kf Z k n lv st J) : Fb G y hp d kf Z k pc lv (.int x :: st) J := by
  intro p e R s m args below meth c H locs ls C hx hH hL
  obtain ⟨hg, hok, ha, hb, hret, hlk, hml, hown, hwm, -⟩ := id C
  obtain ⟨hd, -, ht⟩ := hok.get hi
  subst hn
  rw [Nat.add_sub_cancel_left] at hd
  exact lv_if_eq ha hb hd (ht _ rfl) (fun h => kt h p e R s m args below meth c H locs ls C hx hH hL) (fun h => ke h p e R s m args below meth c H locs ls C hx hH hL)
theorem b_icmp_eq {x z : Int32} {o : Int} (hi : tget (yT y) pc = some (.if_icmp .eq o, n, t)) (hn : pc + 3 = n) (kt : x = z → Fb G y hp d kf Z k t lv st J) (ke : ¬ x = z → Fb G y hp d kf Z k n lv st J) : Fb G y hp d kf Z k pc lv (.int z :: .int x :: st) J := by
  intro p e R s m args below meth c H locs ls C hx hH hL
  obtain ⟨hg, hok, ha, hb, hret, hlk, hml, hown, hwm, -⟩ := id C
  obtain ⟨hd, -, ht⟩ := hok.get hi
  subst hn
  rw [Nat.add_sub_cancel_left] at hd
  exact lv_icmp_eq ha hb hd (ht _ rfl) (fun h => kt h p e R s m args below meth c H locs ls C hx hH hL) (fun h => ke h p e R s m args below meth c H locs ls C hx hH hL)
theorem b_if_ne {x : Int32} {o : Int} (hi : tget (yT y) pc = some (.ifCond .ne o, n, t)) (hn : pc + 3 = n) (kt : ¬ x = 0 → Fb G y hp d kf Z k t lv st J) (ke : x = 0 → Fb G y hp d kf Z k n lv st J) : Fb G y hp d kf Z k pc lv (.int x :: st) J := by
  intro p e R s m args below meth c H locs ls C hx hH hL
  obtain ⟨hg, hok, ha, hb, hret, hlk, hml, hown, hwm, -⟩ := id C
  obtain ⟨hd, -, ht⟩ := hok.get hi
  subst hn
  rw [Nat.add_sub_cancel_left] at hd
  exact lv_if_ne ha hb hd (ht _ rfl) (fun h => kt h p e R s m args below meth c H locs ls C hx hH hL) (fun h => ke h p e R s m args below meth c H locs ls C hx hH hL)
theorem b_icmp_ne {x z : Int32} {o : Int} (hi : tget (yT y) pc = some (.if_icmp .ne o, n, t)) (hn : pc + 3 = n) (kt : ¬ x = z → Fb G y hp d kf Z k t lv st J) (ke : x = z → Fb G y hp d kf Z k n lv st J) : Fb G y hp d kf Z k pc lv (.int z :: .int x :: st) J := by
  intro p e R s m args below meth c H locs ls C hx hH hL
  obtain ⟨hg, hok, ha, hb, hret, hlk, hml, hown, hwm, -⟩ := id C
  obtain ⟨hd, -, ht⟩ := hok.get hi
  subst hn
  rw [Nat.add_sub_cancel_left] at hd
  exact lv_icmp_ne ha hb hd (ht _ rfl) (fun h => kt h p e R s m args below meth c H locs ls C hx hH hL) (fun h => ke h p e R s m args below meth c H locs ls C hx hH hL)
theorem b_if_lt {x : Int32} {o : Int} (hi : tget (yT y) pc = some (.ifCond .lt o, n, t)) (hn : pc + 3 = n) (kt : x < 0 → Fb G y hp d kf Z k t lv st J) (ke : ¬ x < 0 → Fb G y hp d kf Z k n lv st J) : Fb G y hp d kf Z k pc lv (.int x :: st) J := by
  intro p e R s m args below meth c H locs ls C hx hH hL
  obtain ⟨hg, hok, ha, hb, hret, hlk, hml, hown, hwm, -⟩ := id C
  obtain ⟨hd, -, ht⟩ := hok.get hi
  subst hn
  rw [Nat.add_sub_cancel_left] at hd
  exact lv_if_lt ha hb hd (ht _ rfl) (fun h => kt h p e R s m args below meth c H locs ls C hx hH hL) (fun h => ke h p e R s m args below meth c H locs ls C hx hH hL)
theorem b_icmp_lt {x z : Int32} {o : Int} (hi : tget (yT y) pc = some (.if_icmp .lt o, n, t)) (hn : pc + 3 = n) (kt : x < z → Fb G y hp d kf Z k t lv st J) (ke : ¬ x < z → Fb G y hp d kf Z k n lv st J) : Fb G y hp d kf Z k pc lv (.int z :: .int x :: st) J := by
  intro p e R s m args below meth c H locs ls C hx hH hL
  obtain ⟨hg, hok, ha, hb, hret, hlk, hml, hown, hwm, -⟩ := id C
  obtain ⟨hd, -, ht⟩ := hok.get hi
  subst hn
  rw [Nat.add_sub_cancel_left] at hd
  exact lv_icmp_lt ha hb hd (ht _ rfl) (fun h => kt h p e R s m args below meth c H locs ls C hx hH hL) (fun h => ke h p e R s m args below meth c H locs ls C hx hH hL)
theorem b_if_ge {x : Int32} {o : Int} (hi : tget (yT y) pc = some (.ifCond .ge o, n, t)) (hn : pc + 3 = n) (kt : 0 ≤ x → Fb G y hp d kf Z k t lv st J) (ke : ¬ 0 ≤ x → Fb G y hp d kf Z k n lv st J) : Fb G y hp d kf Z k pc lv (.int x :: st) J := by
  intro p e R s m args below meth c H locs ls C hx hH hL
  obtain ⟨hg, hok, ha, hb, hret, hlk, hml, hown, hwm, -⟩ := id C
  obtain ⟨hd, -, ht⟩ := hok.get hi
  subst hn
  rw [Nat.add_sub_cancel_left] at hd
  exact lv_if_ge ha hb hd (ht _ rfl) (fun h => kt h p e R s m args below meth c H locs ls C hx hH hL) (fun h => ke h p e R s m args below meth c H locs ls C hx hH hL)
theorem b_icmp_ge {x z : Int32} {o : Int} (hi : tget (yT y) pc = some (.if_icmp .ge o, n, t)) (hn : pc + 3 = n) (kt : z ≤ x → Fb G y hp d kf Z k t lv st J) (ke : ¬ z ≤ x → Fb G y hp d kf Z k n lv st J) : Fb G y hp d kf Z k pc lv (.int z :: .int x :: st) J := by
  intro p e R s m args below meth c H locs ls C hx hH hL
  obtain ⟨hg, hok, ha, hb, hret, hlk, hml, hown, hwm, -⟩ := id C
  obtain ⟨hd, -, ht⟩ := hok.get hi
  subst hn
  rw [Nat.add_sub_cancel_left] at hd
  exact lv_icmp_ge ha hb hd (ht _ rfl) (fun h => kt h p e R s m args below meth c H locs ls C hx hH hL) (fun h => ke h p e R s m args below meth c H locs ls C hx hH hL)
theorem b_if_gt {x : Int32} {o : Int} (hi : tget (yT y) pc = some (.ifCond .gt o, n, t)) (hn : pc + 3 = n) (kt : 0 < x → Fb G y hp d kf Z k t lv st J) (ke : ¬ 0 < x → Fb G y hp d kf Z k n lv st J) : Fb G y hp d kf Z k pc lv (.int x :: st) J := by
  intro p e R s m args below meth c H locs ls C hx hH hL
  obtain ⟨hg, hok, ha, hb, hret, hlk, hml, hown, hwm, -⟩ := id C
  obtain ⟨hd, -, ht⟩ := hok.get hi
  subst hn
  rw [Nat.add_sub_cancel_left] at hd
  exact lv_if_gt ha hb hd (ht _ rfl) (fun h => kt h p e R s m args below meth c H locs ls C hx hH hL) (fun h => ke h p e R s m args below meth c H locs ls C hx hH hL)
theorem b_icmp_gt {x z : Int32} {o : Int} (hi : tget (yT y) pc = some (.if_icmp .gt o, n, t)) (hn : pc + 3 = n) (kt : z < x → Fb G y hp d kf Z k t lv st J) (ke : ¬ z < x → Fb G y hp d kf Z k n lv st J) : Fb G y hp d kf Z k pc lv (.int z :: .int x :: st) J := by
  intro p e R s m args below meth c H locs ls C hx hH hL
  obtain ⟨hg, hok, ha, hb, hret, hlk, hml, hown, hwm, -⟩ := id C
  obtain ⟨hd, -, ht⟩ := hok.get hi
  subst hn
  rw [Nat.add_sub_cancel_left] at hd
  exact lv_icmp_gt ha hb hd (ht _ rfl) (fun h => kt h p e R s m args below meth c H locs ls C hx hH hL) (fun h => ke h p e R s m args below meth c H locs ls C hx hH hL)
theorem b_if_le {x : Int32} {o : Int} (hi : tget (yT y) pc = some (.ifCond .le o, n, t)) (hn : pc + 3 = n) (kt : x ≤ 0 → Fb G y hp d kf Z k t lv st J) (ke : ¬ x ≤ 0 → Fb G y hp d kf Z k n lv st J) : Fb G y hp d kf Z k pc lv (.int x :: st) J := by
  intro p e R s m args below meth c H locs ls C hx hH hL
  obtain ⟨hg, hok, ha, hb, hret, hlk, hml, hown, hwm, -⟩ := id C
  obtain ⟨hd, -, ht⟩ := hok.get hi
  subst hn
  rw [Nat.add_sub_cancel_left] at hd
  exact lv_if_le ha hb hd (ht _ rfl) (fun h => kt h p e R s m args below meth c H locs ls C hx hH hL) (fun h => ke h p e R s m args below meth c H locs ls C hx hH hL)
theorem b_icmp_le {x z : Int32} {o : Int} (hi : tget (yT y) pc = some (.if_icmp .le o, n, t)) (hn : pc + 3 = n) (kt : x ≤ z → Fb G y hp d kf Z k t lv st J) (ke : ¬ x ≤ z → Fb G y hp d kf Z k n lv st J) : Fb G y hp d kf Z k pc lv (.int z :: .int x :: st) J := by
  intro p e R s m args below meth c H locs ls C hx hH hL
  obtain ⟨hg, hok, ha, hb, hret, hlk, hml, hown, hwm, -⟩ := id C
  obtain ⟨hd, -, ht⟩ := hok.get hi
  subst hn
  rw [Nat.add_sub_cancel_left] at hd
  exact lv_icmp_le ha hb hd (ht _ rfl) (fun h => kt h p e R s m args below meth c H locs ls C hx hH hL) (fun h => ke h p e R s m args below meth c H locs ls C hx hH hL)
theorem b_icmpN_lt {a b : Nat} (ha : a < 2 ^ 31) (hb : b < 2 ^ 31) {o : Int} (hi : tget (yT y) pc = some (.if_icmp .lt o, n, t)) (hn : pc + 3 = n) (kt : a < b → Fb G y hp d kf Z k t lv st J) (ke : b ≤ a → Fb G y hp d kf Z k n lv st J) : Fb G y hp d kf Z k pc lv (.int (nI b) :: .int (nI a) :: st) J :=
  b_icmp_lt hi hn (fun h => kt (by exact (nI_ltI ha hb).mp h)) (fun h => ke (by exact Nat.not_lt.mp fun q => h ((nI_ltI ha hb).mpr q)))
theorem b_icmpN_ge {a b : Nat} (ha : a < 2 ^ 31) (hb : b < 2 ^ 31) {o : Int} (hi : tget (yT y) pc = some (.if_icmp .ge o, n, t)) (hn : pc + 3 = n) (kt : b ≤ a → Fb G y hp d kf Z k t lv st J) (ke : a < b → Fb G y hp d kf Z k n lv st J) : Fb G y hp d kf Z k pc lv (.int (nI b) :: .int (nI a) :: st) J :=
  b_icmp_ge hi hn (fun h => kt (by exact (nI_leI hb ha).mp h)) (fun h => ke (by exact Nat.not_le.mp fun q => h ((nI_leI hb ha).mpr q)))
theorem b_icmpN_gt {a b : Nat} (ha : a < 2 ^ 31) (hb : b < 2 ^ 31) {o : Int} (hi : tget (yT y) pc = some (.if_icmp .gt o, n, t)) (hn : pc + 3 = n) (kt : b < a → Fb G y hp d kf Z k t lv st J) (ke : a ≤ b → Fb G y hp d kf Z k n lv st J) : Fb G y hp d kf Z k pc lv (.int (nI b) :: .int (nI a) :: st) J :=
  b_icmp_gt hi hn (fun h => kt (by exact (nI_ltI hb ha).mp h)) (fun h => ke (by exact Nat.not_lt.mp fun q => h ((nI_ltI hb ha).mpr q)))
theorem b_icmpN_le {a b : Nat} (ha : a < 2 ^ 31) (hb : b < 2 ^ 31) {o : Int} (hi : tget (yT y) pc = some (.if_icmp .le o, n, t)) (hn : pc + 3 = n) (kt : a ≤ b → Fb G y hp d kf Z k t lv st J) (ke : b < a → Fb G y hp d kf Z k n lv st J) : Fb G y hp d kf Z k pc lv (.int (nI b) :: .int (nI a) :: st) J :=
  b_icmp_le hi hn (fun h => kt (by exact (nI_leI ha hb).mp h)) (fun h => ke (by exact Nat.not_le.mp fun q => h ((nI_leI ha hb).mpr q)))
theorem b_icmpN_eq {a b : Nat} (ha : a < 2 ^ 31) (hb : b < 2 ^ 31) {o : Int} (hi : tget (yT y) pc = some (.if_icmp .eq o, n, t)) (hn : pc + 3 = n) (kt : a = b → Fb G y hp d kf Z k t lv st J) (ke : ¬ a = b → Fb G y hp d kf Z k n lv st J) : Fb G y hp d kf Z k pc lv (.int (nI b) :: .int (nI a) :: st) J :=
  b_icmp_eq hi hn (fun h => kt (by exact (nI_eq ha hb).mp h)) (fun h => ke (by exact fun q => h ((nI_eq ha hb).mpr q)))
theorem b_icmpN_ne {a b : Nat} (ha : a < 2 ^ 31) (hb : b < 2 ^ 31) {o : Int} (hi : tget (yT y) pc = some (.if_icmp .ne o, n, t)) (hn : pc + 3 = n) (kt : ¬ a = b → Fb G y hp d kf Z k t lv st J) (ke : a = b → Fb G y hp d kf Z k n lv st J) : Fb G y hp d kf Z k pc lv (.int (nI b) :: .int (nI a) :: st) J :=
  b_icmp_ne hi hn (fun h => kt (by exact fun q => h ((nI_eq ha hb).mpr q))) (fun h => ke (by exact (nI_eq ha hb).mp h))
theorem b_lcmp {x z : Int64} (hi : tget (yT y) pc = some (.lcmp, n, t)) (hn : pc + 1 = n)  (kk : Fb G y hp d kf Z k n lv (.int (lg_cmp x z) :: st) J) : Fb G y hp d kf Z k pc lv (.long z :: .long x :: st) J := by
  intro p e R s m args below meth c H locs ls C hx hH hL
  obtain ⟨hg, hok, ha, hb, hret, hlk, hml, hown, hwm, -⟩ := id C
  have hd := (hok.get hi).1
  subst hn
  rw [Nat.add_sub_cancel_left] at hd
  exact W.lcmp ha hb hd (kk p e R s m args below meth c H locs ls C hx hH hL)
theorem b_lc_eq {x z : Int64} {o : Int} {n2 t2 : Nat} (hi : tget (yT y) pc = some (.lcmp, n, t)) (hn : pc + 1 = n) (hi2 : tget (yT y) n = some (.ifCond .eq o, n2, t2)) (hn2 : n + 3 = n2) (kt : x = z → Fb G y hp d kf Z k t2 lv st J) (ke : ¬ x = z → Fb G y hp d kf Z k n2 lv st J) : Fb G y hp d kf Z k pc lv (.long z :: .long x :: st) J :=
  b_lcmp hi hn (b_if_eq hi2 hn2 (fun h => kt ((lgc_eq x z).mp h)) (fun h => ke (fun q => h ((lgc_eq x z).mpr q))))
theorem b_lc_ne {x z : Int64} {o : Int} {n2 t2 : Nat} (hi : tget (yT y) pc = some (.lcmp, n, t)) (hn : pc + 1 = n) (hi2 : tget (yT y) n = some (.ifCond .ne o, n2, t2)) (hn2 : n + 3 = n2) (kt : ¬ x = z → Fb G y hp d kf Z k t2 lv st J) (ke : x = z → Fb G y hp d kf Z k n2 lv st J) : Fb G y hp d kf Z k pc lv (.long z :: .long x :: st) J :=
  b_lcmp hi hn (b_if_ne hi2 hn2 (fun h => kt (fun q => h ((lgc_eq x z).mpr q))) (fun h => ke ((lgc_eq x z).mp h)))
theorem b_lc_lt {x z : Int64} {o : Int} {n2 t2 : Nat} (hi : tget (yT y) pc = some (.lcmp, n, t)) (hn : pc + 1 = n) (hi2 : tget (yT y) n = some (.ifCond .lt o, n2, t2)) (hn2 : n + 3 = n2) (kt : x < z → Fb G y hp d kf Z k t2 lv st J) (ke : ¬ x < z → Fb G y hp d kf Z k n2 lv st J) : Fb G y hp d kf Z k pc lv (.long z :: .long x :: st) J :=
  b_lcmp hi hn (b_if_lt hi2 hn2 (fun h => kt ((lgc_lt x z).mp h)) (fun h => ke (fun q => h ((lgc_lt x z).mpr q))))
theorem b_lc_ge {x z : Int64} {o : Int} {n2 t2 : Nat} (hi : tget (yT y) pc = some (.lcmp, n, t)) (hn : pc + 1 = n) (hi2 : tget (yT y) n = some (.ifCond .ge o, n2, t2)) (hn2 : n + 3 = n2) (kt : ¬ x < z → Fb G y hp d kf Z k t2 lv st J) (ke : x < z → Fb G y hp d kf Z k n2 lv st J) : Fb G y hp d kf Z k pc lv (.long z :: .long x :: st) J :=
  b_lcmp hi hn (b_if_ge hi2 hn2 (fun h => kt (fun q => Int32.not_lt.mpr h ((lgc_lt x z).mpr q))) (fun h => ke ((lgc_lt x z).mp (Int32.not_le.mp h))))
theorem b_lc_gt {x z : Int64} {o : Int} {n2 t2 : Nat} (hi : tget (yT y) pc = some (.lcmp, n, t)) (hn : pc + 1 = n) (hi2 : tget (yT y) n = some (.ifCond .gt o, n2, t2)) (hn2 : n + 3 = n2) (kt : ¬ x ≤ z → Fb G y hp d kf Z k t2 lv st J) (ke : x ≤ z → Fb G y hp d kf Z k n2 lv st J) : Fb G y hp d kf Z k pc lv (.long z :: .long x :: st) J :=
  b_lcmp hi hn (b_if_gt hi2 hn2 (fun h => kt (fun q => Int32.not_le.mpr h ((lgc_le x z).mpr q))) (fun h => ke ((lgc_le x z).mp (Int32.not_lt.mp h))))
theorem b_lc_le {x z : Int64} {o : Int} {n2 t2 : Nat} (hi : tget (yT y) pc = some (.lcmp, n, t)) (hn : pc + 1 = n) (hi2 : tget (yT y) n = some (.ifCond .le o, n2, t2)) (hn2 : n + 3 = n2) (kt : x ≤ z → Fb G y hp d kf Z k t2 lv st J) (ke : ¬ x ≤ z → Fb G y hp d kf Z k n2 lv st J) : Fb G y hp d kf Z k pc lv (.long z :: .long x :: st) J :=
  b_lcmp hi hn (b_if_le hi2 hn2 (fun h => kt ((lgc_le x z).mp h)) (fun h => ke (fun q => h ((lgc_le x z).mpr q))))
theorem b_swIn {dflt lo hi9 : Int} {offs : Array Int} {x : Int32} {off : Int} {tg : Nat} (hi : tget (yT y) pc = some (.tableswitch dflt lo hi9 offs, n, t)) (h1 : ¬ x.toInt < lo) (h2 : ¬ hi9 < x.toInt) (ho : offs[(x.toInt - lo).toNat]? = some off) (ht : (pc : Int) + off = (tg : Int)) (kk : Fb G y hp d kf Z k tg lv st J) : Fb G y hp d kf Z k pc lv (.int x :: st) J := by
  intro p e R s m args below meth c H locs ls C hx hH hL
  obtain ⟨hg, hok, ha, hb, -⟩ := id C
  exact lv_tableIn ha hb (hok.get hi).1 h1 h2 ho ht (kk p e R s m args below meth c H locs ls C hx hH hL)
theorem b_swOut {dflt lo hi9 : Int} {offs : Array Int} {x : Int32} {tg : Nat} (hi : tget (yT y) pc = some (.tableswitch dflt lo hi9 offs, n, t)) (h : x.toInt < lo ∨ hi9 < x.toInt) (ht : (pc : Int) + dflt = (tg : Int)) (kk : Fb G y hp d kf Z k tg lv st J) : Fb G y hp d kf Z k pc lv (.int x :: st) J := by
  intro p e R s m args below meth c H locs ls C hx hH hL
  obtain ⟨hg, hok, ha, hb, -⟩ := id C
  exact lv_tableOut ha hb (hok.get hi).1 h ht (kk p e R s m args below meth c H locs ls C hx hH hL)
end XB
