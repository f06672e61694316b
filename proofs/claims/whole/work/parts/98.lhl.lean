def PL9 (M : Mm) (A : Ab) : Mm → Prop := fun M' => RC A M' ∧ Eqn (fun r => 40 ≤ r ∧ r < 70) M M'
theorem ph_pc {M M2 : Mm} {A : Ab} (h : PC M A M2) : PL9 M A M2 := ⟨h.1, h.2.sub fun _ z => z.1⟩
theorem ph_ul {M M2 : Mm} {A : Ab} {x : Int64} (h : PC M A M2) : PL9 M A (ul M2 (70, 0) 0 x) ∧ (ul M2 (70, 0) 0 x).2 (70, 0) 0 = x := by
  have h1 : Eqn (fun r => r < 40) M2 (ul M2 (70, 0) 0 x) := Eqn.rf.ul (by decide)
  exact ⟨⟨h.1.eqn h1 (fun r _ h2 => by show r < 40; omega) (by show 27 < 40; decide), (h.2.sub fun _ z => z.1).ul (fun z => absurd z.2 (by decide))⟩, ul_same _ _ _ _⟩
def QL9 (M : Mm) (A : Ab) (x : Int64) : Int32 → Mm → Prop := fun k M2 => k = nI 0 ∧ PL9 M A M2 ∧ M2.2 (70, 0) 0 = x
def QX9 (M : Mm) (A : Ab) (c : Nat) : Int32 → Mm → Prop := fun k M2 => k = nI c ∧ PL9 M A M2
section XL9
variable {G : Gd} {y : Mt} {hp : Method → Code → Prop} {d kf : Nat} {Z : Zt} {k pc n t : Nat} {lv lv' : List (Nat × Value)} {st : List Value} {M : Mm}
theorem b_last {q : Ky} {L a : Nat} {x : Int64} (hi : tget (yT y) pc = some (.lastore, n, t)) (hn : pc + 1 = n) (hs : shp q.1 = some (.inr (1, L))) (hc : q.2 < cnt q.1) (hin : a < L) (hL2 : L < 2 ^ 31) (kk : Fb G y hp d kf Z k n lv st (HqE G (ul M q a x))) : Fb G y hp d kf Z k pc lv (.long x :: .int (nI a) :: .ref (ga G q) :: st) (HqE G M) := by
  intro p e R s m args below meth c H locs ls C hx hH hL
  obtain ⟨hg, hok, ha, hb, hret, hlk, hml, hown, hwm, -⟩ := id C
  have hd := (hok.get hi).1
  subst hn
  rw [Nat.add_sub_cancel_left] at hd
  have h1 : H[ga G q]? = some (arrV (gk G 1) L (fun j => cval G M q (aty 1) j)) := hH.1.1 q _ hs hc
  have hvi : vp_in (nI a) L := vp_in_nI hin hL2
  have hcl : (nI a).toNatClampNeg = a := nI_clamp (by omega)
  refine W.last ha hb h1 (arrOk (t := 1) (by decide) hg hwm L _) (fun z => by cases z) (by rw [arrV_size]; exact hvi) rfl rfl hd fun H1 e1 e2 e3 => ?_
  rw [hcl] at e1 ⊢
  exact kk p e R s m args below meth c H1 _ ls C hx (Hq.stored hH (v := .long x) hg hs hc e3 e2 (cells_arr (by exact trivial) e1)) hL
theorem b_lald {q : Ky} {L a : Nat} (hi : tget (yT y) pc = some (.laload, n, t)) (hn : pc + 1 = n) (hs : shp q.1 = some (.inr (1, L))) (hc : q.2 < cnt q.1) (hin : a < L) (hL2 : L < 2 ^ 31) (kk : Fb G y hp d kf Z k n lv (.long (M.2 q a) :: st) (HqE G M)) : Fb G y hp d kf Z k pc lv (.int (nI a) :: .ref (ga G q) :: st) (HqE G M) := by
  intro p e R s m args below meth c H locs ls C hx hH hL
  obtain ⟨hg, hok, ha, hb, hret, hlk, hml, hown, hwm, -⟩ := id C
  have hd := (hok.get hi).1
  subst hn
  rw [Nat.add_sub_cancel_left] at hd
  have h1 : H[ga G q]? = some (arrV (gk G 1) L (fun j => cval G M q (aty 1) j)) := hH.1.1 q _ hs hc
  have hvi : vp_in (nI a) L := vp_in_nI hin hL2
  have hcl : (nI a).toNatClampNeg = a := nI_clamp (by omega)
  exact W.lald (v := .long (M.2 q a)) ha hb h1 (arrOk (t := 1) (by decide) hg hwm L _) (fun z => by cases z) (by rw [arrV_size]; exact hvi) (by rw [hcl, arrV_read _ _ hin]; rfl) rfl rfl hd (kk p e R s m args below meth c H locs ls C hx hH hL)
end XL9
set_option maxHeartbeats 1000000 in
theorem h_wide_R {G : Gd} {A A' : Ab} {M : Mm} (hG : Gok G) (hN : Nc G) (p0 : Int64) {x : Int64} (hC : ∀ M, RC A M → Ce G mX8_wide 64 (.ref (ga G (0, 0)) :: [.long p0]) M (.inl (some (.long x))) (PC M A') 0) (hR : RC A M) : Ch hL_wide G mL_wide 65 [.ref (ga G (0, 0)), .long p0, .ref (ga G (70, 0))] M (QL9 M A' x) 0 := by
  refine ch_of hG okL_wide (by decide +kernel) rfl (Nat.le_of_ble_eq_true rfl) ?_
  refine b_aload_n rfl rfl rfl ?_
  refine b_iconstN (b := 0) rfl rfl ?_
  refine b_aload_n rfl rfl rfl ?_
  refine b_lload_n rfl rfl rfl ?_
  refine b_callVe (d2 := 64) (hC M hR) rfl rfl v_10_7 rfl rfl (by decide) rfl rfl (Nat.le_of_ble_eq_true rfl) (by decide) (by decide) (fun M2 hP => ?_)
  refine b_last (q := (70, 0)) (a := 0) (L := 1) rfl rfl rfl (by decide) (by decide) (by decide) ?_
  refine b_goto rfl rfl ?_
  refine b_iconstN (b := 0) rfl rfl ?_
  exact b_iretH ⟨rfl, (ph_ul hP).1, (ph_ul hP).2⟩ rfl rfl rfl (by decide)
set_option maxHeartbeats 1000000 in
theorem h_wide_ISE {G : Gd} {A A' : Ab} {M : Mm} (hG : Gok G) (hN : Nc G) (p0 : Int64) (hC : ∀ M, RC A M → Ce G mX8_wide 64 (.ref (ga G (0, 0)) :: [.long p0]) M (.inr ISE) (PC M A') 1) (hR : RC A M) : Ch hL_wide G mL_wide 65 [.ref (ga G (0, 0)), .long p0, .ref (ga G (70, 0))] M (QX9 M A' 1) 1 := by
  refine ch_of hG okL_wide (by decide +kernel) rfl (Nat.le_of_ble_eq_true rfl) ?_
  refine b_aload_n rfl rfl rfl ?_
  refine b_iconstN (b := 0) rfl rfl ?_
  refine b_aload_n rfl rfl rfl ?_
  refine b_lload_n rfl rfl rfl ?_
  refine b_catchV (pre := []) (post := []) (a := 0) (b := 8) (hpc := 11) (ct := 13) (d2 := 64) hN (hC M hR) rfl rfl v_10_7 rfl rfl (by decide) rfl rfl (Nat.le_of_ble_eq_true rfl) (by decide) (by decide) rfl rfl ⟨by decide, by decide⟩ (Or.inr ⟨rfl, rfl⟩) (fun z hz => by cases hz) (fun z M2 hP => ?_)
  refine b_astore rfl rfl rfl rfl ?_
  refine b_iconstN (b := 1) rfl rfl ?_
  exact b_iretH ⟨rfl, ph_pc hP⟩ rfl rfl rfl (by decide)
set_option maxHeartbeats 1000000 in
theorem h_date_R {G : Gd} {A A' : Ab} {M : Mm} (hG : Gok G) (hN : Nc G) (p0 : Int64) {x : Int64} (hC : ∀ M, RC A M → Ce G mX8_date 64 (.ref (ga G (0, 0)) :: [.long p0]) M (.inl (some (.long x))) (PC M A') 0) (hR : RC A M) : Ch hL_date G mL_date 65 [.ref (ga G (0, 0)), .long p0, .ref (ga G (70, 0))] M (QL9 M A' x) 0 := by
  refine ch_of hG okL_date (by decide +kernel) rfl (Nat.le_of_ble_eq_true rfl) ?_
  refine b_aload_n rfl rfl rfl ?_
  refine b_iconstN (b := 0) rfl rfl ?_
  refine b_aload_n rfl rfl rfl ?_
  refine b_lload_n rfl rfl rfl ?_
  refine b_callVe (d2 := 64) (hC M hR) rfl rfl v_10_15 rfl rfl (by decide) rfl rfl (Nat.le_of_ble_eq_true rfl) (by decide) (by decide) (fun M2 hP => ?_)
  refine b_last (q := (70, 0)) (a := 0) (L := 1) rfl rfl rfl (by decide) (by decide) (by decide) ?_
  refine b_goto rfl rfl ?_
  refine b_iconstN (b := 0) rfl rfl ?_
  exact b_iretH ⟨rfl, (ph_ul hP).1, (ph_ul hP).2⟩ rfl rfl rfl (by decide)
set_option maxHeartbeats 1000000 in
theorem h_date_ISE {G : Gd} {A A' : Ab} {M : Mm} (hG : Gok G) (hN : Nc G) (p0 : Int64) (hC : ∀ M, RC A M → Ce G mX8_date 64 (.ref (ga G (0, 0)) :: [.long p0]) M (.inr ISE) (PC M A') 1) (hR : RC A M) : Ch hL_date G mL_date 65 [.ref (ga G (0, 0)), .long p0, .ref (ga G (70, 0))] M (QX9 M A' 1) 1 := by
  refine ch_of hG okL_date (by decide +kernel) rfl (Nat.le_of_ble_eq_true rfl) ?_
  refine b_aload_n rfl rfl rfl ?_
  refine b_iconstN (b := 0) rfl rfl ?_
  refine b_aload_n rfl rfl rfl ?_
  refine b_lload_n rfl rfl rfl ?_
  refine b_catchV (pre := []) (post := []) (a := 0) (b := 8) (hpc := 11) (ct := 13) (d2 := 64) hN (hC M hR) rfl rfl v_10_15 rfl rfl (by decide) rfl rfl (Nat.le_of_ble_eq_true rfl) (by decide) (by decide) rfl rfl ⟨by decide, by decide⟩ (Or.inr ⟨rfl, rfl⟩) (fun z hz => by cases hz) (fun z M2 hP => ?_)
  refine b_astore rfl rfl rfl rfl ?_
  refine b_iconstN (b := 1) rfl rfl ?_
  exact b_iretH ⟨rfl, ph_pc hP⟩ rfl rfl rfl (by decide)
set_option maxHeartbeats 1000000 in
theorem h_bytes_R {G : Gd} {A A' : Ab} {M : Mm} (hG : Gok G) (hN : Nc G) (p0 : Int64) (p1 : Int32) {x : Int64} (hC : ∀ M, RC A M → Ce G mX8_bytes 64 (.ref (ga G (0, 0)) :: [.long p0, .int p1]) M (.inl (some (.long x))) (PC M A') 0) (hR : RC A M) : Ch hL_bytes G mL_bytes 65 [.ref (ga G (0, 0)), .long p0, .int p1, .ref (ga G (70, 0))] M (QL9 M A' x) 0 := by
  refine ch_of hG okL_bytes (by decide +kernel) rfl (Nat.le_of_ble_eq_true rfl) ?_
  refine b_aload rfl rfl rfl ?_
  refine b_iconstN (b := 0) rfl rfl ?_
  refine b_aload_n rfl rfl rfl ?_
  refine b_lload_n rfl rfl rfl ?_
  refine b_iload_n rfl rfl rfl ?_
  refine b_callVe (d2 := 64) (hC M hR) rfl rfl v_10_18 rfl rfl (by decide) rfl rfl (Nat.le_of_ble_eq_true rfl) (by decide) (by decide) (fun M2 hP => ?_)
  refine b_last (q := (70, 0)) (a := 0) (L := 1) rfl rfl rfl (by decide) (by decide) (by decide) ?_
  refine b_goto rfl rfl ?_
  refine b_iconstN (b := 0) rfl rfl ?_
  exact b_iretH ⟨rfl, (ph_ul hP).1, (ph_ul hP).2⟩ rfl rfl rfl (by decide)
set_option maxHeartbeats 1000000 in
theorem h_bytes_IAE {G : Gd} {A A' : Ab} {M : Mm} (hG : Gok G) (hN : Nc G) (p0 : Int64) (p1 : Int32) (hC : ∀ M, RC A M → Ce G mX8_bytes 64 (.ref (ga G (0, 0)) :: [.long p0, .int p1]) M (.inr IAE) (PC M A') 1) (hR : RC A M) : Ch hL_bytes G mL_bytes 65 [.ref (ga G (0, 0)), .long p0, .int p1, .ref (ga G (70, 0))] M (QX9 M A' 1) 1 := by
  refine ch_of hG okL_bytes (by decide +kernel) rfl (Nat.le_of_ble_eq_true rfl) ?_
  refine b_aload rfl rfl rfl ?_
  refine b_iconstN (b := 0) rfl rfl ?_
  refine b_aload_n rfl rfl rfl ?_
  refine b_lload_n rfl rfl rfl ?_
  refine b_iload_n rfl rfl rfl ?_
  refine b_catchV (pre := []) (post := [(0, 10, 17, 13)]) (a := 0) (b := 10) (hpc := 13) (ct := 22) (d2 := 64) hN (hC M hR) rfl rfl v_10_18 rfl rfl (by decide) rfl rfl (Nat.le_of_ble_eq_true rfl) (by decide) (by decide) rfl rfl ⟨by decide, by decide⟩ (Or.inl ⟨rfl, rfl⟩) (fun z hz => by cases hz) (fun z M2 hP => ?_)
  refine b_astore rfl rfl rfl rfl ?_
  refine b_iconstN (b := 1) rfl rfl ?_
  exact b_iretH ⟨rfl, ph_pc hP⟩ rfl rfl rfl (by decide)
set_option maxHeartbeats 1000000 in
theorem h_bytes_ISE {G : Gd} {A A' : Ab} {M : Mm} (hG : Gok G) (hN : Nc G) (p0 : Int64) (p1 : Int32) (hC : ∀ M, RC A M → Ce G mX8_bytes 64 (.ref (ga G (0, 0)) :: [.long p0, .int p1]) M (.inr ISE) (PC M A') 1) (hR : RC A M) : Ch hL_bytes G mL_bytes 65 [.ref (ga G (0, 0)), .long p0, .int p1, .ref (ga G (70, 0))] M (QX9 M A' 2) 1 := by
  refine ch_of hG okL_bytes (by decide +kernel) rfl (Nat.le_of_ble_eq_true rfl) ?_
  refine b_aload rfl rfl rfl ?_
  refine b_iconstN (b := 0) rfl rfl ?_
  refine b_aload_n rfl rfl rfl ?_
  refine b_lload_n rfl rfl rfl ?_
  refine b_iload_n rfl rfl rfl ?_
  refine b_catchV (pre := [(0, 10, 13, 22)]) (post := []) (a := 0) (b := 10) (hpc := 17) (ct := 13) (d2 := 64) hN (hC M hR) rfl rfl v_10_18 rfl rfl (by decide) rfl rfl (Nat.le_of_ble_eq_true rfl) (by decide) (by decide) rfl rfl ⟨by decide, by decide⟩ (Or.inr ⟨rfl, rfl⟩) (fun z hz => by rw [List.mem_singleton.mp hz]; exact ⟨⟨by decide, by decide⟩, rfl, rfl⟩) (fun z M2 hP => ?_)
  refine b_astore rfl rfl rfl rfl ?_
  refine b_iconstN (b := 2) rfl rfl ?_
  exact b_iretH ⟨rfl, ph_pc hP⟩ rfl rfl rfl (by decide)
set_option maxHeartbeats 1000000 in
theorem h_array_R {G : Gd} {A A' : Ab} {M : Mm} (hG : Gok G) (hN : Nc G)  {x : Int64} (hC : ∀ M, RC A M → Ce G mX8_array 64 (.ref (ga G (0, 0)) :: []) M (.inl (some (.long x))) (PC M A') 0) (hR : RC A M) : Ch hL_array G mL_array 65 [.ref (ga G (0, 0)), .ref (ga G (70, 0))] M (QL9 M A' x) 0 := by
  refine ch_of hG okL_array (by decide +kernel) rfl (Nat.le_of_ble_eq_true rfl) ?_
  refine b_aload_n rfl rfl rfl ?_
  refine b_iconstN (b := 0) rfl rfl ?_
  refine b_aload_n rfl rfl rfl ?_
  refine b_callVe (d2 := 64) (hC M hR) rfl rfl v_10_24 rfl rfl (by decide) rfl rfl (Nat.le_of_ble_eq_true rfl) (by decide) (by decide) (fun M2 hP => ?_)
  refine b_last (q := (70, 0)) (a := 0) (L := 1) rfl rfl rfl (by decide) (by decide) (by decide) ?_
  refine b_goto rfl rfl ?_
  refine b_iconstN (b := 0) rfl rfl ?_
  exact b_iretH ⟨rfl, (ph_ul hP).1, (ph_ul hP).2⟩ rfl rfl rfl (by decide)
set_option maxHeartbeats 1000000 in
theorem h_array_ISE {G : Gd} {A A' : Ab} {M : Mm} (hG : Gok G) (hN : Nc G)  (hC : ∀ M, RC A M → Ce G mX8_array 64 (.ref (ga G (0, 0)) :: []) M (.inr ISE) (PC M A') 1) (hR : RC A M) : Ch hL_array G mL_array 65 [.ref (ga G (0, 0)), .ref (ga G (70, 0))] M (QX9 M A' 1) 1 := by
  refine ch_of hG okL_array (by decide +kernel) rfl (Nat.le_of_ble_eq_true rfl) ?_
  refine b_aload_n rfl rfl rfl ?_
  refine b_iconstN (b := 0) rfl rfl ?_
  refine b_aload_n rfl rfl rfl ?_
  refine b_catchV (pre := []) (post := []) (a := 0) (b := 7) (hpc := 10) (ct := 13) (d2 := 64) hN (hC M hR) rfl rfl v_10_24 rfl rfl (by decide) rfl rfl (Nat.le_of_ble_eq_true rfl) (by decide) (by decide) rfl rfl ⟨by decide, by decide⟩ (Or.inr ⟨rfl, rfl⟩) (fun z hz => by cases hz) (fun z M2 hP => ?_)
  refine b_astore_n rfl rfl rfl rfl ?_
  refine b_iconstN (b := 1) rfl rfl ?_
  exact b_iretH ⟨rfl, ph_pc hP⟩ rfl rfl rfl (by decide)
set_option maxHeartbeats 1000000 in
theorem h_traits_R {G : Gd} {A A' : Ab} {M : Mm} (hG : Gok G) (hN : Nc G) (p0 : Int64) (p1 : Int32) (p2 : Int64) (p3 : Int64) (p4 : Int64) {x : Int32} (hC : ∀ M, RC A M → Ce G mX8_traits 64 (.ref (ga G (0, 0)) :: [.long p0, .int p1, .long p2, .long p3, .long p4]) M (.inl (some (.int x))) (PC M A') 0) (hR : RC A M) : Ch hL_traits G mL_traits 65 [.ref (ga G (0, 0)), .long p0, .int p1, .long p2, .long p3, .long p4, .ref (ga G (70, 0))] M (QL9 M A' x.toInt64) 0 := by
  refine ch_of hG okL_traits (by decide +kernel) rfl (Nat.le_of_ble_eq_true rfl) ?_
  refine b_aload rfl rfl rfl ?_
  refine b_iconstN (b := 0) rfl rfl ?_
  refine b_aload_n rfl rfl rfl ?_
  refine b_lload_n rfl rfl rfl ?_
  refine b_iload_n rfl rfl rfl ?_
  refine b_lload rfl rfl rfl ?_
  refine b_lload rfl rfl rfl ?_
  refine b_lload rfl rfl rfl ?_
  refine b_callVe (d2 := 64) (hC M hR) rfl rfl v_10_28 rfl rfl (by decide) rfl rfl (Nat.le_of_ble_eq_true rfl) (by decide) (by decide) (fun M2 hP => ?_)
  refine b_i2l rfl rfl ?_
  refine b_last (q := (70, 0)) (a := 0) (L := 1) rfl rfl rfl (by decide) (by decide) (by decide) ?_
  refine b_goto rfl rfl ?_
  refine b_iconstN (b := 0) rfl rfl ?_
  exact b_iretH ⟨rfl, (ph_ul hP).1, (ph_ul hP).2⟩ rfl rfl rfl (by decide)
set_option maxHeartbeats 1000000 in
theorem h_traits_IAE {G : Gd} {A A' : Ab} {M : Mm} (hG : Gok G) (hN : Nc G) (p0 : Int64) (p1 : Int32) (p2 : Int64) (p3 : Int64) (p4 : Int64) (hC : ∀ M, RC A M → Ce G mX8_traits 64 (.ref (ga G (0, 0)) :: [.long p0, .int p1, .long p2, .long p3, .long p4]) M (.inr IAE) (PC M A') 1) (hR : RC A M) : Ch hL_traits G mL_traits 65 [.ref (ga G (0, 0)), .long p0, .int p1, .long p2, .long p3, .long p4, .ref (ga G (70, 0))] M (QX9 M A' 1) 1 := by
  refine ch_of hG okL_traits (by decide +kernel) rfl (Nat.le_of_ble_eq_true rfl) ?_
  refine b_aload rfl rfl rfl ?_
  refine b_iconstN (b := 0) rfl rfl ?_
  refine b_aload_n rfl rfl rfl ?_
  refine b_lload_n rfl rfl rfl ?_
  refine b_iload_n rfl rfl rfl ?_
  refine b_lload rfl rfl rfl ?_
  refine b_lload rfl rfl rfl ?_
  refine b_lload rfl rfl rfl ?_
  refine b_catchV (pre := []) (post := [(0, 17, 24, 13)]) (a := 0) (b := 17) (hpc := 20) (ct := 22) (d2 := 64) hN (hC M hR) rfl rfl v_10_28 rfl rfl (by decide) rfl rfl (Nat.le_of_ble_eq_true rfl) (by decide) (by decide) rfl rfl ⟨by decide, by decide⟩ (Or.inl ⟨rfl, rfl⟩) (fun z hz => by cases hz) (fun z M2 hP => ?_)
  refine b_astore rfl rfl rfl rfl ?_
  refine b_iconstN (b := 1) rfl rfl ?_
  exact b_iretH ⟨rfl, ph_pc hP⟩ rfl rfl rfl (by decide)
set_option maxHeartbeats 1000000 in
theorem h_traits_ISE {G : Gd} {A A' : Ab} {M : Mm} (hG : Gok G) (hN : Nc G) (p0 : Int64) (p1 : Int32) (p2 : Int64) (p3 : Int64) (p4 : Int64) (hC : ∀ M, RC A M → Ce G mX8_traits 64 (.ref (ga G (0, 0)) :: [.long p0, .int p1, .long p2, .long p3, .long p4]) M (.inr ISE) (PC M A') 1) (hR : RC A M) : Ch hL_traits G mL_traits 65 [.ref (ga G (0, 0)), .long p0, .int p1, .long p2, .long p3, .long p4, .ref (ga G (70, 0))] M (QX9 M A' 2) 1 := by
  refine ch_of hG okL_traits (by decide +kernel) rfl (Nat.le_of_ble_eq_true rfl) ?_
  refine b_aload rfl rfl rfl ?_
  refine b_iconstN (b := 0) rfl rfl ?_
  refine b_aload_n rfl rfl rfl ?_
  refine b_lload_n rfl rfl rfl ?_
  refine b_iload_n rfl rfl rfl ?_
  refine b_lload rfl rfl rfl ?_
  refine b_lload rfl rfl rfl ?_
  refine b_lload rfl rfl rfl ?_
  refine b_catchV (pre := [(0, 17, 20, 22)]) (post := []) (a := 0) (b := 17) (hpc := 24) (ct := 13) (d2 := 64) hN (hC M hR) rfl rfl v_10_28 rfl rfl (by decide) rfl rfl (Nat.le_of_ble_eq_true rfl) (by decide) (by decide) rfl rfl ⟨by decide, by decide⟩ (Or.inr ⟨rfl, rfl⟩) (fun z hz => by rw [List.mem_singleton.mp hz]; exact ⟨⟨by decide, by decide⟩, rfl, rfl⟩) (fun z M2 hP => ?_)
  refine b_astore rfl rfl rfl rfl ?_
  refine b_iconstN (b := 2) rfl rfl ?_
  exact b_iretH ⟨rfl, ph_pc hP⟩ rfl rfl rfl (by decide)
set_option maxHeartbeats 1000000 in
theorem h_object_R {G : Gd} {A A' : Ab} {M : Mm} (hG : Gok G) (hN : Nc G) (p0 : Int32) {x : Int64} (hC : ∀ M, RC A M → Ce G mX8_object 64 (.ref (ga G (0, 0)) :: [.int p0]) M (.inl (some (.long x))) (PC M A') 0) (hR : RC A M) : Ch hL_object G mL_object 65 [.ref (ga G (0, 0)), .int p0, .ref (ga G (70, 0))] M (QL9 M A' x) 0 := by
  refine ch_of hG okL_object (by decide +kernel) rfl (Nat.le_of_ble_eq_true rfl) ?_
  refine b_aload_n rfl rfl rfl ?_
  refine b_iconstN (b := 0) rfl rfl ?_
  refine b_aload_n rfl rfl rfl ?_
  refine b_iload_n rfl rfl rfl ?_
  refine b_callVe (d2 := 64) (hC M hR) rfl rfl v_10_32 rfl rfl (by decide) rfl rfl (Nat.le_of_ble_eq_true rfl) (by decide) (by decide) (fun M2 hP => ?_)
  refine b_last (q := (70, 0)) (a := 0) (L := 1) rfl rfl rfl (by decide) (by decide) (by decide) ?_
  refine b_goto rfl rfl ?_
  refine b_iconstN (b := 0) rfl rfl ?_
  exact b_iretH ⟨rfl, (ph_ul hP).1, (ph_ul hP).2⟩ rfl rfl rfl (by decide)
set_option maxHeartbeats 1000000 in
theorem h_object_IAE {G : Gd} {A A' : Ab} {M : Mm} (hG : Gok G) (hN : Nc G) (p0 : Int32) (hC : ∀ M, RC A M → Ce G mX8_object 64 (.ref (ga G (0, 0)) :: [.int p0]) M (.inr IAE) (PC M A') 1) (hR : RC A M) : Ch hL_object G mL_object 65 [.ref (ga G (0, 0)), .int p0, .ref (ga G (70, 0))] M (QX9 M A' 1) 1 := by
  refine ch_of hG okL_object (by decide +kernel) rfl (Nat.le_of_ble_eq_true rfl) ?_
  refine b_aload_n rfl rfl rfl ?_
  refine b_iconstN (b := 0) rfl rfl ?_
  refine b_aload_n rfl rfl rfl ?_
  refine b_iload_n rfl rfl rfl ?_
  refine b_catchV (pre := []) (post := [(0, 8, 14, 13)]) (a := 0) (b := 8) (hpc := 11) (ct := 22) (d2 := 64) hN (hC M hR) rfl rfl v_10_32 rfl rfl (by decide) rfl rfl (Nat.le_of_ble_eq_true rfl) (by decide) (by decide) rfl rfl ⟨by decide, by decide⟩ (Or.inl ⟨rfl, rfl⟩) (fun z hz => by cases hz) (fun z M2 hP => ?_)
  refine b_astore_n rfl rfl rfl rfl ?_
  refine b_iconstN (b := 1) rfl rfl ?_
  exact b_iretH ⟨rfl, ph_pc hP⟩ rfl rfl rfl (by decide)
set_option maxHeartbeats 1000000 in
theorem h_object_ISE {G : Gd} {A A' : Ab} {M : Mm} (hG : Gok G) (hN : Nc G) (p0 : Int32) (hC : ∀ M, RC A M → Ce G mX8_object 64 (.ref (ga G (0, 0)) :: [.int p0]) M (.inr ISE) (PC M A') 1) (hR : RC A M) : Ch hL_object G mL_object 65 [.ref (ga G (0, 0)), .int p0, .ref (ga G (70, 0))] M (QX9 M A' 2) 1 := by
  refine ch_of hG okL_object (by decide +kernel) rfl (Nat.le_of_ble_eq_true rfl) ?_
  refine b_aload_n rfl rfl rfl ?_
  refine b_iconstN (b := 0) rfl rfl ?_
  refine b_aload_n rfl rfl rfl ?_
  refine b_iload_n rfl rfl rfl ?_
  refine b_catchV (pre := [(0, 8, 11, 22)]) (post := []) (a := 0) (b := 8) (hpc := 14) (ct := 13) (d2 := 64) hN (hC M hR) rfl rfl v_10_32 rfl rfl (by decide) rfl rfl (Nat.le_of_ble_eq_true rfl) (by decide) (by decide) rfl rfl ⟨by decide, by decide⟩ (Or.inr ⟨rfl, rfl⟩) (fun z hz => by rw [List.mem_singleton.mp hz]; exact ⟨⟨by decide, by decide⟩, rfl, rfl⟩) (fun z M2 hP => ?_)
  refine b_astore_n rfl rfl rfl rfl ?_
  refine b_iconstN (b := 2) rfl rfl ?_
  exact b_iretH ⟨rfl, ph_pc hP⟩ rfl rfl rfl (by decide)
set_option maxHeartbeats 1000000 in
theorem h_append_R {G : Gd} {A A' : Ab} {M : Mm} (hG : Gok G) (hN : Nc G) (p0 : Int32) (p1 : Int64) {x : Int32} (hC : ∀ M, RC A M → Ce G mX8_append 64 (.ref (ga G (0, 0)) :: [.int p0, .long p1]) M (.inl (some (.int x))) (PC M A') 0) (hR : RC A M) : Ch hL_append G mL_append 65 [.ref (ga G (0, 0)), .int p0, .long p1, .ref (ga G (70, 0))] M (QL9 M A' x.toInt64) 0 := by
  refine ch_of hG okL_append (by decide +kernel) rfl (Nat.le_of_ble_eq_true rfl) ?_
  refine b_aload rfl rfl rfl ?_
  refine b_iconstN (b := 0) rfl rfl ?_
  refine b_aload_n rfl rfl rfl ?_
  refine b_iload_n rfl rfl rfl ?_
  refine b_lload_n rfl rfl rfl ?_
  refine b_callVe (d2 := 64) (hC M hR) rfl rfl v_10_36 rfl rfl (by decide) rfl rfl (Nat.le_of_ble_eq_true rfl) (by decide) (by decide) (fun M2 hP => ?_)
  refine b_i2l rfl rfl ?_
  refine b_last (q := (70, 0)) (a := 0) (L := 1) rfl rfl rfl (by decide) (by decide) (by decide) ?_
  refine b_goto rfl rfl ?_
  refine b_iconstN (b := 0) rfl rfl ?_
  exact b_iretH ⟨rfl, (ph_ul hP).1, (ph_ul hP).2⟩ rfl rfl rfl (by decide)
set_option maxHeartbeats 1000000 in
theorem h_append_IAE {G : Gd} {A A' : Ab} {M : Mm} (hG : Gok G) (hN : Nc G) (p0 : Int32) (p1 : Int64) (hC : ∀ M, RC A M → Ce G mX8_append 64 (.ref (ga G (0, 0)) :: [.int p0, .long p1]) M (.inr IAE) (PC M A') 1) (hR : RC A M) : Ch hL_append G mL_append 65 [.ref (ga G (0, 0)), .int p0, .long p1, .ref (ga G (70, 0))] M (QX9 M A' 1) 1 := by
  refine ch_of hG okL_append (by decide +kernel) rfl (Nat.le_of_ble_eq_true rfl) ?_
  refine b_aload rfl rfl rfl ?_
  refine b_iconstN (b := 0) rfl rfl ?_
  refine b_aload_n rfl rfl rfl ?_
  refine b_iload_n rfl rfl rfl ?_
  refine b_lload_n rfl rfl rfl ?_
  refine b_catchV (pre := []) (post := [(0, 11, 18, 13)]) (a := 0) (b := 11) (hpc := 14) (ct := 22) (d2 := 64) hN (hC M hR) rfl rfl v_10_36 rfl rfl (by decide) rfl rfl (Nat.le_of_ble_eq_true rfl) (by decide) (by decide) rfl rfl ⟨by decide, by decide⟩ (Or.inl ⟨rfl, rfl⟩) (fun z hz => by cases hz) (fun z M2 hP => ?_)
  refine b_astore rfl rfl rfl rfl ?_
  refine b_iconstN (b := 1) rfl rfl ?_
  exact b_iretH ⟨rfl, ph_pc hP⟩ rfl rfl rfl (by decide)
set_option maxHeartbeats 1000000 in
theorem h_append_ISE {G : Gd} {A A' : Ab} {M : Mm} (hG : Gok G) (hN : Nc G) (p0 : Int32) (p1 : Int64) (hC : ∀ M, RC A M → Ce G mX8_append 64 (.ref (ga G (0, 0)) :: [.int p0, .long p1]) M (.inr ISE) (PC M A') 1) (hR : RC A M) : Ch hL_append G mL_append 65 [.ref (ga G (0, 0)), .int p0, .long p1, .ref (ga G (70, 0))] M (QX9 M A' 2) 1 := by
  refine ch_of hG okL_append (by decide +kernel) rfl (Nat.le_of_ble_eq_true rfl) ?_
  refine b_aload rfl rfl rfl ?_
  refine b_iconstN (b := 0) rfl rfl ?_
  refine b_aload_n rfl rfl rfl ?_
  refine b_iload_n rfl rfl rfl ?_
  refine b_lload_n rfl rfl rfl ?_
  refine b_catchV (pre := [(0, 11, 14, 22)]) (post := []) (a := 0) (b := 11) (hpc := 18) (ct := 13) (d2 := 64) hN (hC M hR) rfl rfl v_10_36 rfl rfl (by decide) rfl rfl (Nat.le_of_ble_eq_true rfl) (by decide) (by decide) rfl rfl ⟨by decide, by decide⟩ (Or.inr ⟨rfl, rfl⟩) (fun z hz => by rw [List.mem_singleton.mp hz]; exact ⟨⟨by decide, by decide⟩, rfl, rfl⟩) (fun z M2 hP => ?_)
  refine b_astore rfl rfl rfl rfl ?_
  refine b_iconstN (b := 2) rfl rfl ?_
  exact b_iretH ⟨rfl, ph_pc hP⟩ rfl rfl rfl (by decide)
set_option maxHeartbeats 1000000 in
theorem h_set_R {G : Gd} {A A' : Ab} {M : Mm} (hG : Gok G) (hN : Nc G) (p0 : Int32) (p1 : Int32) (p2 : Int64) (hC : ∀ M, RC A M → Ce G mX8_set 64 (.ref (ga G (0, 0)) :: [.int p0, .int p1, .long p2]) M (.inl none) (PC M A') 0) (hR : RC A M) : Ch hL_set G mL_set 65 [.ref (ga G (0, 0)), .int p0, .int p1, .long p2] M (QX9 M A' 0) 0 := by
  refine ch_of hG okL_set (by decide +kernel) rfl (Nat.le_of_ble_eq_true rfl) ?_
  refine b_aload_n rfl rfl rfl ?_
  refine b_iload_n rfl rfl rfl ?_
  refine b_iload_n rfl rfl rfl ?_
  refine b_lload_n rfl rfl rfl ?_
  refine b_callVe (d2 := 64) (hC M hR) rfl rfl v_10_40 rfl rfl (by decide) rfl rfl (Nat.le_of_ble_eq_true rfl) (by decide) (by decide) (fun M2 hP => ?_)
  refine b_goto rfl rfl ?_
  refine b_iconstN (b := 0) rfl rfl ?_
  exact b_iretH ⟨rfl, ph_pc hP⟩ rfl rfl rfl (by decide)
set_option maxHeartbeats 1000000 in
theorem h_set_IAE {G : Gd} {A A' : Ab} {M : Mm} (hG : Gok G) (hN : Nc G) (p0 : Int32) (p1 : Int32) (p2 : Int64) (hC : ∀ M, RC A M → Ce G mX8_set 64 (.ref (ga G (0, 0)) :: [.int p0, .int p1, .long p2]) M (.inr IAE) (PC M A') 1) (hR : RC A M) : Ch hL_set G mL_set 65 [.ref (ga G (0, 0)), .int p0, .int p1, .long p2] M (QX9 M A' 1) 1 := by
  refine ch_of hG okL_set (by decide +kernel) rfl (Nat.le_of_ble_eq_true rfl) ?_
  refine b_aload_n rfl rfl rfl ?_
  refine b_iload_n rfl rfl rfl ?_
  refine b_iload_n rfl rfl rfl ?_
  refine b_lload_n rfl rfl rfl ?_
  refine b_catchV (pre := []) (post := []) (a := 0) (b := 7) (hpc := 10) (ct := 22) (d2 := 64) hN (hC M hR) rfl rfl v_10_40 rfl rfl (by decide) rfl rfl (Nat.le_of_ble_eq_true rfl) (by decide) (by decide) rfl rfl ⟨by decide, by decide⟩ (Or.inl ⟨rfl, rfl⟩) (fun z hz => by cases hz) (fun z M2 hP => ?_)
  refine b_astore rfl rfl rfl rfl ?_
  refine b_iconstN (b := 1) rfl rfl ?_
  exact b_iretH ⟨rfl, ph_pc hP⟩ rfl rfl rfl (by decide)
set_option maxHeartbeats 1000000 in
theorem h_put_R {G : Gd} {A A' : Ab} {M : Mm} (hG : Gok G) (hN : Nc G) (p0 : Int32) (p1 : Int64) (p2 : Int64) {x : Int32} (hC : ∀ M, RC A M → Ce G mX8_put 64 (.ref (ga G (0, 0)) :: [.int p0, .long p1, .long p2]) M (.inl (some (.int x))) (PC M A') 0) (hR : RC A M) : Ch hL_put G mL_put 65 [.ref (ga G (0, 0)), .int p0, .long p1, .long p2, .ref (ga G (70, 0))] M (QL9 M A' x.toInt64) 0 := by
  refine ch_of hG okL_put (by decide +kernel) rfl (Nat.le_of_ble_eq_true rfl) ?_
  refine b_aload rfl rfl rfl ?_
  refine b_iconstN (b := 0) rfl rfl ?_
  refine b_aload_n rfl rfl rfl ?_
  refine b_iload_n rfl rfl rfl ?_
  refine b_lload_n rfl rfl rfl ?_
  refine b_lload rfl rfl rfl ?_
  refine b_callVe (d2 := 64) (hC M hR) rfl rfl v_10_44 rfl rfl (by decide) rfl rfl (Nat.le_of_ble_eq_true rfl) (by decide) (by decide) (fun M2 hP => ?_)
  refine b_i2l rfl rfl ?_
  refine b_last (q := (70, 0)) (a := 0) (L := 1) rfl rfl rfl (by decide) (by decide) (by decide) ?_
  refine b_goto rfl rfl ?_
  refine b_iconstN (b := 0) rfl rfl ?_
  exact b_iretH ⟨rfl, (ph_ul hP).1, (ph_ul hP).2⟩ rfl rfl rfl (by decide)
set_option maxHeartbeats 1000000 in
theorem h_put_IAE {G : Gd} {A A' : Ab} {M : Mm} (hG : Gok G) (hN : Nc G) (p0 : Int32) (p1 : Int64) (p2 : Int64) (hC : ∀ M, RC A M → Ce G mX8_put 64 (.ref (ga G (0, 0)) :: [.int p0, .long p1, .long p2]) M (.inr IAE) (PC M A') 1) (hR : RC A M) : Ch hL_put G mL_put 65 [.ref (ga G (0, 0)), .int p0, .long p1, .long p2, .ref (ga G (70, 0))] M (QX9 M A' 1) 1 := by
  refine ch_of hG okL_put (by decide +kernel) rfl (Nat.le_of_ble_eq_true rfl) ?_
  refine b_aload rfl rfl rfl ?_
  refine b_iconstN (b := 0) rfl rfl ?_
  refine b_aload_n rfl rfl rfl ?_
  refine b_iload_n rfl rfl rfl ?_
  refine b_lload_n rfl rfl rfl ?_
  refine b_lload rfl rfl rfl ?_
  refine b_catchV (pre := []) (post := [(0, 13, 20, 13)]) (a := 0) (b := 13) (hpc := 16) (ct := 22) (d2 := 64) hN (hC M hR) rfl rfl v_10_44 rfl rfl (by decide) rfl rfl (Nat.le_of_ble_eq_true rfl) (by decide) (by decide) rfl rfl ⟨by decide, by decide⟩ (Or.inl ⟨rfl, rfl⟩) (fun z hz => by cases hz) (fun z M2 hP => ?_)
  refine b_astore rfl rfl rfl rfl ?_
  refine b_iconstN (b := 1) rfl rfl ?_
  exact b_iretH ⟨rfl, ph_pc hP⟩ rfl rfl rfl (by decide)
set_option maxHeartbeats 1000000 in
theorem h_put_ISE {G : Gd} {A A' : Ab} {M : Mm} (hG : Gok G) (hN : Nc G) (p0 : Int32) (p1 : Int64) (p2 : Int64) (hC : ∀ M, RC A M → Ce G mX8_put 64 (.ref (ga G (0, 0)) :: [.int p0, .long p1, .long p2]) M (.inr ISE) (PC M A') 1) (hR : RC A M) : Ch hL_put G mL_put 65 [.ref (ga G (0, 0)), .int p0, .long p1, .long p2, .ref (ga G (70, 0))] M (QX9 M A' 2) 1 := by
  refine ch_of hG okL_put (by decide +kernel) rfl (Nat.le_of_ble_eq_true rfl) ?_
  refine b_aload rfl rfl rfl ?_
  refine b_iconstN (b := 0) rfl rfl ?_
  refine b_aload_n rfl rfl rfl ?_
  refine b_iload_n rfl rfl rfl ?_
  refine b_lload_n rfl rfl rfl ?_
  refine b_lload rfl rfl rfl ?_
  refine b_catchV (pre := [(0, 13, 16, 22)]) (post := []) (a := 0) (b := 13) (hpc := 20) (ct := 13) (d2 := 64) hN (hC M hR) rfl rfl v_10_44 rfl rfl (by decide) rfl rfl (Nat.le_of_ble_eq_true rfl) (by decide) (by decide) rfl rfl ⟨by decide, by decide⟩ (Or.inr ⟨rfl, rfl⟩) (fun z hz => by rw [List.mem_singleton.mp hz]; exact ⟨⟨by decide, by decide⟩, rfl, rfl⟩) (fun z M2 hP => ?_)
  refine b_astore rfl rfl rfl rfl ?_
  refine b_iconstN (b := 2) rfl rfl ?_
  exact b_iretH ⟨rfl, ph_pc hP⟩ rfl rfl rfl (by decide)
set_option maxHeartbeats 1000000 in
theorem h_encode_R {G : Gd} {A A' : Ab} {M : Mm} (hG : Gok G) (hN : Nc G) (p0 : Int64) {x : Int32} (hC : ∀ M, RC A M → Ce G mX8_encode 64 (.ref (ga G (0, 0)) :: [.long p0]) M (.inl (some (.int x))) (PC M A') 0) (hR : RC A M) : Ch hL_encode G mL_encode 65 [.ref (ga G (0, 0)), .long p0, .ref (ga G (70, 0))] M (QL9 M A' x.toInt64) 0 := by
  refine ch_of hG okL_encode (by decide +kernel) rfl (Nat.le_of_ble_eq_true rfl) ?_
  refine b_aload_n rfl rfl rfl ?_
  refine b_iconstN (b := 0) rfl rfl ?_
  refine b_aload_n rfl rfl rfl ?_
  refine b_lload_n rfl rfl rfl ?_
  refine b_callVe (d2 := 64) (hC M hR) rfl rfl v_10_48 rfl rfl (by decide) rfl rfl (Nat.le_of_ble_eq_true rfl) (by decide) (by decide) (fun M2 hP => ?_)
  refine b_i2l rfl rfl ?_
  refine b_last (q := (70, 0)) (a := 0) (L := 1) rfl rfl rfl (by decide) (by decide) (by decide) ?_
  refine b_goto rfl rfl ?_
  refine b_iconstN (b := 0) rfl rfl ?_
  exact b_iretH ⟨rfl, (ph_ul hP).1, (ph_ul hP).2⟩ rfl rfl rfl (by decide)
set_option maxHeartbeats 1000000 in
theorem h_encode_IAE {G : Gd} {A A' : Ab} {M : Mm} (hG : Gok G) (hN : Nc G) (p0 : Int64) (hC : ∀ M, RC A M → Ce G mX8_encode 64 (.ref (ga G (0, 0)) :: [.long p0]) M (.inr IAE) (PC M A') 1) (hR : RC A M) : Ch hL_encode G mL_encode 65 [.ref (ga G (0, 0)), .long p0, .ref (ga G (70, 0))] M (QX9 M A' 1) 1 := by
  refine ch_of hG okL_encode (by decide +kernel) rfl (Nat.le_of_ble_eq_true rfl) ?_
  refine b_aload_n rfl rfl rfl ?_
  refine b_iconstN (b := 0) rfl rfl ?_
  refine b_aload_n rfl rfl rfl ?_
  refine b_lload_n rfl rfl rfl ?_
  refine b_catchV (pre := []) (post := [(0, 9, 16, 13)]) (a := 0) (b := 9) (hpc := 12) (ct := 22) (d2 := 64) hN (hC M hR) rfl rfl v_10_48 rfl rfl (by decide) rfl rfl (Nat.le_of_ble_eq_true rfl) (by decide) (by decide) rfl rfl ⟨by decide, by decide⟩ (Or.inl ⟨rfl, rfl⟩) (fun z hz => by cases hz) (fun z M2 hP => ?_)
  refine b_astore rfl rfl rfl rfl ?_
  refine b_iconstN (b := 1) rfl rfl ?_
  exact b_iretH ⟨rfl, ph_pc hP⟩ rfl rfl rfl (by decide)
set_option maxHeartbeats 1000000 in
theorem h_encode_ISE {G : Gd} {A A' : Ab} {M : Mm} (hG : Gok G) (hN : Nc G) (p0 : Int64) (hC : ∀ M, RC A M → Ce G mX8_encode 64 (.ref (ga G (0, 0)) :: [.long p0]) M (.inr ISE) (PC M A') 1) (hR : RC A M) : Ch hL_encode G mL_encode 65 [.ref (ga G (0, 0)), .long p0, .ref (ga G (70, 0))] M (QX9 M A' 2) 1 := by
  refine ch_of hG okL_encode (by decide +kernel) rfl (Nat.le_of_ble_eq_true rfl) ?_
  refine b_aload_n rfl rfl rfl ?_
  refine b_iconstN (b := 0) rfl rfl ?_
  refine b_aload_n rfl rfl rfl ?_
  refine b_lload_n rfl rfl rfl ?_
  refine b_catchV (pre := [(0, 9, 12, 22)]) (post := []) (a := 0) (b := 9) (hpc := 16) (ct := 13) (d2 := 64) hN (hC M hR) rfl rfl v_10_48 rfl rfl (by decide) rfl rfl (Nat.le_of_ble_eq_true rfl) (by decide) (by decide) rfl rfl ⟨by decide, by decide⟩ (Or.inr ⟨rfl, rfl⟩) (fun z hz => by rw [List.mem_singleton.mp hz]; exact ⟨⟨by decide, by decide⟩, rfl, rfl⟩) (fun z M2 hP => ?_)
  refine b_astore rfl rfl rfl rfl ?_
  refine b_iconstN (b := 2) rfl rfl ?_
  exact b_iretH ⟨rfl, ph_pc hP⟩ rfl rfl rfl (by decide)
set_option maxHeartbeats 1000000 in
theorem h_decode_R {G : Gd} {A A' : Ab} {M : Mm} (hG : Gok G) (hN : Nc G)  {x : Int64} (hC : ∀ M, RC A M → Ce G mX8_decode 64 (.ref (ga G (0, 0)) :: []) M (.inl (some (.long x))) (PC M A') 0) (hR : RC A M) : Ch hL_decode G mL_decode 65 [.ref (ga G (0, 0)), .ref (ga G (70, 0))] M (QL9 M A' x) 0 := by
  refine ch_of hG okL_decode (by decide +kernel) rfl (Nat.le_of_ble_eq_true rfl) ?_
  refine b_aload_n rfl rfl rfl ?_
  refine b_iconstN (b := 0) rfl rfl ?_
  refine b_aload_n rfl rfl rfl ?_
  refine b_callVe (d2 := 64) (hC M hR) rfl rfl v_10_52 rfl rfl (by decide) rfl rfl (Nat.le_of_ble_eq_true rfl) (by decide) (by decide) (fun M2 hP => ?_)
  refine b_last (q := (70, 0)) (a := 0) (L := 1) rfl rfl rfl (by decide) (by decide) (by decide) ?_
  refine b_goto rfl rfl ?_
  refine b_iconstN (b := 0) rfl rfl ?_
  exact b_iretH ⟨rfl, (ph_ul hP).1, (ph_ul hP).2⟩ rfl rfl rfl (by decide)
set_option maxHeartbeats 1000000 in
theorem h_decode_IAE {G : Gd} {A A' : Ab} {M : Mm} (hG : Gok G) (hN : Nc G)  (hC : ∀ M, RC A M → Ce G mX8_decode 64 (.ref (ga G (0, 0)) :: []) M (.inr IAE) (PC M A') 1) (hR : RC A M) : Ch hL_decode G mL_decode 65 [.ref (ga G (0, 0)), .ref (ga G (70, 0))] M (QX9 M A' 1) 1 := by
  refine ch_of hG okL_decode (by decide +kernel) rfl (Nat.le_of_ble_eq_true rfl) ?_
  refine b_aload_n rfl rfl rfl ?_
  refine b_iconstN (b := 0) rfl rfl ?_
  refine b_aload_n rfl rfl rfl ?_
  refine b_catchV (pre := []) (post := []) (a := 0) (b := 7) (hpc := 10) (ct := 22) (d2 := 64) hN (hC M hR) rfl rfl v_10_52 rfl rfl (by decide) rfl rfl (Nat.le_of_ble_eq_true rfl) (by decide) (by decide) rfl rfl ⟨by decide, by decide⟩ (Or.inl ⟨rfl, rfl⟩) (fun z hz => by cases hz) (fun z M2 hP => ?_)
  refine b_astore_n rfl rfl rfl rfl ?_
  refine b_iconstN (b := 1) rfl rfl ?_
  exact b_iretH ⟨rfl, ph_pc hP⟩ rfl rfl rfl (by decide)
