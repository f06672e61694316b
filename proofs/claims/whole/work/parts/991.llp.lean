/-! THE LAW'S LOOP, AND ITS END -/
theorem lp_go {L i : Nat} (hL : L ≤ 5120) (hi : i ≤ 6000) (h : ¬ (nI L - nI 10 < nI i)) : i + 10 ≤ L := by
  by_cases h10 : 10 ≤ L
  · have e : nI L - nI 10 = nI (L - 10) := by
      have h1 := nI_add (L - 10) 10
      rw [show L - 10 + 10 = L by omega] at h1
      rw [← h1, Int32.add_sub_cancel]
    rw [e, nI_ltI (by omega) (by omega)] at h
    omega
  · exfalso
    apply h
    have h1 : ∀ L, L < 10 → nI L - nI 10 < 0 := by decide +kernel
    exact Int32.lt_of_lt_of_le (h1 L (by omega)) (nI_pos' (by omega))
theorem m31 (a : Int32) : ∃ j : Nat, j < 32 ∧ a &&& nI 31 = nI j := by
  refine ⟨(a &&& nI 31).toBitVec.toNat, ?_, ?_⟩
  · have h1 : (a &&& nI 31).toBitVec = a.toBitVec &&& 31#32 := rfl
    rw [h1, BitVec.toNat_and]
    exact Nat.lt_of_le_of_lt Nat.and_le_right (by decide)
  · apply Int32.toBitVec_inj.mp
    show _ = BitVec.ofNat 32 _
    simp
def Zl (G : Gd) : Zt := fun below args s t => s.heap.size ≤ gb G → lw_Z below args s t
section LE
variable {G : Gd} {hp : Method → Code → Prop} {kf k b L i : Nat} {Z : Zt} {xs : Nat → Int32} {A : Ab} {M : Mm} {lv : List (Nat × Value)}
theorem b_lend (hk : k ≤ kf) (h1 : kf ≤ 601024) (h2 : 6 * kf ≤ 7293034) : Fb G mL_h hp 70 kf (Zl G) k 1789 lv [] (HqE G M) := by
  refine b_iconstN (b := 1) rfl rfl ?_
  intro p e R s m args below meth c H locs ls C hx hH hL
  obtain ⟨hg, hok, ha, hb, hret, hlk, hml, hown, hwm, -⟩ := id C
  have hd := (hok.get (pc := 1790) (i := .ireturn) (n := 1791) (t := 0) rfl).1
  by_cases hs : s.heap.size ≤ gb G
  · refine va_forget (fun z hz => Nat.le_trans hs (hH.2.2 z hz)) (W.widen (k := 601024) (n := 7293034) (by omega) (by omega) ?_)
    have w : W p (gl G) e R s m args below meth c H [] 601024 7293034 (MQ below (fun _ _ o _ => o = .returned (some (.int 1))) args s 601024 7293034 (fun _ => False)) (F0 m 1790 ls [.int (nI 1)]) :=
      W.zret (ty := .boolean) ha hb (hret.trans rfl) (by rfl) (fun t _ _ => by rfl) (fun q h => by cases h) hd hlk
    intro T hT X
    obtain ⟨t, a1, o, b1, b2, b3, Lq, b4, b5⟩ := w T hT X
    have hnil : Lq = [] := by
      cases Lq with
      | nil => rfl
      | cons z r => exact (b5 z List.mem_cons_self).elim
    subst hnil
    exact ⟨t, a1, fun _ => ⟨o, b1, b2, b3, b4⟩⟩
  · intro T hT X
    exact ⟨_, Steps.refl _, fun h => absurd h hs⟩
set_option maxHeartbeats 2000000 in
set_option maxRecDepth 20000 in
theorem law_sw (hG : Gok G) (hN : Nc G) (hS : Sx G b L xs) (hi : i + 10 ≤ L) (hL : L ≤ 5120) (hk : k + 1 ≤ kf) (hwf : wfA A) (hR : RC A M) (hM : RM A M) (kk : Kn G hp kf Z k b i) : Fb G mL_h hp 70 kf Z k 33 (lv5 G b i) [] (HqE G M) := by
  refine b_aload_n rfl rfl rfl ?_
  refine b_iload rfl rfl rfl ?_
  refine b_scr hS rfl rfl (by omega) (by omega) ?_
  refine b_bipush (v := nI 31) rfl rfl (by decide +kernel) ?_
  refine b_iand rfl rfl ?_
  obtain ⟨j, hj, e⟩ := m31 (xs i)
  rw [e]
  clear e
  match j, hj with
  | 0, _ => exact b_swIn (tg := 164) rfl (by decide +kernel) (by decide +kernel) (off := 124) (by decide +kernel) (by decide +kernel) (b_tab (y1 := mL_0) okL_0 rfl rfl rfl rfl (law_0 hG hN hS hi hL hk hwf hR hM kk))
  | 1, _ => exact b_swIn (tg := 251) rfl (by decide +kernel) (by decide +kernel) (off := 211) (by decide +kernel) (by decide +kernel) (b_tab (y1 := mL_1) okL_1 rfl rfl rfl rfl (law_1 hG hN hS hi hL hk hwf hR hM kk))
  | 2, _ => exact b_swIn (tg := 338) rfl (by decide +kernel) (by decide +kernel) (off := 298) (by decide +kernel) (by decide +kernel) (b_tab (y1 := mL_2) okL_2 rfl rfl rfl rfl (law_2 hG hN hS hi hL hk hwf hR hM kk))
  | 3, _ => exact b_swIn (tg := 437) rfl (by decide +kernel) (by decide +kernel) (off := 397) (by decide +kernel) (by decide +kernel) (b_tab (y1 := mL_3) okL_3 rfl rfl rfl rfl (law_3 hG hN hS hi hL hk hwf hR hM kk))
  | 4, _ => exact b_swIn (tg := 480) rfl (by decide +kernel) (by decide +kernel) (off := 440) (by decide +kernel) (by decide +kernel) (b_tab (y1 := mL_4) okL_4 rfl rfl rfl rfl (law_4 hG hN hS hi hL hk hwf hR hM kk))
  | 5, _ => exact b_swIn (tg := 736) rfl (by decide +kernel) (by decide +kernel) (off := 696) (by decide +kernel) (by decide +kernel) (b_tab (y1 := mL_5) okL_5 rfl rfl rfl rfl (law_5 hG hN hS hi hL hk hwf hR hM kk))
  | 6, _ => exact b_swIn (tg := 791) rfl (by decide +kernel) (by decide +kernel) (off := 751) (by decide +kernel) (by decide +kernel) (b_tab (y1 := mL_6) okL_6 rfl rfl rfl rfl (law_6 hG hN hS hi hL hk hwf hR hM kk))
  | 7, _ => exact b_swIn (tg := 891) rfl (by decide +kernel) (by decide +kernel) (off := 851) (by decide +kernel) (by decide +kernel) (b_tab (y1 := mL_7) okL_7 rfl rfl rfl rfl (law_7 hG hN hS hi hL hk hwf hR hM kk))
  | 8, _ => exact b_swIn (tg := 983) rfl (by decide +kernel) (by decide +kernel) (off := 943) (by decide +kernel) (by decide +kernel) (b_tab (y1 := mL_8) okL_8 rfl rfl rfl rfl (law_8 hG hN hS hi hL hk hwf hR hM kk))
  | 9, _ => exact b_swIn (tg := 1127) rfl (by decide +kernel) (by decide +kernel) (off := 1087) (by decide +kernel) (by decide +kernel) (b_tab (y1 := mL_9) okL_9 rfl rfl rfl rfl (law_9 hG hN hS hi hL hk hwf hR hM kk))
  | 10, _ => exact b_swIn (tg := 1184) rfl (by decide +kernel) (by decide +kernel) (off := 1144) (by decide +kernel) (by decide +kernel) (b_tab (y1 := mL_10) okL_10 rfl rfl rfl rfl (law_10 hG hN hS hi hL hk hwf hR hM kk))
  | 11, _ => exact b_swIn (tg := 1272) rfl (by decide +kernel) (by decide +kernel) (off := 1232) (by decide +kernel) (by decide +kernel) (b_tab (y1 := mL_11) okL_11 rfl rfl rfl rfl (law_11 hG hN hS hi hL hk hwf hR hM kk))
  | 12, _ => exact b_swIn (tg := 1315) rfl (by decide +kernel) (by decide +kernel) (off := 1275) (by decide +kernel) (by decide +kernel) (b_tab (y1 := mL_12) okL_12 rfl rfl rfl rfl (law_12 hG hN hS hi hL hk hwf hR hM kk))
  | 13, _ => exact b_swIn (tg := 1328) rfl (by decide +kernel) (by decide +kernel) (off := 1288) (by decide +kernel) (by decide +kernel) (b_tab (y1 := mL_13) okL_13 rfl rfl rfl rfl (law_13 hG hN hS hi hL hk hwf hR hM kk))
  | 14, _ => exact b_swIn (tg := 1341) rfl (by decide +kernel) (by decide +kernel) (off := 1301) (by decide +kernel) (by decide +kernel) (b_tab (y1 := mL_14) okL_14 rfl rfl rfl rfl (law_14 hG hN hS hi hL hk hwf hR hM kk))
  | 15, _ => exact b_swIn (tg := 1366) rfl (by decide +kernel) (by decide +kernel) (off := 1326) (by decide +kernel) (by decide +kernel) (b_tab (y1 := mL_15) okL_15 rfl rfl rfl rfl (law_15 hG hN hS hi hL hk hwf hR hM kk))
  | 16, _ => exact b_swIn (tg := 1403) rfl (by decide +kernel) (by decide +kernel) (off := 1363) (by decide +kernel) (by decide +kernel) (b_tab (y1 := mL_16) okL_16 rfl rfl rfl rfl (law_16 hG hN hS hi hL hk hwf hR hM kk))
  | 17, _ => exact b_swIn (tg := 1428) rfl (by decide +kernel) (by decide +kernel) (off := 1388) (by decide +kernel) (by decide +kernel) (b_tab (y1 := mL_17) okL_17 rfl rfl rfl rfl (law_17 hG hN hS hi hL hk hwf hR hM kk))
  | 18, _ => exact b_swIn (tg := 1441) rfl (by decide +kernel) (by decide +kernel) (off := 1401) (by decide +kernel) (by decide +kernel) (b_tab (y1 := mL_18) okL_18 rfl rfl rfl rfl (law_18 hG hN hS hi hL hk hwf hR hM kk))
  | 19, _ => exact b_swIn (tg := 1466) rfl (by decide +kernel) (by decide +kernel) (off := 1426) (by decide +kernel) (by decide +kernel) (b_tab (y1 := mL_19) okL_19 rfl rfl rfl rfl (law_19 hG hN hS hi hL hk hwf hR hM kk))
  | 20, _ => exact b_swIn (tg := 1491) rfl (by decide +kernel) (by decide +kernel) (off := 1451) (by decide +kernel) (by decide +kernel) (b_tab (y1 := mL_20) okL_20 rfl rfl rfl rfl (law_20 hG hN hS hi hL hk hwf hR hM kk))
  | 21, _ => exact b_swIn (tg := 1529) rfl (by decide +kernel) (by decide +kernel) (off := 1489) (by decide +kernel) (by decide +kernel) (b_tab (y1 := mL_21) okL_21 rfl rfl rfl rfl (law_21 hG hN hS hi hL hk hwf hR hM kk))
  | 22, _ => exact b_swIn (tg := 1554) rfl (by decide +kernel) (by decide +kernel) (off := 1514) (by decide +kernel) (by decide +kernel) (b_tab (y1 := mL_22) okL_22 rfl rfl rfl rfl (law_22 hG hN hS hi hL hk hwf hR hM kk))
  | 23, _ => exact b_swIn (tg := 1620) rfl (by decide +kernel) (by decide +kernel) (off := 1580) (by decide +kernel) (by decide +kernel) (b_tab (y1 := mL_23) okL_23 rfl rfl rfl rfl (law_23 hG hN hS hi hL hk hwf hR hM kk))
  | 24, _ => exact b_swIn (tg := 1645) rfl (by decide +kernel) (by decide +kernel) (off := 1605) (by decide +kernel) (by decide +kernel) (b_tab (y1 := mL_24) okL_24 rfl rfl rfl rfl (law_24 hG hN hS hi hL hk hwf hR hM kk))
  | 25, _ => exact b_swIn (tg := 1671) rfl (by decide +kernel) (by decide +kernel) (off := 1631) (by decide +kernel) (by decide +kernel) (b_tab (y1 := mL_25) okL_25 rfl rfl rfl rfl (law_25 hG hN hS hi hL hk hwf hR hM kk))
  | 26, _ => exact b_swIn (tg := 1772) rfl (by decide +kernel) (by decide +kernel) (off := 1732) (by decide +kernel) (by decide +kernel) (b_tab (y1 := mL_26) okL_26 rfl rfl rfl rfl (law_26 hG hN hS hi hL hk hwf hR hM kk))
  | 27, _ => exact b_swOut (tg := 1783) rfl (by decide +kernel) (by decide +kernel) (kk A M k hwf hR hM (Nat.le_refl _) (Nat.le_succ _))
  | 28, _ => exact b_swOut (tg := 1783) rfl (by decide +kernel) (by decide +kernel) (kk A M k hwf hR hM (Nat.le_refl _) (Nat.le_succ _))
  | 29, _ => exact b_swOut (tg := 1783) rfl (by decide +kernel) (by decide +kernel) (kk A M k hwf hR hM (Nat.le_refl _) (Nat.le_succ _))
  | 30, _ => exact b_swOut (tg := 1783) rfl (by decide +kernel) (by decide +kernel) (kk A M k hwf hR hM (Nat.le_refl _) (Nat.le_succ _))
  | 31, _ => exact b_swOut (tg := 1783) rfl (by decide +kernel) (by decide +kernel) (kk A M k hwf hR hM (Nat.le_refl _) (Nat.le_succ _))
  | j + 32, h => exact absurd h (by omega)
theorem law_loop (hG : Gok G) (hN : Nc G) (hS : Sx G b L xs) (hL : L ≤ 5120) (h1 : kf ≤ 601024) (h2 : 6 * kf ≤ 7293034) : ∀ (r i k : Nat) (A : Ab) (M : Mm), L ≤ i + 10 * r + 9 → i ≤ 6000 → k + r ≤ kf → wfA A → RC A M → RM A M → Fb G mL_h hp 70 kf (Zl G) k 23 (lv5 G b i) [] (HqE G M)
  | r, i, k, A, M, hr, hi, hk, hwf, hR, hM => by
    refine b_iload rfl rfl rfl ?_
    refine b_aload_n rfl rfl rfl ?_
    refine b_slen hS rfl rfl ?_
    refine b_bipush (v := nI 10) rfl rfl (by decide +kernel) ?_
    refine b_isub rfl rfl ?_
    refine b_icmp_gt rfl rfl (fun _ => b_lend (by omega) h1 h2) (fun h => ?_)
    have hgo := lp_go hL hi h
    cases r with
    | zero => omega
    | succ r =>
      refine law_sw hG hN hS hgo hL (by omega) hwf hR hM ?_
      intro A' M' k' hwf' hR' hM' hk1 hk2
      refine b_iincN (b := 10) rfl rfl rfl rfl rfl ?_
      refine b_goto rfl rfl ?_
      exact law_loop hG hN hS hL h1 h2 r (i + 10) k' A' M' (by omega) (by omega) (by omega) hwf' hR' hM'
end LE
