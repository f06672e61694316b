/-! THE LAW: the script, the cases -/
def Sx (G : Gd) (b L : Nat) (xs : Nat → Int32) : Prop := va_X b L xs (gs G) (gH G) ∧ b < gb G
def lg2 (x y : Int32) : Int64 := (x.toInt64 <<< ((nI 32).toInt64 &&& 63)) ||| (y.toInt64 &&& 4294967295)
def lv5 (G : Gd) (b i : Nat) : List (Nat × Value) := [(0, .ref b), (1, .ref (ga G (0, 0))), (2, .ref (ga G (40, 0))), (3, .ref (ga G (70, 0))), (4, .int (nI i))]
section XL
variable {G : Gd} {y y1 : Mt} {hp : Method → Code → Prop} {d kf : Nat} {Z : Zt} {k pc n t : Nat} {lv lv' : List (Nat × Value)} {st : List Value} {M : Mm} {J : Heap → Prop}
theorem b_scr {b L a : Nat} {xs : Nat → Int32} (hS : Sx G b L xs) (hi : tget (yT y) pc = some (.iaload, n, t)) (hn : pc + 1 = n) (hin : a < L) (hL2 : L < 2 ^ 31) (kk : Fb G y hp d kf Z k n lv (.int (xs a) :: st) (HqE G M)) : Fb G y hp d kf Z k pc lv (.int (nI a) :: .ref b :: st) (HqE G M) := by
  intro p e R s m args below meth c H locs ls C hx hH hL
  obtain ⟨hg, hok, ha, hb, hret, hlk, hml, hown, hwm, -⟩ := id C
  have hd := (hok.get hi).1
  subst hn
  rw [Nat.add_sub_cancel_left] at hd
  obtain ⟨⟨scr, h1, h2, h3, h4, h5⟩, hbl⟩ := hS
  have hcl : (nI a).toNatClampNeg = a := nI_clamp (by omega)
  exact W.iald (v := .int (xs a)) ha hb (by rw [hH.1.2.1 b hbl]; exact h1) (State.isArrayOf_alike hwm.alike h2) h3 (by rw [h4]; exact vp_in_nI hin hL2) (by rw [hcl]; exact h5 a hin) rfl rfl hd (kk p e R s m args below meth c H locs ls C hx hH hL)
theorem b_slen {b L : Nat} {xs : Nat → Int32} (hS : Sx G b L xs) (hi : tget (yT y) pc = some (.arraylength, n, t)) (hn : pc + 1 = n) (kk : Fb G y hp d kf Z k n lv (.int (nI L) :: st) (HqE G M)) : Fb G y hp d kf Z k pc lv (.ref b :: st) (HqE G M) := by
  intro p e R s m args below meth c H locs ls C hx hH hL
  obtain ⟨hg, hok, ha, hb, hret, hlk, hml, hown, hwm, -⟩ := id C
  have hd := (hok.get hi).1
  subst hn
  rw [Nat.add_sub_cancel_left] at hd
  obtain ⟨⟨scr, h1, h2, h3, h4, h5⟩, hbl⟩ := hS
  exact W.alen (n := nI L) ha hb (by rw [hH.1.2.1 b hbl]; exact h1) (State.isArrayOf_alike hwm.alike h2) (by rw [h4] <;> rfl) rfl rfl hd (kk p e R s m args below meth c H locs ls C hx hH hL)
/-- another table of the same code -/
theorem b_tab (ok : okT y1) (h1 : yB y1 = yB y) (h2 : yL y1 = yL y) (h3 : yR y1 = yR y) (h4 : yC y1 = yC y) (kk : Fb G y1 hp d kf Z k pc lv st J) : Fb G y hp d kf Z k pc lv st J := by
  intro p e R s m args below meth c H locs ls C hx hH hL
  obtain ⟨hg, hok, ha, hb, hret, hlk, hml, hown, hwm, r⟩ := C
  exact kk p e R s m args below meth c H locs ls ⟨hg, ok, ha, by rw [h1]; exact hb, by rw [h3]; exact hret, hlk, by rw [h2]; exact hml, by rw [h4]; exact hown, hwm, r⟩ hx hH (by rw [h2]; exact hL)
theorem b_wk (j : Nat) (kk : Fb G y hp d kf Z k pc (lv.take j) st J) : Fb G y hp d kf Z k pc lv st J := by
  intro p e R s m args below meth c H locs ls C hx hH hL
  exact kk p e R s m args below meth c H locs ls C hx hH (lv_weak hL fun q hq => List.mem_of_mem_take hq)
end XL
theorem rm_pl {A A' : Ab} {M M2 : Mm} (hM : RM A M) (h : PL9 M A' M2) : RM A M2 := hM.eq fun k j ho => by
  have h1 : 40 ≤ k.1 ∧ k.1 < 70 := by unfold onR at ho; omega
  exact h.2 k h1 j
theorem rm_pc {A A' : Ab} {M M2 : Mm} (hM : RM A M) (h : PC M A' M2) : RM A M2 := rm_pl hM (ph_pc h)
theorem rc_pm {A A2 : Ab} {M M2 : Mm} {th : Nat} (hR : RC A M) (h : PMo M A2 th M2) : RC A M2 := hR.eqn h.2.2 (fun r _ h2 => Or.inl (by omega)) (Or.inl (by decide))
theorem o_pm {A2 : Ab} {M M2 : Mm} {th : Nat} {x : Int64} (ho : M.2 (70, 0) 0 = x) (h : PMo M A2 th M2) : M2.2 (70, 0) 0 = x := (h.2.2 (70, 0) (Or.inr (by decide)) 0).2.trans ho
theorem c_thr {G : Gd} {A : Ab} {M M0 : Mm} {th : Nat} (hG : Gok G) (h : PMo M0 A th M) : Ce G mX9_thrown 1 [.ref (ga G (40, 0))] M (.inl (some (.int (nI th)))) (fun M4 => M4 = M) 0 := by
  have h1 := c_mthrown (d := 1) (M := M) hG
  rw [h.2.1] at h1
  exact Ct.e h1 rfl
/-- behind a case -/
def Kn (G : Gd) (hp : Method → Code → Prop) (kf : Nat) (Z : Zt) (k b i : Nat) : Prop := ∀ (A : Ab) (M : Mm) (k' : Nat), wfA A → RC A M → RM A M → k ≤ k' → k' ≤ k + 1 → Fb G mL_h hp 70 kf Z k' 1783 (lv5 G b i) [] (HqE G M)

set_option maxHeartbeats 2000000 in
set_option maxRecDepth 20000 in
theorem law_0 {G : Gd} {hp : Method → Code → Prop} {kf : Nat} {Z : Zt} {k b L i : Nat} {xs : Nat → Int32} {A : Ab} {M : Mm} (hG : Gok G) (hN : Nc G) (hS : Sx G b L xs) (hi : i + 10 ≤ L) (hL : L ≤ 5120) (hk : k + 1 ≤ kf) (hwf : wfA A) (hR : RC A M) (hM : RM A M) (kk : Kn G hp kf Z k b i) : Fb G mL_0 hp 70 kf Z k 164 (lv5 G b i) [] (HqE G M) := by
  obtain ⟨A', hwf', hop⟩ := op_wide hG hwf hR.sz (lg2 (xs (i + 1)) (xs (i + 2)))
  rcases hop with ⟨x, hop⟩ | ⟨x, hop⟩
  · refine b_aload_n rfl rfl rfl ?_
    refine b_aload_n rfl rfl rfl ?_
    refine b_iload rfl rfl rfl ?_
    refine b_iconstN (b := 1) rfl rfl ?_
    refine b_iaddN rfl rfl ?_
    refine b_scr hS rfl rfl (by omega) (by omega) ?_
    refine b_i2l rfl rfl ?_
    refine b_bipush (v := nI 32) rfl rfl (by decide +kernel) ?_
    refine b_lshl rfl rfl ?_
    refine b_aload_n rfl rfl rfl ?_
    refine b_iload rfl rfl rfl ?_
    refine b_iconstN (b := 2) rfl rfl ?_
    refine b_iaddN rfl rfl ?_
    refine b_scr hS rfl rfl (by omega) (by omega) ?_
    refine b_i2l rfl rfl ?_
    refine b_ldc2 rfl rfl k_10_59 ?_
    refine b_land rfl rfl ?_
    refine b_lor rfl rfl ?_
    refine b_aload_n rfl rfl rfl ?_
    refine b_callH (d2 := 65) (h_wide_R hG hN (lg2 (xs (i + 1)) (xs (i + 2))) hop.1 hR) rfl rfl lh_61 rfl rfl (Nat.le_of_ble_eq_true rfl) (by decide) (by omega) (fun v M2 hQ => ?_)
    obtain ⟨rfl, hP, ho⟩ := hQ
    refine b_istore rfl rfl rfl rfl ?_
    refine b_aload_n rfl rfl rfl ?_
    refine b_aload_n rfl rfl rfl ?_
    refine b_iload rfl rfl rfl ?_
    refine b_iconstN (b := 1) rfl rfl ?_
    refine b_iaddN rfl rfl ?_
    refine b_scr hS rfl rfl (by omega) (by omega) ?_
    refine b_i2l rfl rfl ?_
    refine b_bipush (v := nI 32) rfl rfl (by decide +kernel) ?_
    refine b_lshl rfl rfl ?_
    refine b_aload_n rfl rfl rfl ?_
    refine b_iload rfl rfl rfl ?_
    refine b_iconstN (b := 2) rfl rfl ?_
    refine b_iaddN rfl rfl ?_
    refine b_scr hS rfl rfl (by omega) (by omega) ?_
    refine b_i2l rfl rfl ?_
    refine b_ldc2 rfl rfl k_10_59 ?_
    refine b_land rfl rfl ?_
    refine b_lor rfl rfl ?_
    refine b_callVe (d2 := 16) (hop.2 M2 (rm_pl hM hP)) rfl rfl v_10_66 rfl rfl (by decide) rfl rfl (Nat.le_of_ble_eq_true rfl) (by decide) (by omega) (fun M3 hQ3 => ?_)
    refine b_lstore rfl rfl rfl rfl ?_
    refine b_aload_n rfl rfl rfl ?_
    refine b_callVe (d2 := 1) (c_thr hG hQ3) rfl rfl v_10_67 rfl rfl (by decide) rfl rfl (Nat.le_of_ble_eq_true rfl) (by decide) (by omega) (fun M4 h4 => ?_)
    subst h4
    refine b_iload rfl rfl rfl ?_
    refine b_icmp_eq rfl rfl (fun _ => ?_) (fun h => absurd rfl h)
    refine b_iload rfl rfl rfl ?_
    refine b_if_ne rfl rfl (fun h => absurd (show (nI 0) = 0 by decide +kernel) h) (fun _ => ?_)
    refine b_aload_n rfl rfl rfl ?_
    refine b_iconstN (b := 0) rfl rfl ?_
    refine b_lald (q := (70, 0)) (a := 0) (L := 1) rfl rfl rfl (by decide) (by decide) (by decide) ?_
    refine b_lload rfl rfl rfl ?_
    refine b_lc_eq rfl rfl rfl rfl (fun _ => ?_) (fun h => absurd (o_pm ho hQ3) h)
    refine b_goto rfl rfl ?_
    refine b_tab (y1 := mL_h) okL_h rfl rfl rfl rfl ?_
    refine b_wk 5 ?_
    exact kk _ _ _ hwf' (rc_pm hP.1 hQ3) hQ3.1 (by omega) (by omega)
  · refine b_aload_n rfl rfl rfl ?_
    refine b_aload_n rfl rfl rfl ?_
    refine b_iload rfl rfl rfl ?_
    refine b_iconstN (b := 1) rfl rfl ?_
    refine b_iaddN rfl rfl ?_
    refine b_scr hS rfl rfl (by omega) (by omega) ?_
    refine b_i2l rfl rfl ?_
    refine b_bipush (v := nI 32) rfl rfl (by decide +kernel) ?_
    refine b_lshl rfl rfl ?_
    refine b_aload_n rfl rfl rfl ?_
    refine b_iload rfl rfl rfl ?_
    refine b_iconstN (b := 2) rfl rfl ?_
    refine b_iaddN rfl rfl ?_
    refine b_scr hS rfl rfl (by omega) (by omega) ?_
    refine b_i2l rfl rfl ?_
    refine b_ldc2 rfl rfl k_10_59 ?_
    refine b_land rfl rfl ?_
    refine b_lor rfl rfl ?_
    refine b_aload_n rfl rfl rfl ?_
    refine b_callH (d2 := 65) (h_wide_ISE hG hN (lg2 (xs (i + 1)) (xs (i + 2))) hop.1 hR) rfl rfl lh_61 rfl rfl (Nat.le_of_ble_eq_true rfl) (by decide) (by omega) (fun v M2 hQ => ?_)
    obtain ⟨rfl, hP⟩ := hQ
    refine b_istore rfl rfl rfl rfl ?_
    refine b_aload_n rfl rfl rfl ?_
    refine b_aload_n rfl rfl rfl ?_
    refine b_iload rfl rfl rfl ?_
    refine b_iconstN (b := 1) rfl rfl ?_
    refine b_iaddN rfl rfl ?_
    refine b_scr hS rfl rfl (by omega) (by omega) ?_
    refine b_i2l rfl rfl ?_
    refine b_bipush (v := nI 32) rfl rfl (by decide +kernel) ?_
    refine b_lshl rfl rfl ?_
    refine b_aload_n rfl rfl rfl ?_
    refine b_iload rfl rfl rfl ?_
    refine b_iconstN (b := 2) rfl rfl ?_
    refine b_iaddN rfl rfl ?_
    refine b_scr hS rfl rfl (by omega) (by omega) ?_
    refine b_i2l rfl rfl ?_
    refine b_ldc2 rfl rfl k_10_59 ?_
    refine b_land rfl rfl ?_
    refine b_lor rfl rfl ?_
    refine b_callVe (d2 := 16) (hop.2 M2 (rm_pl hM hP)) rfl rfl v_10_66 rfl rfl (by decide) rfl rfl (Nat.le_of_ble_eq_true rfl) (by decide) (by omega) (fun M3 hQ3 => ?_)
    refine b_lstore rfl rfl rfl rfl ?_
    refine b_aload_n rfl rfl rfl ?_
    refine b_callVe (d2 := 1) (c_thr hG hQ3) rfl rfl v_10_67 rfl rfl (by decide) rfl rfl (Nat.le_of_ble_eq_true rfl) (by decide) (by omega) (fun M4 h4 => ?_)
    subst h4
    refine b_iload rfl rfl rfl ?_
    refine b_icmp_eq rfl rfl (fun _ => ?_) (fun h => absurd rfl h)
    refine b_iload rfl rfl rfl ?_
    refine b_if_ne rfl rfl (fun _ => ?_) (fun h => absurd h (by decide +kernel))
    refine b_goto rfl rfl ?_
    refine b_tab (y1 := mL_h) okL_h rfl rfl rfl rfl ?_
    refine b_wk 5 ?_
    exact kk _ _ _ hwf' (rc_pm hP.1 hQ3) hQ3.1 (by omega) (by omega)
set_option maxHeartbeats 2000000 in
set_option maxRecDepth 20000 in
theorem law_1 {G : Gd} {hp : Method → Code → Prop} {kf : Nat} {Z : Zt} {k b L i : Nat} {xs : Nat → Int32} {A : Ab} {M : Mm} (hG : Gok G) (hN : Nc G) (hS : Sx G b L xs) (hi : i + 10 ≤ L) (hL : L ≤ 5120) (hk : k + 1 ≤ kf) (hwf : wfA A) (hR : RC A M) (hM : RM A M) (kk : Kn G hp kf Z k b i) : Fb G mL_1 hp 70 kf Z k 251 (lv5 G b i) [] (HqE G M) := by
  obtain ⟨A', hwf', hop⟩ := op_date hG hwf hR.sz (lg2 (xs (i + 1)) (xs (i + 2)))
  rcases hop with ⟨x, hop⟩ | ⟨x, hop⟩
  · refine b_aload_n rfl rfl rfl ?_
    refine b_aload_n rfl rfl rfl ?_
    refine b_iload rfl rfl rfl ?_
    refine b_iconstN (b := 1) rfl rfl ?_
    refine b_iaddN rfl rfl ?_
    refine b_scr hS rfl rfl (by omega) (by omega) ?_
    refine b_i2l rfl rfl ?_
    refine b_bipush (v := nI 32) rfl rfl (by decide +kernel) ?_
    refine b_lshl rfl rfl ?_
    refine b_aload_n rfl rfl rfl ?_
    refine b_iload rfl rfl rfl ?_
    refine b_iconstN (b := 2) rfl rfl ?_
    refine b_iaddN rfl rfl ?_
    refine b_scr hS rfl rfl (by omega) (by omega) ?_
    refine b_i2l rfl rfl ?_
    refine b_ldc2 rfl rfl k_10_59 ?_
    refine b_land rfl rfl ?_
    refine b_lor rfl rfl ?_
    refine b_aload_n rfl rfl rfl ?_
    refine b_callH (d2 := 65) (h_date_R hG hN (lg2 (xs (i + 1)) (xs (i + 2))) hop.1 hR) rfl rfl lh_71 rfl rfl (Nat.le_of_ble_eq_true rfl) (by decide) (by omega) (fun v M2 hQ => ?_)
    obtain ⟨rfl, hP, ho⟩ := hQ
    refine b_istore rfl rfl rfl rfl ?_
    refine b_aload_n rfl rfl rfl ?_
    refine b_aload_n rfl rfl rfl ?_
    refine b_iload rfl rfl rfl ?_
    refine b_iconstN (b := 1) rfl rfl ?_
    refine b_iaddN rfl rfl ?_
    refine b_scr hS rfl rfl (by omega) (by omega) ?_
    refine b_i2l rfl rfl ?_
    refine b_bipush (v := nI 32) rfl rfl (by decide +kernel) ?_
    refine b_lshl rfl rfl ?_
    refine b_aload_n rfl rfl rfl ?_
    refine b_iload rfl rfl rfl ?_
    refine b_iconstN (b := 2) rfl rfl ?_
    refine b_iaddN rfl rfl ?_
    refine b_scr hS rfl rfl (by omega) (by omega) ?_
    refine b_i2l rfl rfl ?_
    refine b_ldc2 rfl rfl k_10_59 ?_
    refine b_land rfl rfl ?_
    refine b_lor rfl rfl ?_
    refine b_callVe (d2 := 16) (hop.2 M2 (rm_pl hM hP)) rfl rfl v_10_73 rfl rfl (by decide) rfl rfl (Nat.le_of_ble_eq_true rfl) (by decide) (by omega) (fun M3 hQ3 => ?_)
    refine b_lstore rfl rfl rfl rfl ?_
    refine b_aload_n rfl rfl rfl ?_
    refine b_callVe (d2 := 1) (c_thr hG hQ3) rfl rfl v_10_67 rfl rfl (by decide) rfl rfl (Nat.le_of_ble_eq_true rfl) (by decide) (by omega) (fun M4 h4 => ?_)
    subst h4
    refine b_iload rfl rfl rfl ?_
    refine b_icmp_eq rfl rfl (fun _ => ?_) (fun h => absurd rfl h)
    refine b_iload rfl rfl rfl ?_
    refine b_if_ne rfl rfl (fun h => absurd (show (nI 0) = 0 by decide +kernel) h) (fun _ => ?_)
    refine b_aload_n rfl rfl rfl ?_
    refine b_iconstN (b := 0) rfl rfl ?_
    refine b_lald (q := (70, 0)) (a := 0) (L := 1) rfl rfl rfl (by decide) (by decide) (by decide) ?_
    refine b_lload rfl rfl rfl ?_
    refine b_lc_eq rfl rfl rfl rfl (fun _ => ?_) (fun h => absurd (o_pm ho hQ3) h)
    refine b_goto rfl rfl ?_
    refine b_tab (y1 := mL_h) okL_h rfl rfl rfl rfl ?_
    refine b_wk 5 ?_
    exact kk _ _ _ hwf' (rc_pm hP.1 hQ3) hQ3.1 (by omega) (by omega)
  · refine b_aload_n rfl rfl rfl ?_
    refine b_aload_n rfl rfl rfl ?_
    refine b_iload rfl rfl rfl ?_
    refine b_iconstN (b := 1) rfl rfl ?_
    refine b_iaddN rfl rfl ?_
    refine b_scr hS rfl rfl (by omega) (by omega) ?_
    refine b_i2l rfl rfl ?_
    refine b_bipush (v := nI 32) rfl rfl (by decide +kernel) ?_
    refine b_lshl rfl rfl ?_
    refine b_aload_n rfl rfl rfl ?_
    refine b_iload rfl rfl rfl ?_
    refine b_iconstN (b := 2) rfl rfl ?_
    refine b_iaddN rfl rfl ?_
    refine b_scr hS rfl rfl (by omega) (by omega) ?_
    refine b_i2l rfl rfl ?_
    refine b_ldc2 rfl rfl k_10_59 ?_
    refine b_land rfl rfl ?_
    refine b_lor rfl rfl ?_
    refine b_aload_n rfl rfl rfl ?_
    refine b_callH (d2 := 65) (h_date_ISE hG hN (lg2 (xs (i + 1)) (xs (i + 2))) hop.1 hR) rfl rfl lh_71 rfl rfl (Nat.le_of_ble_eq_true rfl) (by decide) (by omega) (fun v M2 hQ => ?_)
    obtain ⟨rfl, hP⟩ := hQ
    refine b_istore rfl rfl rfl rfl ?_
    refine b_aload_n rfl rfl rfl ?_
    refine b_aload_n rfl rfl rfl ?_
    refine b_iload rfl rfl rfl ?_
    refine b_iconstN (b := 1) rfl rfl ?_
    refine b_iaddN rfl rfl ?_
    refine b_scr hS rfl rfl (by omega) (by omega) ?_
    refine b_i2l rfl rfl ?_
    refine b_bipush (v := nI 32) rfl rfl (by decide +kernel) ?_
    refine b_lshl rfl rfl ?_
    refine b_aload_n rfl rfl rfl ?_
    refine b_iload rfl rfl rfl ?_
    refine b_iconstN (b := 2) rfl rfl ?_
    refine b_iaddN rfl rfl ?_
    refine b_scr hS rfl rfl (by omega) (by omega) ?_
    refine b_i2l rfl rfl ?_
    refine b_ldc2 rfl rfl k_10_59 ?_
    refine b_land rfl rfl ?_
    refine b_lor rfl rfl ?_
    refine b_callVe (d2 := 16) (hop.2 M2 (rm_pl hM hP)) rfl rfl v_10_73 rfl rfl (by decide) rfl rfl (Nat.le_of_ble_eq_true rfl) (by decide) (by omega) (fun M3 hQ3 => ?_)
    refine b_lstore rfl rfl rfl rfl ?_
    refine b_aload_n rfl rfl rfl ?_
    refine b_callVe (d2 := 1) (c_thr hG hQ3) rfl rfl v_10_67 rfl rfl (by decide) rfl rfl (Nat.le_of_ble_eq_true rfl) (by decide) (by omega) (fun M4 h4 => ?_)
    subst h4
    refine b_iload rfl rfl rfl ?_
    refine b_icmp_eq rfl rfl (fun _ => ?_) (fun h => absurd rfl h)
    refine b_iload rfl rfl rfl ?_
    refine b_if_ne rfl rfl (fun _ => ?_) (fun h => absurd h (by decide +kernel))
    refine b_goto rfl rfl ?_
    refine b_tab (y1 := mL_h) okL_h rfl rfl rfl rfl ?_
    refine b_wk 5 ?_
    exact kk _ _ _ hwf' (rc_pm hP.1 hQ3) hQ3.1 (by omega) (by omega)
set_option maxHeartbeats 2000000 in
set_option maxRecDepth 20000 in
theorem law_2 {G : Gd} {hp : Method → Code → Prop} {kf : Nat} {Z : Zt} {k b L i : Nat} {xs : Nat → Int32} {A : Ab} {M : Mm} (hG : Gok G) (hN : Nc G) (hS : Sx G b L xs) (hi : i + 10 ≤ L) (hL : L ≤ 5120) (hk : k + 1 ≤ kf) (hwf : wfA A) (hR : RC A M) (hM : RM A M) (kk : Kn G hp kf Z k b i) : Fb G mL_2 hp 70 kf Z k 338 (lv5 G b i) [] (HqE G M) := by
  obtain ⟨A', hwf', hop⟩ := op_bytes hG hwf hR.sz (lg2 (xs (i + 1)) (xs (i + 2))) (xs (i + 3))
  rcases hop with ⟨x, hop⟩ | ⟨x, hop⟩ | ⟨x, hop⟩
  · refine b_aload_n rfl rfl rfl ?_
    refine b_aload_n rfl rfl rfl ?_
    refine b_iload rfl rfl rfl ?_
    refine b_iconstN (b := 1) rfl rfl ?_
    refine b_iaddN rfl rfl ?_
    refine b_scr hS rfl rfl (by omega) (by omega) ?_
    refine b_i2l rfl rfl ?_
    refine b_bipush (v := nI 32) rfl rfl (by decide +kernel) ?_
    refine b_lshl rfl rfl ?_
    refine b_aload_n rfl rfl rfl ?_
    refine b_iload rfl rfl rfl ?_
    refine b_iconstN (b := 2) rfl rfl ?_
    refine b_iaddN rfl rfl ?_
    refine b_scr hS rfl rfl (by omega) (by omega) ?_
    refine b_i2l rfl rfl ?_
    refine b_ldc2 rfl rfl k_10_59 ?_
    refine b_land rfl rfl ?_
    refine b_lor rfl rfl ?_
    refine b_aload_n rfl rfl rfl ?_
    refine b_iload rfl rfl rfl ?_
    refine b_iconstN (b := 3) rfl rfl ?_
    refine b_iaddN rfl rfl ?_
    refine b_scr hS rfl rfl (by omega) (by omega) ?_
    refine b_aload_n rfl rfl rfl ?_
    refine b_callH (d2 := 65) (h_bytes_R hG hN (lg2 (xs (i + 1)) (xs (i + 2))) (xs (i + 3)) hop.1 hR) rfl rfl lh_74 rfl rfl (Nat.le_of_ble_eq_true rfl) (by decide) (by omega) (fun v M2 hQ => ?_)
    obtain ⟨rfl, hP, ho⟩ := hQ
    refine b_istore rfl rfl rfl rfl ?_
    refine b_aload_n rfl rfl rfl ?_
    refine b_aload_n rfl rfl rfl ?_
    refine b_iload rfl rfl rfl ?_
    refine b_iconstN (b := 1) rfl rfl ?_
    refine b_iaddN rfl rfl ?_
    refine b_scr hS rfl rfl (by omega) (by omega) ?_
    refine b_i2l rfl rfl ?_
    refine b_bipush (v := nI 32) rfl rfl (by decide +kernel) ?_
    refine b_lshl rfl rfl ?_
    refine b_aload_n rfl rfl rfl ?_
    refine b_iload rfl rfl rfl ?_
    refine b_iconstN (b := 2) rfl rfl ?_
    refine b_iaddN rfl rfl ?_
    refine b_scr hS rfl rfl (by omega) (by omega) ?_
    refine b_i2l rfl rfl ?_
    refine b_ldc2 rfl rfl k_10_59 ?_
    refine b_land rfl rfl ?_
    refine b_lor rfl rfl ?_
    refine b_aload_n rfl rfl rfl ?_
    refine b_iload rfl rfl rfl ?_
    refine b_iconstN (b := 3) rfl rfl ?_
    refine b_iaddN rfl rfl ?_
    refine b_scr hS rfl rfl (by omega) (by omega) ?_
    refine b_callVe (d2 := 16) (hop.2 M2 (rm_pl hM hP)) rfl rfl v_10_77 rfl rfl (by decide) rfl rfl (Nat.le_of_ble_eq_true rfl) (by decide) (by omega) (fun M3 hQ3 => ?_)
    refine b_lstore rfl rfl rfl rfl ?_
    refine b_aload_n rfl rfl rfl ?_
    refine b_callVe (d2 := 1) (c_thr hG hQ3) rfl rfl v_10_67 rfl rfl (by decide) rfl rfl (Nat.le_of_ble_eq_true rfl) (by decide) (by omega) (fun M4 h4 => ?_)
    subst h4
    refine b_iload rfl rfl rfl ?_
    refine b_icmp_eq rfl rfl (fun _ => ?_) (fun h => absurd rfl h)
    refine b_iload rfl rfl rfl ?_
    refine b_if_ne rfl rfl (fun h => absurd (show (nI 0) = 0 by decide +kernel) h) (fun _ => ?_)
    refine b_aload_n rfl rfl rfl ?_
    refine b_iconstN (b := 0) rfl rfl ?_
    refine b_lald (q := (70, 0)) (a := 0) (L := 1) rfl rfl rfl (by decide) (by decide) (by decide) ?_
    refine b_lload rfl rfl rfl ?_
    refine b_lc_eq rfl rfl rfl rfl (fun _ => ?_) (fun h => absurd (o_pm ho hQ3) h)
    refine b_goto rfl rfl ?_
    refine b_tab (y1 := mL_h) okL_h rfl rfl rfl rfl ?_
    refine b_wk 5 ?_
    exact kk _ _ _ hwf' (rc_pm hP.1 hQ3) hQ3.1 (by omega) (by omega)
  · refine b_aload_n rfl rfl rfl ?_
    refine b_aload_n rfl rfl rfl ?_
    refine b_iload rfl rfl rfl ?_
    refine b_iconstN (b := 1) rfl rfl ?_
    refine b_iaddN rfl rfl ?_
    refine b_scr hS rfl rfl (by omega) (by omega) ?_
    refine b_i2l rfl rfl ?_
    refine b_bipush (v := nI 32) rfl rfl (by decide +kernel) ?_
    refine b_lshl rfl rfl ?_
    refine b_aload_n rfl rfl rfl ?_
    refine b_iload rfl rfl rfl ?_
    refine b_iconstN (b := 2) rfl rfl ?_
    refine b_iaddN rfl rfl ?_
    refine b_scr hS rfl rfl (by omega) (by omega) ?_
    refine b_i2l rfl rfl ?_
    refine b_ldc2 rfl rfl k_10_59 ?_
    refine b_land rfl rfl ?_
    refine b_lor rfl rfl ?_
    refine b_aload_n rfl rfl rfl ?_
    refine b_iload rfl rfl rfl ?_
    refine b_iconstN (b := 3) rfl rfl ?_
    refine b_iaddN rfl rfl ?_
    refine b_scr hS rfl rfl (by omega) (by omega) ?_
    refine b_aload_n rfl rfl rfl ?_
    refine b_callH (d2 := 65) (h_bytes_IAE hG hN (lg2 (xs (i + 1)) (xs (i + 2))) (xs (i + 3)) hop.1 hR) rfl rfl lh_74 rfl rfl (Nat.le_of_ble_eq_true rfl) (by decide) (by omega) (fun v M2 hQ => ?_)
    obtain ⟨rfl, hP⟩ := hQ
    refine b_istore rfl rfl rfl rfl ?_
    refine b_aload_n rfl rfl rfl ?_
    refine b_aload_n rfl rfl rfl ?_
    refine b_iload rfl rfl rfl ?_
    refine b_iconstN (b := 1) rfl rfl ?_
    refine b_iaddN rfl rfl ?_
    refine b_scr hS rfl rfl (by omega) (by omega) ?_
    refine b_i2l rfl rfl ?_
    refine b_bipush (v := nI 32) rfl rfl (by decide +kernel) ?_
    refine b_lshl rfl rfl ?_
    refine b_aload_n rfl rfl rfl ?_
    refine b_iload rfl rfl rfl ?_
    refine b_iconstN (b := 2) rfl rfl ?_
    refine b_iaddN rfl rfl ?_
    refine b_scr hS rfl rfl (by omega) (by omega) ?_
    refine b_i2l rfl rfl ?_
    refine b_ldc2 rfl rfl k_10_59 ?_
    refine b_land rfl rfl ?_
    refine b_lor rfl rfl ?_
    refine b_aload_n rfl rfl rfl ?_
    refine b_iload rfl rfl rfl ?_
    refine b_iconstN (b := 3) rfl rfl ?_
    refine b_iaddN rfl rfl ?_
    refine b_scr hS rfl rfl (by omega) (by omega) ?_
    refine b_callVe (d2 := 16) (hop.2 M2 (rm_pl hM hP)) rfl rfl v_10_77 rfl rfl (by decide) rfl rfl (Nat.le_of_ble_eq_true rfl) (by decide) (by omega) (fun M3 hQ3 => ?_)
    refine b_lstore rfl rfl rfl rfl ?_
    refine b_aload_n rfl rfl rfl ?_
    refine b_callVe (d2 := 1) (c_thr hG hQ3) rfl rfl v_10_67 rfl rfl (by decide) rfl rfl (Nat.le_of_ble_eq_true rfl) (by decide) (by omega) (fun M4 h4 => ?_)
    subst h4
    refine b_iload rfl rfl rfl ?_
    refine b_icmp_eq rfl rfl (fun _ => ?_) (fun h => absurd rfl h)
    refine b_iload rfl rfl rfl ?_
    refine b_if_ne rfl rfl (fun _ => ?_) (fun h => absurd h (by decide +kernel))
    refine b_goto rfl rfl ?_
    refine b_tab (y1 := mL_h) okL_h rfl rfl rfl rfl ?_
    refine b_wk 5 ?_
    exact kk _ _ _ hwf' (rc_pm hP.1 hQ3) hQ3.1 (by omega) (by omega)
  · refine b_aload_n rfl rfl rfl ?_
    refine b_aload_n rfl rfl rfl ?_
    refine b_iload rfl rfl rfl ?_
    refine b_iconstN (b := 1) rfl rfl ?_
    refine b_iaddN rfl rfl ?_
    refine b_scr hS rfl rfl (by omega) (by omega) ?_
    refine b_i2l rfl rfl ?_
    refine b_bipush (v := nI 32) rfl rfl (by decide +kernel) ?_
    refine b_lshl rfl rfl ?_
    refine b_aload_n rfl rfl rfl ?_
    refine b_iload rfl rfl rfl ?_
    refine b_iconstN (b := 2) rfl rfl ?_
    refine b_iaddN rfl rfl ?_
    refine b_scr hS rfl rfl (by omega) (by omega) ?_
    refine b_i2l rfl rfl ?_
    refine b_ldc2 rfl rfl k_10_59 ?_
    refine b_land rfl rfl ?_
    refine b_lor rfl rfl ?_
    refine b_aload_n rfl rfl rfl ?_
    refine b_iload rfl rfl rfl ?_
    refine b_iconstN (b := 3) rfl rfl ?_
    refine b_iaddN rfl rfl ?_
    refine b_scr hS rfl rfl (by omega) (by omega) ?_
    refine b_aload_n rfl rfl rfl ?_
    refine b_callH (d2 := 65) (h_bytes_ISE hG hN (lg2 (xs (i + 1)) (xs (i + 2))) (xs (i + 3)) hop.1 hR) rfl rfl lh_74 rfl rfl (Nat.le_of_ble_eq_true rfl) (by decide) (by omega) (fun v M2 hQ => ?_)
    obtain ⟨rfl, hP⟩ := hQ
    refine b_istore rfl rfl rfl rfl ?_
    refine b_aload_n rfl rfl rfl ?_
    refine b_aload_n rfl rfl rfl ?_
    refine b_iload rfl rfl rfl ?_
    refine b_iconstN (b := 1) rfl rfl ?_
    refine b_iaddN rfl rfl ?_
    refine b_scr hS rfl rfl (by omega) (by omega) ?_
    refine b_i2l rfl rfl ?_
    refine b_bipush (v := nI 32) rfl rfl (by decide +kernel) ?_
    refine b_lshl rfl rfl ?_
    refine b_aload_n rfl rfl rfl ?_
    refine b_iload rfl rfl rfl ?_
    refine b_iconstN (b := 2) rfl rfl ?_
    refine b_iaddN rfl rfl ?_
    refine b_scr hS rfl rfl (by omega) (by omega) ?_
    refine b_i2l rfl rfl ?_
    refine b_ldc2 rfl rfl k_10_59 ?_
    refine b_land rfl rfl ?_
    refine b_lor rfl rfl ?_
    refine b_aload_n rfl rfl rfl ?_
    refine b_iload rfl rfl rfl ?_
    refine b_iconstN (b := 3) rfl rfl ?_
    refine b_iaddN rfl rfl ?_
    refine b_scr hS rfl rfl (by omega) (by omega) ?_
    refine b_callVe (d2 := 16) (hop.2 M2 (rm_pl hM hP)) rfl rfl v_10_77 rfl rfl (by decide) rfl rfl (Nat.le_of_ble_eq_true rfl) (by decide) (by omega) (fun M3 hQ3 => ?_)
    refine b_lstore rfl rfl rfl rfl ?_
    refine b_aload_n rfl rfl rfl ?_
    refine b_callVe (d2 := 1) (c_thr hG hQ3) rfl rfl v_10_67 rfl rfl (by decide) rfl rfl (Nat.le_of_ble_eq_true rfl) (by decide) (by omega) (fun M4 h4 => ?_)
    subst h4
    refine b_iload rfl rfl rfl ?_
    refine b_icmp_eq rfl rfl (fun _ => ?_) (fun h => absurd rfl h)
    refine b_iload rfl rfl rfl ?_
    refine b_if_ne rfl rfl (fun _ => ?_) (fun h => absurd h (by decide +kernel))
    refine b_goto rfl rfl ?_
    refine b_tab (y1 := mL_h) okL_h rfl rfl rfl rfl ?_
    refine b_wk 5 ?_
    exact kk _ _ _ hwf' (rc_pm hP.1 hQ3) hQ3.1 (by omega) (by omega)
set_option maxHeartbeats 2000000 in
set_option maxRecDepth 20000 in
theorem law_3 {G : Gd} {hp : Method → Code → Prop} {kf : Nat} {Z : Zt} {k b L i : Nat} {xs : Nat → Int32} {A : Ab} {M : Mm} (hG : Gok G) (hN : Nc G) (hS : Sx G b L xs) (hi : i + 10 ≤ L) (hL : L ≤ 5120) (hk : k + 1 ≤ kf) (hwf : wfA A) (hR : RC A M) (hM : RM A M) (kk : Kn G hp kf Z k b i) : Fb G mL_3 hp 70 kf Z k 437 (lv5 G b i) [] (HqE G M) := by
  obtain ⟨A', hwf', hop⟩ := op_array hG hwf hR.sz 
  rcases hop with ⟨x, hop⟩ | ⟨x, hop⟩
  · refine b_aload_n rfl rfl rfl ?_
    refine b_aload_n rfl rfl rfl ?_
    refine b_callH (d2 := 65) (h_array_R hG hN  hop.1 hR) rfl rfl lh_78 rfl rfl (Nat.le_of_ble_eq_true rfl) (by decide) (by omega) (fun v M2 hQ => ?_)
    obtain ⟨rfl, hP, ho⟩ := hQ
    refine b_istore rfl rfl rfl rfl ?_
    refine b_aload_n rfl rfl rfl ?_
    refine b_callVe (d2 := 16) (hop.2 M2 (rm_pl hM hP)) rfl rfl v_10_81 rfl rfl (by decide) rfl rfl (Nat.le_of_ble_eq_true rfl) (by decide) (by omega) (fun M3 hQ3 => ?_)
    refine b_lstore rfl rfl rfl rfl ?_
    refine b_aload_n rfl rfl rfl ?_
    refine b_callVe (d2 := 1) (c_thr hG hQ3) rfl rfl v_10_67 rfl rfl (by decide) rfl rfl (Nat.le_of_ble_eq_true rfl) (by decide) (by omega) (fun M4 h4 => ?_)
    subst h4
    refine b_iload rfl rfl rfl ?_
    refine b_icmp_eq rfl rfl (fun _ => ?_) (fun h => absurd rfl h)
    refine b_iload rfl rfl rfl ?_
    refine b_if_ne rfl rfl (fun h => absurd (show (nI 0) = 0 by decide +kernel) h) (fun _ => ?_)
    refine b_aload_n rfl rfl rfl ?_
    refine b_iconstN (b := 0) rfl rfl ?_
    refine b_lald (q := (70, 0)) (a := 0) (L := 1) rfl rfl rfl (by decide) (by decide) (by decide) ?_
    refine b_lload rfl rfl rfl ?_
    refine b_lc_eq rfl rfl rfl rfl (fun _ => ?_) (fun h => absurd (o_pm ho hQ3) h)
    refine b_goto rfl rfl ?_
    refine b_tab (y1 := mL_h) okL_h rfl rfl rfl rfl ?_
    refine b_wk 5 ?_
    exact kk _ _ _ hwf' (rc_pm hP.1 hQ3) hQ3.1 (by omega) (by omega)
  · refine b_aload_n rfl rfl rfl ?_
    refine b_aload_n rfl rfl rfl ?_
    refine b_callH (d2 := 65) (h_array_ISE hG hN  hop.1 hR) rfl rfl lh_78 rfl rfl (Nat.le_of_ble_eq_true rfl) (by decide) (by omega) (fun v M2 hQ => ?_)
    obtain ⟨rfl, hP⟩ := hQ
    refine b_istore rfl rfl rfl rfl ?_
    refine b_aload_n rfl rfl rfl ?_
    refine b_callVe (d2 := 16) (hop.2 M2 (rm_pl hM hP)) rfl rfl v_10_81 rfl rfl (by decide) rfl rfl (Nat.le_of_ble_eq_true rfl) (by decide) (by omega) (fun M3 hQ3 => ?_)
    refine b_lstore rfl rfl rfl rfl ?_
    refine b_aload_n rfl rfl rfl ?_
    refine b_callVe (d2 := 1) (c_thr hG hQ3) rfl rfl v_10_67 rfl rfl (by decide) rfl rfl (Nat.le_of_ble_eq_true rfl) (by decide) (by omega) (fun M4 h4 => ?_)
    subst h4
    refine b_iload rfl rfl rfl ?_
    refine b_icmp_eq rfl rfl (fun _ => ?_) (fun h => absurd rfl h)
    refine b_iload rfl rfl rfl ?_
    refine b_if_ne rfl rfl (fun _ => ?_) (fun h => absurd h (by decide +kernel))
    refine b_goto rfl rfl ?_
    refine b_tab (y1 := mL_h) okL_h rfl rfl rfl rfl ?_
    refine b_wk 5 ?_
    exact kk _ _ _ hwf' (rc_pm hP.1 hQ3) hQ3.1 (by omega) (by omega)
set_option maxHeartbeats 2000000 in
set_option maxRecDepth 20000 in
theorem law_4 {G : Gd} {hp : Method → Code → Prop} {kf : Nat} {Z : Zt} {k b L i : Nat} {xs : Nat → Int32} {A : Ab} {M : Mm} (hG : Gok G) (hN : Nc G) (hS : Sx G b L xs) (hi : i + 10 ≤ L) (hL : L ≤ 5120) (hk : k + 1 ≤ kf) (hwf : wfA A) (hR : RC A M) (hM : RM A M) (kk : Kn G hp kf Z k b i) : Fb G mL_4 hp 70 kf Z k 480 (lv5 G b i) [] (HqE G M) := by
  by_cases hz : xs (i + 3) = 0
  · have hop := op_traits hG hwf hR.sz (lg2 (xs (i + 1)) (xs (i + 2))) false (lg2 (xs (i + 4)) (xs (i + 5))) (lg2 (xs (i + 6)) (xs (i + 7))) (lg2 (xs (i + 8)) (xs (i + 9)))
    rw [bI_f (by simp)] at hop
    obtain ⟨A', hwf', hop⟩ := hop
    rcases hop with ⟨x, hop⟩ | ⟨x, hop⟩ | ⟨x, hop⟩
    · refine b_aload_n rfl rfl rfl ?_
      refine b_aload_n rfl rfl rfl ?_
      refine b_iload rfl rfl rfl ?_
      refine b_iconstN (b := 1) rfl rfl ?_
      refine b_iaddN rfl rfl ?_
      refine b_scr hS rfl rfl (by omega) (by omega) ?_
      refine b_i2l rfl rfl ?_
      refine b_bipush (v := nI 32) rfl rfl (by decide +kernel) ?_
      refine b_lshl rfl rfl ?_
      refine b_aload_n rfl rfl rfl ?_
      refine b_iload rfl rfl rfl ?_
      refine b_iconstN (b := 2) rfl rfl ?_
      refine b_iaddN rfl rfl ?_
      refine b_scr hS rfl rfl (by omega) (by omega) ?_
      refine b_i2l rfl rfl ?_
      refine b_ldc2 rfl rfl k_10_59 ?_
      refine b_land rfl rfl ?_
      refine b_lor rfl rfl ?_
      refine b_aload_n rfl rfl rfl ?_
      refine b_iload rfl rfl rfl ?_
      refine b_iconstN (b := 3) rfl rfl ?_
      refine b_iaddN rfl rfl ?_
      refine b_scr hS rfl rfl (by omega) (by omega) ?_
      refine b_if_eq rfl rfl (fun _ => ?_) (fun h => absurd hz h)
      refine b_iconstN (b := 0) rfl rfl ?_
      refine b_aload_n rfl rfl rfl ?_
      refine b_iload rfl rfl rfl ?_
      refine b_iconstN (b := 4) rfl rfl ?_
      refine b_iaddN rfl rfl ?_
      refine b_scr hS rfl rfl (by omega) (by omega) ?_
      refine b_i2l rfl rfl ?_
      refine b_bipush (v := nI 32) rfl rfl (by decide +kernel) ?_
      refine b_lshl rfl rfl ?_
      refine b_aload_n rfl rfl rfl ?_
      refine b_iload rfl rfl rfl ?_
      refine b_iconstN (b := 5) rfl rfl ?_
      refine b_iaddN rfl rfl ?_
      refine b_scr hS rfl rfl (by omega) (by omega) ?_
      refine b_i2l rfl rfl ?_
      refine b_ldc2 rfl rfl k_10_59 ?_
      refine b_land rfl rfl ?_
      refine b_lor rfl rfl ?_
      refine b_aload_n rfl rfl rfl ?_
      refine b_iload rfl rfl rfl ?_
      refine b_bipush (v := nI 6) rfl rfl (by decide +kernel) ?_
      refine b_iaddN rfl rfl ?_
      refine b_scr hS rfl rfl (by omega) (by omega) ?_
      refine b_i2l rfl rfl ?_
      refine b_bipush (v := nI 32) rfl rfl (by decide +kernel) ?_
      refine b_lshl rfl rfl ?_
      refine b_aload_n rfl rfl rfl ?_
      refine b_iload rfl rfl rfl ?_
      refine b_bipush (v := nI 7) rfl rfl (by decide +kernel) ?_
      refine b_iaddN rfl rfl ?_
      refine b_scr hS rfl rfl (by omega) (by omega) ?_
      refine b_i2l rfl rfl ?_
      refine b_ldc2 rfl rfl k_10_59 ?_
      refine b_land rfl rfl ?_
      refine b_lor rfl rfl ?_
      refine b_aload_n rfl rfl rfl ?_
      refine b_iload rfl rfl rfl ?_
      refine b_bipush (v := nI 8) rfl rfl (by decide +kernel) ?_
      refine b_iaddN rfl rfl ?_
      refine b_scr hS rfl rfl (by omega) (by omega) ?_
      refine b_i2l rfl rfl ?_
      refine b_bipush (v := nI 32) rfl rfl (by decide +kernel) ?_
      refine b_lshl rfl rfl ?_
      refine b_aload_n rfl rfl rfl ?_
      refine b_iload rfl rfl rfl ?_
      refine b_bipush (v := nI 9) rfl rfl (by decide +kernel) ?_
      refine b_iaddN rfl rfl ?_
      refine b_scr hS rfl rfl (by omega) (by omega) ?_
      refine b_i2l rfl rfl ?_
      refine b_ldc2 rfl rfl k_10_59 ?_
      refine b_land rfl rfl ?_
      refine b_lor rfl rfl ?_
      refine b_aload_n rfl rfl rfl ?_
      refine b_callH (d2 := 65) (h_traits_R hG hN (lg2 (xs (i + 1)) (xs (i + 2))) (nI 0) (lg2 (xs (i + 4)) (xs (i + 5))) (lg2 (xs (i + 6)) (xs (i + 7))) (lg2 (xs (i + 8)) (xs (i + 9))) hop.1 hR) rfl rfl lh_82 rfl rfl (Nat.le_of_ble_eq_true rfl) (by decide) (by omega) (fun v M2 hQ => ?_)
      obtain ⟨rfl, hP, ho⟩ := hQ
      refine b_istore rfl rfl rfl rfl ?_
      refine b_aload_n rfl rfl rfl ?_
      refine b_aload_n rfl rfl rfl ?_
      refine b_iload rfl rfl rfl ?_
      refine b_iconstN (b := 1) rfl rfl ?_
      refine b_iaddN rfl rfl ?_
      refine b_scr hS rfl rfl (by omega) (by omega) ?_
      refine b_i2l rfl rfl ?_
      refine b_bipush (v := nI 32) rfl rfl (by decide +kernel) ?_
      refine b_lshl rfl rfl ?_
      refine b_aload_n rfl rfl rfl ?_
      refine b_iload rfl rfl rfl ?_
      refine b_iconstN (b := 2) rfl rfl ?_
      refine b_iaddN rfl rfl ?_
      refine b_scr hS rfl rfl (by omega) (by omega) ?_
      refine b_i2l rfl rfl ?_
      refine b_ldc2 rfl rfl k_10_59 ?_
      refine b_land rfl rfl ?_
      refine b_lor rfl rfl ?_
      refine b_aload_n rfl rfl rfl ?_
      refine b_iload rfl rfl rfl ?_
      refine b_iconstN (b := 3) rfl rfl ?_
      refine b_iaddN rfl rfl ?_
      refine b_scr hS rfl rfl (by omega) (by omega) ?_
      refine b_if_eq rfl rfl (fun _ => ?_) (fun h => absurd hz h)
      refine b_iconstN (b := 0) rfl rfl ?_
      refine b_aload_n rfl rfl rfl ?_
      refine b_iload rfl rfl rfl ?_
      refine b_iconstN (b := 4) rfl rfl ?_
      refine b_iaddN rfl rfl ?_
      refine b_scr hS rfl rfl (by omega) (by omega) ?_
      refine b_i2l rfl rfl ?_
      refine b_bipush (v := nI 32) rfl rfl (by decide +kernel) ?_
      refine b_lshl rfl rfl ?_
      refine b_aload_n rfl rfl rfl ?_
      refine b_iload rfl rfl rfl ?_
      refine b_iconstN (b := 5) rfl rfl ?_
      refine b_iaddN rfl rfl ?_
      refine b_scr hS rfl rfl (by omega) (by omega) ?_
      refine b_i2l rfl rfl ?_
      refine b_ldc2 rfl rfl k_10_59 ?_
      refine b_land rfl rfl ?_
      refine b_lor rfl rfl ?_
      refine b_aload_n rfl rfl rfl ?_
      refine b_iload rfl rfl rfl ?_
      refine b_bipush (v := nI 6) rfl rfl (by decide +kernel) ?_
      refine b_iaddN rfl rfl ?_
      refine b_scr hS rfl rfl (by omega) (by omega) ?_
      refine b_i2l rfl rfl ?_
      refine b_bipush (v := nI 32) rfl rfl (by decide +kernel) ?_
      refine b_lshl rfl rfl ?_
      refine b_aload_n rfl rfl rfl ?_
      refine b_iload rfl rfl rfl ?_
      refine b_bipush (v := nI 7) rfl rfl (by decide +kernel) ?_
      refine b_iaddN rfl rfl ?_
      refine b_scr hS rfl rfl (by omega) (by omega) ?_
      refine b_i2l rfl rfl ?_
      refine b_ldc2 rfl rfl k_10_59 ?_
      refine b_land rfl rfl ?_
      refine b_lor rfl rfl ?_
      refine b_aload_n rfl rfl rfl ?_
      refine b_iload rfl rfl rfl ?_
      refine b_bipush (v := nI 8) rfl rfl (by decide +kernel) ?_
      refine b_iaddN rfl rfl ?_
      refine b_scr hS rfl rfl (by omega) (by omega) ?_
      refine b_i2l rfl rfl ?_
      refine b_bipush (v := nI 32) rfl rfl (by decide +kernel) ?_
      refine b_lshl rfl rfl ?_
      refine b_aload_n rfl rfl rfl ?_
      refine b_iload rfl rfl rfl ?_
      refine b_bipush (v := nI 9) rfl rfl (by decide +kernel) ?_
      refine b_iaddN rfl rfl ?_
      refine b_scr hS rfl rfl (by omega) (by omega) ?_
      refine b_i2l rfl rfl ?_
      refine b_ldc2 rfl rfl k_10_59 ?_
      refine b_land rfl rfl ?_
      refine b_lor rfl rfl ?_
      refine b_callVe (d2 := 16) (hop.2 M2 (rm_pl hM hP)) rfl rfl v_10_85 rfl rfl (by decide) rfl rfl (Nat.le_of_ble_eq_true rfl) (by decide) (by omega) (fun M3 hQ3 => ?_)
      refine b_istore rfl rfl rfl rfl ?_
      refine b_aload_n rfl rfl rfl ?_
      refine b_callVe (d2 := 1) (c_thr hG hQ3) rfl rfl v_10_67 rfl rfl (by decide) rfl rfl (Nat.le_of_ble_eq_true rfl) (by decide) (by omega) (fun M4 h4 => ?_)
      subst h4
      refine b_iload rfl rfl rfl ?_
      refine b_icmp_eq rfl rfl (fun _ => ?_) (fun h => absurd rfl h)
      refine b_iload rfl rfl rfl ?_
      refine b_if_ne rfl rfl (fun h => absurd (show (nI 0) = 0 by decide +kernel) h) (fun _ => ?_)
      refine b_aload_n rfl rfl rfl ?_
      refine b_iconstN (b := 0) rfl rfl ?_
      refine b_lald (q := (70, 0)) (a := 0) (L := 1) rfl rfl rfl (by decide) (by decide) (by decide) ?_
      refine b_iload rfl rfl rfl ?_
      refine b_i2l rfl rfl ?_
      refine b_lc_eq rfl rfl rfl rfl (fun _ => ?_) (fun h => absurd (o_pm ho hQ3) h)
      refine b_goto rfl rfl ?_
      refine b_tab (y1 := mL_h) okL_h rfl rfl rfl rfl ?_
      refine b_wk 5 ?_
      exact kk _ _ _ hwf' (rc_pm hP.1 hQ3) hQ3.1 (by omega) (by omega)
    · refine b_aload_n rfl rfl rfl ?_
      refine b_aload_n rfl rfl rfl ?_
      refine b_iload rfl rfl rfl ?_
      refine b_iconstN (b := 1) rfl rfl ?_
      refine b_iaddN rfl rfl ?_
      refine b_scr hS rfl rfl (by omega) (by omega) ?_
      refine b_i2l rfl rfl ?_
      refine b_bipush (v := nI 32) rfl rfl (by decide +kernel) ?_
      refine b_lshl rfl rfl ?_
      refine b_aload_n rfl rfl rfl ?_
      refine b_iload rfl rfl rfl ?_
      refine b_iconstN (b := 2) rfl rfl ?_
      refine b_iaddN rfl rfl ?_
      refine b_scr hS rfl rfl (by omega) (by omega) ?_
      refine b_i2l rfl rfl ?_
      refine b_ldc2 rfl rfl k_10_59 ?_
      refine b_land rfl rfl ?_
      refine b_lor rfl rfl ?_
      refine b_aload_n rfl rfl rfl ?_
      refine b_iload rfl rfl rfl ?_
      refine b_iconstN (b := 3) rfl rfl ?_
      refine b_iaddN rfl rfl ?_
      refine b_scr hS rfl rfl (by omega) (by omega) ?_
      refine b_if_eq rfl rfl (fun _ => ?_) (fun h => absurd hz h)
      refine b_iconstN (b := 0) rfl rfl ?_
      refine b_aload_n rfl rfl rfl ?_
      refine b_iload rfl rfl rfl ?_
      refine b_iconstN (b := 4) rfl rfl ?_
      refine b_iaddN rfl rfl ?_
      refine b_scr hS rfl rfl (by omega) (by omega) ?_
      refine b_i2l rfl rfl ?_
      refine b_bipush (v := nI 32) rfl rfl (by decide +kernel) ?_
      refine b_lshl rfl rfl ?_
      refine b_aload_n rfl rfl rfl ?_
      refine b_iload rfl rfl rfl ?_
      refine b_iconstN (b := 5) rfl rfl ?_
      refine b_iaddN rfl rfl ?_
      refine b_scr hS rfl rfl (by omega) (by omega) ?_
      refine b_i2l rfl rfl ?_
      refine b_ldc2 rfl rfl k_10_59 ?_
      refine b_land rfl rfl ?_
      refine b_lor rfl rfl ?_
      refine b_aload_n rfl rfl rfl ?_
      refine b_iload rfl rfl rfl ?_
      refine b_bipush (v := nI 6) rfl rfl (by decide +kernel) ?_
      refine b_iaddN rfl rfl ?_
      refine b_scr hS rfl rfl (by omega) (by omega) ?_
      refine b_i2l rfl rfl ?_
      refine b_bipush (v := nI 32) rfl rfl (by decide +kernel) ?_
      refine b_lshl rfl rfl ?_
      refine b_aload_n rfl rfl rfl ?_
      refine b_iload rfl rfl rfl ?_
      refine b_bipush (v := nI 7) rfl rfl (by decide +kernel) ?_
      refine b_iaddN rfl rfl ?_
      refine b_scr hS rfl rfl (by omega) (by omega) ?_
      refine b_i2l rfl rfl ?_
      refine b_ldc2 rfl rfl k_10_59 ?_
      refine b_land rfl rfl ?_
      refine b_lor rfl rfl ?_
      refine b_aload_n rfl rfl rfl ?_
      refine b_iload rfl rfl rfl ?_
      refine b_bipush (v := nI 8) rfl rfl (by decide +kernel) ?_
      refine b_iaddN rfl rfl ?_
      refine b_scr hS rfl rfl (by omega) (by omega) ?_
      refine b_i2l rfl rfl ?_
      refine b_bipush (v := nI 32) rfl rfl (by decide +kernel) ?_
      refine b_lshl rfl rfl ?_
      refine b_aload_n rfl rfl rfl ?_
      refine b_iload rfl rfl rfl ?_
      refine b_bipush (v := nI 9) rfl rfl (by decide +kernel) ?_
      refine b_iaddN rfl rfl ?_
      refine b_scr hS rfl rfl (by omega) (by omega) ?_
      refine b_i2l rfl rfl ?_
      refine b_ldc2 rfl rfl k_10_59 ?_
      refine b_land rfl rfl ?_
      refine b_lor rfl rfl ?_
      refine b_aload_n rfl rfl rfl ?_
      refine b_callH (d2 := 65) (h_traits_IAE hG hN (lg2 (xs (i + 1)) (xs (i + 2))) (nI 0) (lg2 (xs (i + 4)) (xs (i + 5))) (lg2 (xs (i + 6)) (xs (i + 7))) (lg2 (xs (i + 8)) (xs (i + 9))) hop.1 hR) rfl rfl lh_82 rfl rfl (Nat.le_of_ble_eq_true rfl) (by decide) (by omega) (fun v M2 hQ => ?_)
      obtain ⟨rfl, hP⟩ := hQ
      refine b_istore rfl rfl rfl rfl ?_
      refine b_aload_n rfl rfl rfl ?_
      refine b_aload_n rfl rfl rfl ?_
      refine b_iload rfl rfl rfl ?_
      refine b_iconstN (b := 1) rfl rfl ?_
      refine b_iaddN rfl rfl ?_
      refine b_scr hS rfl rfl (by omega) (by omega) ?_
      refine b_i2l rfl rfl ?_
      refine b_bipush (v := nI 32) rfl rfl (by decide +kernel) ?_
      refine b_lshl rfl rfl ?_
      refine b_aload_n rfl rfl rfl ?_
      refine b_iload rfl rfl rfl ?_
      refine b_iconstN (b := 2) rfl rfl ?_
      refine b_iaddN rfl rfl ?_
      refine b_scr hS rfl rfl (by omega) (by omega) ?_
      refine b_i2l rfl rfl ?_
      refine b_ldc2 rfl rfl k_10_59 ?_
      refine b_land rfl rfl ?_
      refine b_lor rfl rfl ?_
      refine b_aload_n rfl rfl rfl ?_
      refine b_iload rfl rfl rfl ?_
      refine b_iconstN (b := 3) rfl rfl ?_
      refine b_iaddN rfl rfl ?_
      refine b_scr hS rfl rfl (by omega) (by omega) ?_
      refine b_if_eq rfl rfl (fun _ => ?_) (fun h => absurd hz h)
      refine b_iconstN (b := 0) rfl rfl ?_
      refine b_aload_n rfl rfl rfl ?_
      refine b_iload rfl rfl rfl ?_
      refine b_iconstN (b := 4) rfl rfl ?_
      refine b_iaddN rfl rfl ?_
      refine b_scr hS rfl rfl (by omega) (by omega) ?_
      refine b_i2l rfl rfl ?_
      refine b_bipush (v := nI 32) rfl rfl (by decide +kernel) ?_
      refine b_lshl rfl rfl ?_
      refine b_aload_n rfl rfl rfl ?_
      refine b_iload rfl rfl rfl ?_
      refine b_iconstN (b := 5) rfl rfl ?_
      refine b_iaddN rfl rfl ?_
      refine b_scr hS rfl rfl (by omega) (by omega) ?_
      refine b_i2l rfl rfl ?_
      refine b_ldc2 rfl rfl k_10_59 ?_
      refine b_land rfl rfl ?_
      refine b_lor rfl rfl ?_
      refine b_aload_n rfl rfl rfl ?_
      refine b_iload rfl rfl rfl ?_
      refine b_bipush (v := nI 6) rfl rfl (by decide +kernel) ?_
      refine b_iaddN rfl rfl ?_
      refine b_scr hS rfl rfl (by omega) (by omega) ?_
      refine b_i2l rfl rfl ?_
      refine b_bipush (v := nI 32) rfl rfl (by decide +kernel) ?_
      refine b_lshl rfl rfl ?_
      refine b_aload_n rfl rfl rfl ?_
      refine b_iload rfl rfl rfl ?_
      refine b_bipush (v := nI 7) rfl rfl (by decide +kernel) ?_
      refine b_iaddN rfl rfl ?_
      refine b_scr hS rfl rfl (by omega) (by omega) ?_
      refine b_i2l rfl rfl ?_
      refine b_ldc2 rfl rfl k_10_59 ?_
      refine b_land rfl rfl ?_
      refine b_lor rfl rfl ?_
      refine b_aload_n rfl rfl rfl ?_
      refine b_iload rfl rfl rfl ?_
      refine b_bipush (v := nI 8) rfl rfl (by decide +kernel) ?_
      refine b_iaddN rfl rfl ?_
      refine b_scr hS rfl rfl (by omega) (by omega) ?_
      refine b_i2l rfl rfl ?_
      refine b_bipush (v := nI 32) rfl rfl (by decide +kernel) ?_
      refine b_lshl rfl rfl ?_
      refine b_aload_n rfl rfl rfl ?_
      refine b_iload rfl rfl rfl ?_
      refine b_bipush (v := nI 9) rfl rfl (by decide +kernel) ?_
      refine b_iaddN rfl rfl ?_
      refine b_scr hS rfl rfl (by omega) (by omega) ?_
      refine b_i2l rfl rfl ?_
      refine b_ldc2 rfl rfl k_10_59 ?_
      refine b_land rfl rfl ?_
      refine b_lor rfl rfl ?_
      refine b_callVe (d2 := 16) (hop.2 M2 (rm_pl hM hP)) rfl rfl v_10_85 rfl rfl (by decide) rfl rfl (Nat.le_of_ble_eq_true rfl) (by decide) (by omega) (fun M3 hQ3 => ?_)
      refine b_istore rfl rfl rfl rfl ?_
      refine b_aload_n rfl rfl rfl ?_
      refine b_callVe (d2 := 1) (c_thr hG hQ3) rfl rfl v_10_67 rfl rfl (by decide) rfl rfl (Nat.le_of_ble_eq_true rfl) (by decide) (by omega) (fun M4 h4 => ?_)
      subst h4
      refine b_iload rfl rfl rfl ?_
      refine b_icmp_eq rfl rfl (fun _ => ?_) (fun h => absurd rfl h)
      refine b_iload rfl rfl rfl ?_
      refine b_if_ne rfl rfl (fun _ => ?_) (fun h => absurd h (by decide +kernel))
      refine b_goto rfl rfl ?_
      refine b_tab (y1 := mL_h) okL_h rfl rfl rfl rfl ?_
      refine b_wk 5 ?_
      exact kk _ _ _ hwf' (rc_pm hP.1 hQ3) hQ3.1 (by omega) (by omega)
    · refine b_aload_n rfl rfl rfl ?_
      refine b_aload_n rfl rfl rfl ?_
      refine b_iload rfl rfl rfl ?_
      refine b_iconstN (b := 1) rfl rfl ?_
      refine b_iaddN rfl rfl ?_
      refine b_scr hS rfl rfl (by omega) (by omega) ?_
      refine b_i2l rfl rfl ?_
      refine b_bipush (v := nI 32) rfl rfl (by decide +kernel) ?_
      refine b_lshl rfl rfl ?_
      refine b_aload_n rfl rfl rfl ?_
      refine b_iload rfl rfl rfl ?_
      refine b_iconstN (b := 2) rfl rfl ?_
      refine b_iaddN rfl rfl ?_
      refine b_scr hS rfl rfl (by omega) (by omega) ?_
      refine b_i2l rfl rfl ?_
      refine b_ldc2 rfl rfl k_10_59 ?_
      refine b_land rfl rfl ?_
      refine b_lor rfl rfl ?_
      refine b_aload_n rfl rfl rfl ?_
      refine b_iload rfl rfl rfl ?_
      refine b_iconstN (b := 3) rfl rfl ?_
      refine b_iaddN rfl rfl ?_
      refine b_scr hS rfl rfl (by omega) (by omega) ?_
      refine b_if_eq rfl rfl (fun _ => ?_) (fun h => absurd hz h)
      refine b_iconstN (b := 0) rfl rfl ?_
      refine b_aload_n rfl rfl rfl ?_
      refine b_iload rfl rfl rfl ?_
      refine b_iconstN (b := 4) rfl rfl ?_
      refine b_iaddN rfl rfl ?_
      refine b_scr hS rfl rfl (by omega) (by omega) ?_
      refine b_i2l rfl rfl ?_
      refine b_bipush (v := nI 32) rfl rfl (by decide +kernel) ?_
      refine b_lshl rfl rfl ?_
      refine b_aload_n rfl rfl rfl ?_
      refine b_iload rfl rfl rfl ?_
      refine b_iconstN (b := 5) rfl rfl ?_
      refine b_iaddN rfl rfl ?_
      refine b_scr hS rfl rfl (by omega) (by omega) ?_
      refine b_i2l rfl rfl ?_
      refine b_ldc2 rfl rfl k_10_59 ?_
      refine b_land rfl rfl ?_
      refine b_lor rfl rfl ?_
      refine b_aload_n rfl rfl rfl ?_
      refine b_iload rfl rfl rfl ?_
      refine b_bipush (v := nI 6) rfl rfl (by decide +kernel) ?_
      refine b_iaddN rfl rfl ?_
      refine b_scr hS rfl rfl (by omega) (by omega) ?_
      refine b_i2l rfl rfl ?_
      refine b_bipush (v := nI 32) rfl rfl (by decide +kernel) ?_
      refine b_lshl rfl rfl ?_
      refine b_aload_n rfl rfl rfl ?_
      refine b_iload rfl rfl rfl ?_
      refine b_bipush (v := nI 7) rfl rfl (by decide +kernel) ?_
      refine b_iaddN rfl rfl ?_
      refine b_scr hS rfl rfl (by omega) (by omega) ?_
      refine b_i2l rfl rfl ?_
      refine b_ldc2 rfl rfl k_10_59 ?_
      refine b_land rfl rfl ?_
      refine b_lor rfl rfl ?_
      refine b_aload_n rfl rfl rfl ?_
      refine b_iload rfl rfl rfl ?_
      refine b_bipush (v := nI 8) rfl rfl (by decide +kernel) ?_
      refine b_iaddN rfl rfl ?_
      refine b_scr hS rfl rfl (by omega) (by omega) ?_
      refine b_i2l rfl rfl ?_
      refine b_bipush (v := nI 32) rfl rfl (by decide +kernel) ?_
      refine b_lshl rfl rfl ?_
      refine b_aload_n rfl rfl rfl ?_
      refine b_iload rfl rfl rfl ?_
      refine b_bipush (v := nI 9) rfl rfl (by decide +kernel) ?_
      refine b_iaddN rfl rfl ?_
      refine b_scr hS rfl rfl (by omega) (by omega) ?_
      refine b_i2l rfl rfl ?_
      refine b_ldc2 rfl rfl k_10_59 ?_
      refine b_land rfl rfl ?_
      refine b_lor rfl rfl ?_
      refine b_aload_n rfl rfl rfl ?_
      refine b_callH (d2 := 65) (h_traits_ISE hG hN (lg2 (xs (i + 1)) (xs (i + 2))) (nI 0) (lg2 (xs (i + 4)) (xs (i + 5))) (lg2 (xs (i + 6)) (xs (i + 7))) (lg2 (xs (i + 8)) (xs (i + 9))) hop.1 hR) rfl rfl lh_82 rfl rfl (Nat.le_of_ble_eq_true rfl) (by decide) (by omega) (fun v M2 hQ => ?_)
      obtain ⟨rfl, hP⟩ := hQ
      refine b_istore rfl rfl rfl rfl ?_
      refine b_aload_n rfl rfl rfl ?_
      refine b_aload_n rfl rfl rfl ?_
      refine b_iload rfl rfl rfl ?_
      refine b_iconstN (b := 1) rfl rfl ?_
      refine b_iaddN rfl rfl ?_
      refine b_scr hS rfl rfl (by omega) (by omega) ?_
      refine b_i2l rfl rfl ?_
      refine b_bipush (v := nI 32) rfl rfl (by decide +kernel) ?_
      refine b_lshl rfl rfl ?_
      refine b_aload_n rfl rfl rfl ?_
      refine b_iload rfl rfl rfl ?_
      refine b_iconstN (b := 2) rfl rfl ?_
      refine b_iaddN rfl rfl ?_
      refine b_scr hS rfl rfl (by omega) (by omega) ?_
      refine b_i2l rfl rfl ?_
      refine b_ldc2 rfl rfl k_10_59 ?_
      refine b_land rfl rfl ?_
      refine b_lor rfl rfl ?_
      refine b_aload_n rfl rfl rfl ?_
      refine b_iload rfl rfl rfl ?_
      refine b_iconstN (b := 3) rfl rfl ?_
      refine b_iaddN rfl rfl ?_
      refine b_scr hS rfl rfl (by omega) (by omega) ?_
      refine b_if_eq rfl rfl (fun _ => ?_) (fun h => absurd hz h)
      refine b_iconstN (b := 0) rfl rfl ?_
      refine b_aload_n rfl rfl rfl ?_
      refine b_iload rfl rfl rfl ?_
      refine b_iconstN (b := 4) rfl rfl ?_
      refine b_iaddN rfl rfl ?_
      refine b_scr hS rfl rfl (by omega) (by omega) ?_
      refine b_i2l rfl rfl ?_
      refine b_bipush (v := nI 32) rfl rfl (by decide +kernel) ?_
      refine b_lshl rfl rfl ?_
      refine b_aload_n rfl rfl rfl ?_
      refine b_iload rfl rfl rfl ?_
      refine b_iconstN (b := 5) rfl rfl ?_
      refine b_iaddN rfl rfl ?_
      refine b_scr hS rfl rfl (by omega) (by omega) ?_
      refine b_i2l rfl rfl ?_
      refine b_ldc2 rfl rfl k_10_59 ?_
      refine b_land rfl rfl ?_
      refine b_lor rfl rfl ?_
      refine b_aload_n rfl rfl rfl ?_
      refine b_iload rfl rfl rfl ?_
      refine b_bipush (v := nI 6) rfl rfl (by decide +kernel) ?_
      refine b_iaddN rfl rfl ?_
      refine b_scr hS rfl rfl (by omega) (by omega) ?_
      refine b_i2l rfl rfl ?_
      refine b_bipush (v := nI 32) rfl rfl (by decide +kernel) ?_
      refine b_lshl rfl rfl ?_
      refine b_aload_n rfl rfl rfl ?_
      refine b_iload rfl rfl rfl ?_
      refine b_bipush (v := nI 7) rfl rfl (by decide +kernel) ?_
      refine b_iaddN rfl rfl ?_
      refine b_scr hS rfl rfl (by omega) (by omega) ?_
      refine b_i2l rfl rfl ?_
      refine b_ldc2 rfl rfl k_10_59 ?_
      refine b_land rfl rfl ?_
      refine b_lor rfl rfl ?_
      refine b_aload_n rfl rfl rfl ?_
      refine b_iload rfl rfl rfl ?_
      refine b_bipush (v := nI 8) rfl rfl (by decide +kernel) ?_
      refine b_iaddN rfl rfl ?_
      refine b_scr hS rfl rfl (by omega) (by omega) ?_
      refine b_i2l rfl rfl ?_
      refine b_bipush (v := nI 32) rfl rfl (by decide +kernel) ?_
      refine b_lshl rfl rfl ?_
      refine b_aload_n rfl rfl rfl ?_
      refine b_iload rfl rfl rfl ?_
      refine b_bipush (v := nI 9) rfl rfl (by decide +kernel) ?_
      refine b_iaddN rfl rfl ?_
      refine b_scr hS rfl rfl (by omega) (by omega) ?_
      refine b_i2l rfl rfl ?_
      refine b_ldc2 rfl rfl k_10_59 ?_
      refine b_land rfl rfl ?_
      refine b_lor rfl rfl ?_
      refine b_callVe (d2 := 16) (hop.2 M2 (rm_pl hM hP)) rfl rfl v_10_85 rfl rfl (by decide) rfl rfl (Nat.le_of_ble_eq_true rfl) (by decide) (by omega) (fun M3 hQ3 => ?_)
      refine b_istore rfl rfl rfl rfl ?_
      refine b_aload_n rfl rfl rfl ?_
      refine b_callVe (d2 := 1) (c_thr hG hQ3) rfl rfl v_10_67 rfl rfl (by decide) rfl rfl (Nat.le_of_ble_eq_true rfl) (by decide) (by omega) (fun M4 h4 => ?_)
      subst h4
      refine b_iload rfl rfl rfl ?_
      refine b_icmp_eq rfl rfl (fun _ => ?_) (fun h => absurd rfl h)
      refine b_iload rfl rfl rfl ?_
      refine b_if_ne rfl rfl (fun _ => ?_) (fun h => absurd h (by decide +kernel))
      refine b_goto rfl rfl ?_
      refine b_tab (y1 := mL_h) okL_h rfl rfl rfl rfl ?_
      refine b_wk 5 ?_
      exact kk _ _ _ hwf' (rc_pm hP.1 hQ3) hQ3.1 (by omega) (by omega)
  · have hop := op_traits hG hwf hR.sz (lg2 (xs (i + 1)) (xs (i + 2))) true (lg2 (xs (i + 4)) (xs (i + 5))) (lg2 (xs (i + 6)) (xs (i + 7))) (lg2 (xs (i + 8)) (xs (i + 9)))
    rw [bI_t (by simp)] at hop
    obtain ⟨A', hwf', hop⟩ := hop
    rcases hop with ⟨x, hop⟩ | ⟨x, hop⟩ | ⟨x, hop⟩
    · refine b_aload_n rfl rfl rfl ?_
      refine b_aload_n rfl rfl rfl ?_
      refine b_iload rfl rfl rfl ?_
      refine b_iconstN (b := 1) rfl rfl ?_
      refine b_iaddN rfl rfl ?_
      refine b_scr hS rfl rfl (by omega) (by omega) ?_
      refine b_i2l rfl rfl ?_
      refine b_bipush (v := nI 32) rfl rfl (by decide +kernel) ?_
      refine b_lshl rfl rfl ?_
      refine b_aload_n rfl rfl rfl ?_
      refine b_iload rfl rfl rfl ?_
      refine b_iconstN (b := 2) rfl rfl ?_
      refine b_iaddN rfl rfl ?_
      refine b_scr hS rfl rfl (by omega) (by omega) ?_
      refine b_i2l rfl rfl ?_
      refine b_ldc2 rfl rfl k_10_59 ?_
      refine b_land rfl rfl ?_
      refine b_lor rfl rfl ?_
      refine b_aload_n rfl rfl rfl ?_
      refine b_iload rfl rfl rfl ?_
      refine b_iconstN (b := 3) rfl rfl ?_
      refine b_iaddN rfl rfl ?_
      refine b_scr hS rfl rfl (by omega) (by omega) ?_
      refine b_if_eq rfl rfl (fun h => absurd h hz) (fun _ => ?_)
      refine b_iconstN (b := 1) rfl rfl ?_
      refine b_goto rfl rfl ?_
      refine b_aload_n rfl rfl rfl ?_
      refine b_iload rfl rfl rfl ?_
      refine b_iconstN (b := 4) rfl rfl ?_
      refine b_iaddN rfl rfl ?_
      refine b_scr hS rfl rfl (by omega) (by omega) ?_
      refine b_i2l rfl rfl ?_
      refine b_bipush (v := nI 32) rfl rfl (by decide +kernel) ?_
      refine b_lshl rfl rfl ?_
      refine b_aload_n rfl rfl rfl ?_
      refine b_iload rfl rfl rfl ?_
      refine b_iconstN (b := 5) rfl rfl ?_
      refine b_iaddN rfl rfl ?_
      refine b_scr hS rfl rfl (by omega) (by omega) ?_
      refine b_i2l rfl rfl ?_
      refine b_ldc2 rfl rfl k_10_59 ?_
      refine b_land rfl rfl ?_
      refine b_lor rfl rfl ?_
      refine b_aload_n rfl rfl rfl ?_
      refine b_iload rfl rfl rfl ?_
      refine b_bipush (v := nI 6) rfl rfl (by decide +kernel) ?_
      refine b_iaddN rfl rfl ?_
      refine b_scr hS rfl rfl (by omega) (by omega) ?_
      refine b_i2l rfl rfl ?_
      refine b_bipush (v := nI 32) rfl rfl (by decide +kernel) ?_
      refine b_lshl rfl rfl ?_
      refine b_aload_n rfl rfl rfl ?_
      refine b_iload rfl rfl rfl ?_
      refine b_bipush (v := nI 7) rfl rfl (by decide +kernel) ?_
      refine b_iaddN rfl rfl ?_
      refine b_scr hS rfl rfl (by omega) (by omega) ?_
      refine b_i2l rfl rfl ?_
      refine b_ldc2 rfl rfl k_10_59 ?_
      refine b_land rfl rfl ?_
      refine b_lor rfl rfl ?_
      refine b_aload_n rfl rfl rfl ?_
      refine b_iload rfl rfl rfl ?_
      refine b_bipush (v := nI 8) rfl rfl (by decide +kernel) ?_
      refine b_iaddN rfl rfl ?_
      refine b_scr hS rfl rfl (by omega) (by omega) ?_
      refine b_i2l rfl rfl ?_
      refine b_bipush (v := nI 32) rfl rfl (by decide +kernel) ?_
      refine b_lshl rfl rfl ?_
      refine b_aload_n rfl rfl rfl ?_
      refine b_iload rfl rfl rfl ?_
      refine b_bipush (v := nI 9) rfl rfl (by decide +kernel) ?_
      refine b_iaddN rfl rfl ?_
      refine b_scr hS rfl rfl (by omega) (by omega) ?_
      refine b_i2l rfl rfl ?_
      refine b_ldc2 rfl rfl k_10_59 ?_
      refine b_land rfl rfl ?_
      refine b_lor rfl rfl ?_
      refine b_aload_n rfl rfl rfl ?_
      refine b_callH (d2 := 65) (h_traits_R hG hN (lg2 (xs (i + 1)) (xs (i + 2))) (nI 1) (lg2 (xs (i + 4)) (xs (i + 5))) (lg2 (xs (i + 6)) (xs (i + 7))) (lg2 (xs (i + 8)) (xs (i + 9))) hop.1 hR) rfl rfl lh_82 rfl rfl (Nat.le_of_ble_eq_true rfl) (by decide) (by omega) (fun v M2 hQ => ?_)
      obtain ⟨rfl, hP, ho⟩ := hQ
      refine b_istore rfl rfl rfl rfl ?_
      refine b_aload_n rfl rfl rfl ?_
      refine b_aload_n rfl rfl rfl ?_
      refine b_iload rfl rfl rfl ?_
      refine b_iconstN (b := 1) rfl rfl ?_
      refine b_iaddN rfl rfl ?_
      refine b_scr hS rfl rfl (by omega) (by omega) ?_
      refine b_i2l rfl rfl ?_
      refine b_bipush (v := nI 32) rfl rfl (by decide +kernel) ?_
      refine b_lshl rfl rfl ?_
      refine b_aload_n rfl rfl rfl ?_
      refine b_iload rfl rfl rfl ?_
      refine b_iconstN (b := 2) rfl rfl ?_
      refine b_iaddN rfl rfl ?_
      refine b_scr hS rfl rfl (by omega) (by omega) ?_
      refine b_i2l rfl rfl ?_
      refine b_ldc2 rfl rfl k_10_59 ?_
      refine b_land rfl rfl ?_
      refine b_lor rfl rfl ?_
      refine b_aload_n rfl rfl rfl ?_
      refine b_iload rfl rfl rfl ?_
      refine b_iconstN (b := 3) rfl rfl ?_
      refine b_iaddN rfl rfl ?_
      refine b_scr hS rfl rfl (by omega) (by omega) ?_
      refine b_if_eq rfl rfl (fun h => absurd h hz) (fun _ => ?_)
      refine b_iconstN (b := 1) rfl rfl ?_
      refine b_goto rfl rfl ?_
      refine b_aload_n rfl rfl rfl ?_
      refine b_iload rfl rfl rfl ?_
      refine b_iconstN (b := 4) rfl rfl ?_
      refine b_iaddN rfl rfl ?_
      refine b_scr hS rfl rfl (by omega) (by omega) ?_
      refine b_i2l rfl rfl ?_
      refine b_bipush (v := nI 32) rfl rfl (by decide +kernel) ?_
      refine b_lshl rfl rfl ?_
      refine b_aload_n rfl rfl rfl ?_
      refine b_iload rfl rfl rfl ?_
      refine b_iconstN (b := 5) rfl rfl ?_
      refine b_iaddN rfl rfl ?_
      refine b_scr hS rfl rfl (by omega) (by omega) ?_
      refine b_i2l rfl rfl ?_
      refine b_ldc2 rfl rfl k_10_59 ?_
      refine b_land rfl rfl ?_
      refine b_lor rfl rfl ?_
      refine b_aload_n rfl rfl rfl ?_
      refine b_iload rfl rfl rfl ?_
      refine b_bipush (v := nI 6) rfl rfl (by decide +kernel) ?_
      refine b_iaddN rfl rfl ?_
      refine b_scr hS rfl rfl (by omega) (by omega) ?_
      refine b_i2l rfl rfl ?_
      refine b_bipush (v := nI 32) rfl rfl (by decide +kernel) ?_
      refine b_lshl rfl rfl ?_
      refine b_aload_n rfl rfl rfl ?_
      refine b_iload rfl rfl rfl ?_
      refine b_bipush (v := nI 7) rfl rfl (by decide +kernel) ?_
      refine b_iaddN rfl rfl ?_
      refine b_scr hS rfl rfl (by omega) (by omega) ?_
      refine b_i2l rfl rfl ?_
      refine b_ldc2 rfl rfl k_10_59 ?_
      refine b_land rfl rfl ?_
      refine b_lor rfl rfl ?_
      refine b_aload_n rfl rfl rfl ?_
      refine b_iload rfl rfl rfl ?_
      refine b_bipush (v := nI 8) rfl rfl (by decide +kernel) ?_
      refine b_iaddN rfl rfl ?_
      refine b_scr hS rfl rfl (by omega) (by omega) ?_
      refine b_i2l rfl rfl ?_
      refine b_bipush (v := nI 32) rfl rfl (by decide +kernel) ?_
      refine b_lshl rfl rfl ?_
      refine b_aload_n rfl rfl rfl ?_
      refine b_iload rfl rfl rfl ?_
      refine b_bipush (v := nI 9) rfl rfl (by decide +kernel) ?_
      refine b_iaddN rfl rfl ?_
      refine b_scr hS rfl rfl (by omega) (by omega) ?_
      refine b_i2l rfl rfl ?_
      refine b_ldc2 rfl rfl k_10_59 ?_
      refine b_land rfl rfl ?_
      refine b_lor rfl rfl ?_
      refine b_callVe (d2 := 16) (hop.2 M2 (rm_pl hM hP)) rfl rfl v_10_85 rfl rfl (by decide) rfl rfl (Nat.le_of_ble_eq_true rfl) (by decide) (by omega) (fun M3 hQ3 => ?_)
      refine b_istore rfl rfl rfl rfl ?_
      refine b_aload_n rfl rfl rfl ?_
      refine b_callVe (d2 := 1) (c_thr hG hQ3) rfl rfl v_10_67 rfl rfl (by decide) rfl rfl (Nat.le_of_ble_eq_true rfl) (by decide) (by omega) (fun M4 h4 => ?_)
      subst h4
      refine b_iload rfl rfl rfl ?_
      refine b_icmp_eq rfl rfl (fun _ => ?_) (fun h => absurd rfl h)
      refine b_iload rfl rfl rfl ?_
      refine b_if_ne rfl rfl (fun h => absurd (show (nI 0) = 0 by decide +kernel) h) (fun _ => ?_)
      refine b_aload_n rfl rfl rfl ?_
      refine b_iconstN (b := 0) rfl rfl ?_
      refine b_lald (q := (70, 0)) (a := 0) (L := 1) rfl rfl rfl (by decide) (by decide) (by decide) ?_
      refine b_iload rfl rfl rfl ?_
      refine b_i2l rfl rfl ?_
      refine b_lc_eq rfl rfl rfl rfl (fun _ => ?_) (fun h => absurd (o_pm ho hQ3) h)
      refine b_goto rfl rfl ?_
      refine b_tab (y1 := mL_h) okL_h rfl rfl rfl rfl ?_
      refine b_wk 5 ?_
      exact kk _ _ _ hwf' (rc_pm hP.1 hQ3) hQ3.1 (by omega) (by omega)
    · refine b_aload_n rfl rfl rfl ?_
      refine b_aload_n rfl rfl rfl ?_
      refine b_iload rfl rfl rfl ?_
      refine b_iconstN (b := 1) rfl rfl ?_
      refine b_iaddN rfl rfl ?_
      refine b_scr hS rfl rfl (by omega) (by omega) ?_
      refine b_i2l rfl rfl ?_
      refine b_bipush (v := nI 32) rfl rfl (by decide +kernel) ?_
      refine b_lshl rfl rfl ?_
      refine b_aload_n rfl rfl rfl ?_
      refine b_iload rfl rfl rfl ?_
      refine b_iconstN (b := 2) rfl rfl ?_
      refine b_iaddN rfl rfl ?_
      refine b_scr hS rfl rfl (by omega) (by omega) ?_
      refine b_i2l rfl rfl ?_
      refine b_ldc2 rfl rfl k_10_59 ?_
      refine b_land rfl rfl ?_
      refine b_lor rfl rfl ?_
      refine b_aload_n rfl rfl rfl ?_
      refine b_iload rfl rfl rfl ?_
      refine b_iconstN (b := 3) rfl rfl ?_
      refine b_iaddN rfl rfl ?_
      refine b_scr hS rfl rfl (by omega) (by omega) ?_
      refine b_if_eq rfl rfl (fun h => absurd h hz) (fun _ => ?_)
      refine b_iconstN (b := 1) rfl rfl ?_
      refine b_goto rfl rfl ?_
      refine b_aload_n rfl rfl rfl ?_
      refine b_iload rfl rfl rfl ?_
      refine b_iconstN (b := 4) rfl rfl ?_
      refine b_iaddN rfl rfl ?_
      refine b_scr hS rfl rfl (by omega) (by omega) ?_
      refine b_i2l rfl rfl ?_
      refine b_bipush (v := nI 32) rfl rfl (by decide +kernel) ?_
      refine b_lshl rfl rfl ?_
      refine b_aload_n rfl rfl rfl ?_
      refine b_iload rfl rfl rfl ?_
      refine b_iconstN (b := 5) rfl rfl ?_
      refine b_iaddN rfl rfl ?_
      refine b_scr hS rfl rfl (by omega) (by omega) ?_
      refine b_i2l rfl rfl ?_
      refine b_ldc2 rfl rfl k_10_59 ?_
      refine b_land rfl rfl ?_
      refine b_lor rfl rfl ?_
      refine b_aload_n rfl rfl rfl ?_
      refine b_iload rfl rfl rfl ?_
      refine b_bipush (v := nI 6) rfl rfl (by decide +kernel) ?_
      refine b_iaddN rfl rfl ?_
      refine b_scr hS rfl rfl (by omega) (by omega) ?_
      refine b_i2l rfl rfl ?_
      refine b_bipush (v := nI 32) rfl rfl (by decide +kernel) ?_
      refine b_lshl rfl rfl ?_
      refine b_aload_n rfl rfl rfl ?_
      refine b_iload rfl rfl rfl ?_
      refine b_bipush (v := nI 7) rfl rfl (by decide +kernel) ?_
      refine b_iaddN rfl rfl ?_
      refine b_scr hS rfl rfl (by omega) (by omega) ?_
      refine b_i2l rfl rfl ?_
      refine b_ldc2 rfl rfl k_10_59 ?_
      refine b_land rfl rfl ?_
      refine b_lor rfl rfl ?_
      refine b_aload_n rfl rfl rfl ?_
      refine b_iload rfl rfl rfl ?_
      refine b_bipush (v := nI 8) rfl rfl (by decide +kernel) ?_
      refine b_iaddN rfl rfl ?_
      refine b_scr hS rfl rfl (by omega) (by omega) ?_
      refine b_i2l rfl rfl ?_
      refine b_bipush (v := nI 32) rfl rfl (by decide +kernel) ?_
      refine b_lshl rfl rfl ?_
      refine b_aload_n rfl rfl rfl ?_
      refine b_iload rfl rfl rfl ?_
      refine b_bipush (v := nI 9) rfl rfl (by decide +kernel) ?_
      refine b_iaddN rfl rfl ?_
      refine b_scr hS rfl rfl (by omega) (by omega) ?_
      refine b_i2l rfl rfl ?_
      refine b_ldc2 rfl rfl k_10_59 ?_
      refine b_land rfl rfl ?_
      refine b_lor rfl rfl ?_
      refine b_aload_n rfl rfl rfl ?_
      refine b_callH (d2 := 65) (h_traits_IAE hG hN (lg2 (xs (i + 1)) (xs (i + 2))) (nI 1) (lg2 (xs (i + 4)) (xs (i + 5))) (lg2 (xs (i + 6)) (xs (i + 7))) (lg2 (xs (i + 8)) (xs (i + 9))) hop.1 hR) rfl rfl lh_82 rfl rfl (Nat.le_of_ble_eq_true rfl) (by decide) (by omega) (fun v M2 hQ => ?_)
      obtain ⟨rfl, hP⟩ := hQ
      refine b_istore rfl rfl rfl rfl ?_
      refine b_aload_n rfl rfl rfl ?_
      refine b_aload_n rfl rfl rfl ?_
      refine b_iload rfl rfl rfl ?_
      refine b_iconstN (b := 1) rfl rfl ?_
      refine b_iaddN rfl rfl ?_
      refine b_scr hS rfl rfl (by omega) (by omega) ?_
      refine b_i2l rfl rfl ?_
      refine b_bipush (v := nI 32) rfl rfl (by decide +kernel) ?_
      refine b_lshl rfl rfl ?_
      refine b_aload_n rfl rfl rfl ?_
      refine b_iload rfl rfl rfl ?_
      refine b_iconstN (b := 2) rfl rfl ?_
      refine b_iaddN rfl rfl ?_
      refine b_scr hS rfl rfl (by omega) (by omega) ?_
      refine b_i2l rfl rfl ?_
      refine b_ldc2 rfl rfl k_10_59 ?_
      refine b_land rfl rfl ?_
      refine b_lor rfl rfl ?_
      refine b_aload_n rfl rfl rfl ?_
      refine b_iload rfl rfl rfl ?_
      refine b_iconstN (b := 3) rfl rfl ?_
      refine b_iaddN rfl rfl ?_
      refine b_scr hS rfl rfl (by omega) (by omega) ?_
      refine b_if_eq rfl rfl (fun h => absurd h hz) (fun _ => ?_)
      refine b_iconstN (b := 1) rfl rfl ?_
      refine b_goto rfl rfl ?_
      refine b_aload_n rfl rfl rfl ?_
      refine b_iload rfl rfl rfl ?_
      refine b_iconstN (b := 4) rfl rfl ?_
      refine b_iaddN rfl rfl ?_
      refine b_scr hS rfl rfl (by omega) (by omega) ?_
      refine b_i2l rfl rfl ?_
      refine b_bipush (v := nI 32) rfl rfl (by decide +kernel) ?_
      refine b_lshl rfl rfl ?_
      refine b_aload_n rfl rfl rfl ?_
      refine b_iload rfl rfl rfl ?_
      refine b_iconstN (b := 5) rfl rfl ?_
      refine b_iaddN rfl rfl ?_
      refine b_scr hS rfl rfl (by omega) (by omega) ?_
      refine b_i2l rfl rfl ?_
      refine b_ldc2 rfl rfl k_10_59 ?_
      refine b_land rfl rfl ?_
      refine b_lor rfl rfl ?_
      refine b_aload_n rfl rfl rfl ?_
      refine b_iload rfl rfl rfl ?_
      refine b_bipush (v := nI 6) rfl rfl (by decide +kernel) ?_
      refine b_iaddN rfl rfl ?_
      refine b_scr hS rfl rfl (by omega) (by omega) ?_
      refine b_i2l rfl rfl ?_
      refine b_bipush (v := nI 32) rfl rfl (by decide +kernel) ?_
      refine b_lshl rfl rfl ?_
      refine b_aload_n rfl rfl rfl ?_
      refine b_iload rfl rfl rfl ?_
      refine b_bipush (v := nI 7) rfl rfl (by decide +kernel) ?_
      refine b_iaddN rfl rfl ?_
      refine b_scr hS rfl rfl (by omega) (by omega) ?_
      refine b_i2l rfl rfl ?_
      refine b_ldc2 rfl rfl k_10_59 ?_
      refine b_land rfl rfl ?_
      refine b_lor rfl rfl ?_
      refine b_aload_n rfl rfl rfl ?_
      refine b_iload rfl rfl rfl ?_
      refine b_bipush (v := nI 8) rfl rfl (by decide +kernel) ?_
      refine b_iaddN rfl rfl ?_
      refine b_scr hS rfl rfl (by omega) (by omega) ?_
      refine b_i2l rfl rfl ?_
      refine b_bipush (v := nI 32) rfl rfl (by decide +kernel) ?_
      refine b_lshl rfl rfl ?_
      refine b_aload_n rfl rfl rfl ?_
      refine b_iload rfl rfl rfl ?_
      refine b_bipush (v := nI 9) rfl rfl (by decide +kernel) ?_
      refine b_iaddN rfl rfl ?_
      refine b_scr hS rfl rfl (by omega) (by omega) ?_
      refine b_i2l rfl rfl ?_
      refine b_ldc2 rfl rfl k_10_59 ?_
      refine b_land rfl rfl ?_
      refine b_lor rfl rfl ?_
      refine b_callVe (d2 := 16) (hop.2 M2 (rm_pl hM hP)) rfl rfl v_10_85 rfl rfl (by decide) rfl rfl (Nat.le_of_ble_eq_true rfl) (by decide) (by omega) (fun M3 hQ3 => ?_)
      refine b_istore rfl rfl rfl rfl ?_
      refine b_aload_n rfl rfl rfl ?_
      refine b_callVe (d2 := 1) (c_thr hG hQ3) rfl rfl v_10_67 rfl rfl (by decide) rfl rfl (Nat.le_of_ble_eq_true rfl) (by decide) (by omega) (fun M4 h4 => ?_)
      subst h4
      refine b_iload rfl rfl rfl ?_
      refine b_icmp_eq rfl rfl (fun _ => ?_) (fun h => absurd rfl h)
      refine b_iload rfl rfl rfl ?_
      refine b_if_ne rfl rfl (fun _ => ?_) (fun h => absurd h (by decide +kernel))
      refine b_goto rfl rfl ?_
      refine b_tab (y1 := mL_h) okL_h rfl rfl rfl rfl ?_
      refine b_wk 5 ?_
      exact kk _ _ _ hwf' (rc_pm hP.1 hQ3) hQ3.1 (by omega) (by omega)
    · refine b_aload_n rfl rfl rfl ?_
      refine b_aload_n rfl rfl rfl ?_
      refine b_iload rfl rfl rfl ?_
      refine b_iconstN (b := 1) rfl rfl ?_
      refine b_iaddN rfl rfl ?_
      refine b_scr hS rfl rfl (by omega) (by omega) ?_
      refine b_i2l rfl rfl ?_
      refine b_bipush (v := nI 32) rfl rfl (by decide +kernel) ?_
      refine b_lshl rfl rfl ?_
      refine b_aload_n rfl rfl rfl ?_
      refine b_iload rfl rfl rfl ?_
      refine b_iconstN (b := 2) rfl rfl ?_
      refine b_iaddN rfl rfl ?_
      refine b_scr hS rfl rfl (by omega) (by omega) ?_
      refine b_i2l rfl rfl ?_
      refine b_ldc2 rfl rfl k_10_59 ?_
      refine b_land rfl rfl ?_
      refine b_lor rfl rfl ?_
      refine b_aload_n rfl rfl rfl ?_
      refine b_iload rfl rfl rfl ?_
      refine b_iconstN (b := 3) rfl rfl ?_
      refine b_iaddN rfl rfl ?_
      refine b_scr hS rfl rfl (by omega) (by omega) ?_
      refine b_if_eq rfl rfl (fun h => absurd h hz) (fun _ => ?_)
      refine b_iconstN (b := 1) rfl rfl ?_
      refine b_goto rfl rfl ?_
      refine b_aload_n rfl rfl rfl ?_
      refine b_iload rfl rfl rfl ?_
      refine b_iconstN (b := 4) rfl rfl ?_
      refine b_iaddN rfl rfl ?_
      refine b_scr hS rfl rfl (by omega) (by omega) ?_
      refine b_i2l rfl rfl ?_
      refine b_bipush (v := nI 32) rfl rfl (by decide +kernel) ?_
      refine b_lshl rfl rfl ?_
      refine b_aload_n rfl rfl rfl ?_
      refine b_iload rfl rfl rfl ?_
      refine b_iconstN (b := 5) rfl rfl ?_
      refine b_iaddN rfl rfl ?_
      refine b_scr hS rfl rfl (by omega) (by omega) ?_
      refine b_i2l rfl rfl ?_
      refine b_ldc2 rfl rfl k_10_59 ?_
      refine b_land rfl rfl ?_
      refine b_lor rfl rfl ?_
      refine b_aload_n rfl rfl rfl ?_
      refine b_iload rfl rfl rfl ?_
      refine b_bipush (v := nI 6) rfl rfl (by decide +kernel) ?_
      refine b_iaddN rfl rfl ?_
      refine b_scr hS rfl rfl (by omega) (by omega) ?_
      refine b_i2l rfl rfl ?_
      refine b_bipush (v := nI 32) rfl rfl (by decide +kernel) ?_
      refine b_lshl rfl rfl ?_
      refine b_aload_n rfl rfl rfl ?_
      refine b_iload rfl rfl rfl ?_
      refine b_bipush (v := nI 7) rfl rfl (by decide +kernel) ?_
      refine b_iaddN rfl rfl ?_
      refine b_scr hS rfl rfl (by omega) (by omega) ?_
      refine b_i2l rfl rfl ?_
      refine b_ldc2 rfl rfl k_10_59 ?_
      refine b_land rfl rfl ?_
      refine b_lor rfl rfl ?_
      refine b_aload_n rfl rfl rfl ?_
      refine b_iload rfl rfl rfl ?_
      refine b_bipush (v := nI 8) rfl rfl (by decide +kernel) ?_
      refine b_iaddN rfl rfl ?_
      refine b_scr hS rfl rfl (by omega) (by omega) ?_
      refine b_i2l rfl rfl ?_
      refine b_bipush (v := nI 32) rfl rfl (by decide +kernel) ?_
      refine b_lshl rfl rfl ?_
      refine b_aload_n rfl rfl rfl ?_
      refine b_iload rfl rfl rfl ?_
      refine b_bipush (v := nI 9) rfl rfl (by decide +kernel) ?_
      refine b_iaddN rfl rfl ?_
      refine b_scr hS rfl rfl (by omega) (by omega) ?_
      refine b_i2l rfl rfl ?_
      refine b_ldc2 rfl rfl k_10_59 ?_
      refine b_land rfl rfl ?_
      refine b_lor rfl rfl ?_
      refine b_aload_n rfl rfl rfl ?_
      refine b_callH (d2 := 65) (h_traits_ISE hG hN (lg2 (xs (i + 1)) (xs (i + 2))) (nI 1) (lg2 (xs (i + 4)) (xs (i + 5))) (lg2 (xs (i + 6)) (xs (i + 7))) (lg2 (xs (i + 8)) (xs (i + 9))) hop.1 hR) rfl rfl lh_82 rfl rfl (Nat.le_of_ble_eq_true rfl) (by decide) (by omega) (fun v M2 hQ => ?_)
      obtain ⟨rfl, hP⟩ := hQ
      refine b_istore rfl rfl rfl rfl ?_
      refine b_aload_n rfl rfl rfl ?_
      refine b_aload_n rfl rfl rfl ?_
      refine b_iload rfl rfl rfl ?_
      refine b_iconstN (b := 1) rfl rfl ?_
      refine b_iaddN rfl rfl ?_
      refine b_scr hS rfl rfl (by omega) (by omega) ?_
      refine b_i2l rfl rfl ?_
      refine b_bipush (v := nI 32) rfl rfl (by decide +kernel) ?_
      refine b_lshl rfl rfl ?_
      refine b_aload_n rfl rfl rfl ?_
      refine b_iload rfl rfl rfl ?_
      refine b_iconstN (b := 2) rfl rfl ?_
      refine b_iaddN rfl rfl ?_
      refine b_scr hS rfl rfl (by omega) (by omega) ?_
      refine b_i2l rfl rfl ?_
      refine b_ldc2 rfl rfl k_10_59 ?_
      refine b_land rfl rfl ?_
      refine b_lor rfl rfl ?_
      refine b_aload_n rfl rfl rfl ?_
      refine b_iload rfl rfl rfl ?_
      refine b_iconstN (b := 3) rfl rfl ?_
      refine b_iaddN rfl rfl ?_
      refine b_scr hS rfl rfl (by omega) (by omega) ?_
      refine b_if_eq rfl rfl (fun h => absurd h hz) (fun _ => ?_)
      refine b_iconstN (b := 1) rfl rfl ?_
      refine b_goto rfl rfl ?_
      refine b_aload_n rfl rfl rfl ?_
      refine b_iload rfl rfl rfl ?_
      refine b_iconstN (b := 4) rfl rfl ?_
      refine b_iaddN rfl rfl ?_
      refine b_scr hS rfl rfl (by omega) (by omega) ?_
      refine b_i2l rfl rfl ?_
      refine b_bipush (v := nI 32) rfl rfl (by decide +kernel) ?_
      refine b_lshl rfl rfl ?_
      refine b_aload_n rfl rfl rfl ?_
      refine b_iload rfl rfl rfl ?_
      refine b_iconstN (b := 5) rfl rfl ?_
      refine b_iaddN rfl rfl ?_
      refine b_scr hS rfl rfl (by omega) (by omega) ?_
      refine b_i2l rfl rfl ?_
      refine b_ldc2 rfl rfl k_10_59 ?_
      refine b_land rfl rfl ?_
      refine b_lor rfl rfl ?_
      refine b_aload_n rfl rfl rfl ?_
      refine b_iload rfl rfl rfl ?_
      refine b_bipush (v := nI 6) rfl rfl (by decide +kernel) ?_
      refine b_iaddN rfl rfl ?_
      refine b_scr hS rfl rfl (by omega) (by omega) ?_
      refine b_i2l rfl rfl ?_
      refine b_bipush (v := nI 32) rfl rfl (by decide +kernel) ?_
      refine b_lshl rfl rfl ?_
      refine b_aload_n rfl rfl rfl ?_
      refine b_iload rfl rfl rfl ?_
      refine b_bipush (v := nI 7) rfl rfl (by decide +kernel) ?_
      refine b_iaddN rfl rfl ?_
      refine b_scr hS rfl rfl (by omega) (by omega) ?_
      refine b_i2l rfl rfl ?_
      refine b_ldc2 rfl rfl k_10_59 ?_
      refine b_land rfl rfl ?_
      refine b_lor rfl rfl ?_
      refine b_aload_n rfl rfl rfl ?_
      refine b_iload rfl rfl rfl ?_
      refine b_bipush (v := nI 8) rfl rfl (by decide +kernel) ?_
      refine b_iaddN rfl rfl ?_
      refine b_scr hS rfl rfl (by omega) (by omega) ?_
      refine b_i2l rfl rfl ?_
      refine b_bipush (v := nI 32) rfl rfl (by decide +kernel) ?_
      refine b_lshl rfl rfl ?_
      refine b_aload_n rfl rfl rfl ?_
      refine b_iload rfl rfl rfl ?_
      refine b_bipush (v := nI 9) rfl rfl (by decide +kernel) ?_
      refine b_iaddN rfl rfl ?_
      refine b_scr hS rfl rfl (by omega) (by omega) ?_
      refine b_i2l rfl rfl ?_
      refine b_ldc2 rfl rfl k_10_59 ?_
      refine b_land rfl rfl ?_
      refine b_lor rfl rfl ?_
      refine b_callVe (d2 := 16) (hop.2 M2 (rm_pl hM hP)) rfl rfl v_10_85 rfl rfl (by decide) rfl rfl (Nat.le_of_ble_eq_true rfl) (by decide) (by omega) (fun M3 hQ3 => ?_)
      refine b_istore rfl rfl rfl rfl ?_
      refine b_aload_n rfl rfl rfl ?_
      refine b_callVe (d2 := 1) (c_thr hG hQ3) rfl rfl v_10_67 rfl rfl (by decide) rfl rfl (Nat.le_of_ble_eq_true rfl) (by decide) (by omega) (fun M4 h4 => ?_)
      subst h4
      refine b_iload rfl rfl rfl ?_
      refine b_icmp_eq rfl rfl (fun _ => ?_) (fun h => absurd rfl h)
      refine b_iload rfl rfl rfl ?_
      refine b_if_ne rfl rfl (fun _ => ?_) (fun h => absurd h (by decide +kernel))
      refine b_goto rfl rfl ?_
      refine b_tab (y1 := mL_h) okL_h rfl rfl rfl rfl ?_
      refine b_wk 5 ?_
      exact kk _ _ _ hwf' (rc_pm hP.1 hQ3) hQ3.1 (by omega) (by omega)
set_option maxHeartbeats 2000000 in
set_option maxRecDepth 20000 in
theorem law_5 {G : Gd} {hp : Method → Code → Prop} {kf : Nat} {Z : Zt} {k b L i : Nat} {xs : Nat → Int32} {A : Ab} {M : Mm} (hG : Gok G) (hN : Nc G) (hS : Sx G b L xs) (hi : i + 10 ≤ L) (hL : L ≤ 5120) (hk : k + 1 ≤ kf) (hwf : wfA A) (hR : RC A M) (hM : RM A M) (kk : Kn G hp kf Z k b i) : Fb G mL_5 hp 70 kf Z k 736 (lv5 G b i) [] (HqE G M) := by
  obtain ⟨A', hwf', hop⟩ := op_object hG hwf hR.sz (xs (i + 1))
  rcases hop with ⟨x, hop⟩ | ⟨x, hop⟩ | ⟨x, hop⟩
  · refine b_aload_n rfl rfl rfl ?_
    refine b_aload_n rfl rfl rfl ?_
    refine b_iload rfl rfl rfl ?_
    refine b_iconstN (b := 1) rfl rfl ?_
    refine b_iaddN rfl rfl ?_
    refine b_scr hS rfl rfl (by omega) (by omega) ?_
    refine b_aload_n rfl rfl rfl ?_
    refine b_callH (d2 := 65) (h_object_R hG hN (xs (i + 1)) hop.1 hR) rfl rfl lh_86 rfl rfl (Nat.le_of_ble_eq_true rfl) (by decide) (by omega) (fun v M2 hQ => ?_)
    obtain ⟨rfl, hP, ho⟩ := hQ
    refine b_istore rfl rfl rfl rfl ?_
    refine b_aload_n rfl rfl rfl ?_
    refine b_aload_n rfl rfl rfl ?_
    refine b_iload rfl rfl rfl ?_
    refine b_iconstN (b := 1) rfl rfl ?_
    refine b_iaddN rfl rfl ?_
    refine b_scr hS rfl rfl (by omega) (by omega) ?_
    refine b_callVe (d2 := 16) (hop.2 M2 (rm_pl hM hP)) rfl rfl v_10_89 rfl rfl (by decide) rfl rfl (Nat.le_of_ble_eq_true rfl) (by decide) (by omega) (fun M3 hQ3 => ?_)
    refine b_lstore rfl rfl rfl rfl ?_
    refine b_aload_n rfl rfl rfl ?_
    refine b_callVe (d2 := 1) (c_thr hG hQ3) rfl rfl v_10_67 rfl rfl (by decide) rfl rfl (Nat.le_of_ble_eq_true rfl) (by decide) (by omega) (fun M4 h4 => ?_)
    subst h4
    refine b_iload rfl rfl rfl ?_
    refine b_icmp_eq rfl rfl (fun _ => ?_) (fun h => absurd rfl h)
    refine b_iload rfl rfl rfl ?_
    refine b_if_ne rfl rfl (fun h => absurd (show (nI 0) = 0 by decide +kernel) h) (fun _ => ?_)
    refine b_aload_n rfl rfl rfl ?_
    refine b_iconstN (b := 0) rfl rfl ?_
    refine b_lald (q := (70, 0)) (a := 0) (L := 1) rfl rfl rfl (by decide) (by decide) (by decide) ?_
    refine b_lload rfl rfl rfl ?_
    refine b_lc_eq rfl rfl rfl rfl (fun _ => ?_) (fun h => absurd (o_pm ho hQ3) h)
    refine b_goto rfl rfl ?_
    refine b_tab (y1 := mL_h) okL_h rfl rfl rfl rfl ?_
    refine b_wk 5 ?_
    exact kk _ _ _ hwf' (rc_pm hP.1 hQ3) hQ3.1 (by omega) (by omega)
  · refine b_aload_n rfl rfl rfl ?_
    refine b_aload_n rfl rfl rfl ?_
    refine b_iload rfl rfl rfl ?_
    refine b_iconstN (b := 1) rfl rfl ?_
    refine b_iaddN rfl rfl ?_
    refine b_scr hS rfl rfl (by omega) (by omega) ?_
    refine b_aload_n rfl rfl rfl ?_
    refine b_callH (d2 := 65) (h_object_IAE hG hN (xs (i + 1)) hop.1 hR) rfl rfl lh_86 rfl rfl (Nat.le_of_ble_eq_true rfl) (by decide) (by omega) (fun v M2 hQ => ?_)
    obtain ⟨rfl, hP⟩ := hQ
    refine b_istore rfl rfl rfl rfl ?_
    refine b_aload_n rfl rfl rfl ?_
    refine b_aload_n rfl rfl rfl ?_
    refine b_iload rfl rfl rfl ?_
    refine b_iconstN (b := 1) rfl rfl ?_
    refine b_iaddN rfl rfl ?_
    refine b_scr hS rfl rfl (by omega) (by omega) ?_
    refine b_callVe (d2 := 16) (hop.2 M2 (rm_pl hM hP)) rfl rfl v_10_89 rfl rfl (by decide) rfl rfl (Nat.le_of_ble_eq_true rfl) (by decide) (by omega) (fun M3 hQ3 => ?_)
    refine b_lstore rfl rfl rfl rfl ?_
    refine b_aload_n rfl rfl rfl ?_
    refine b_callVe (d2 := 1) (c_thr hG hQ3) rfl rfl v_10_67 rfl rfl (by decide) rfl rfl (Nat.le_of_ble_eq_true rfl) (by decide) (by omega) (fun M4 h4 => ?_)
    subst h4
    refine b_iload rfl rfl rfl ?_
    refine b_icmp_eq rfl rfl (fun _ => ?_) (fun h => absurd rfl h)
    refine b_iload rfl rfl rfl ?_
    refine b_if_ne rfl rfl (fun _ => ?_) (fun h => absurd h (by decide +kernel))
    refine b_goto rfl rfl ?_
    refine b_tab (y1 := mL_h) okL_h rfl rfl rfl rfl ?_
    refine b_wk 5 ?_
    exact kk _ _ _ hwf' (rc_pm hP.1 hQ3) hQ3.1 (by omega) (by omega)
  · refine b_aload_n rfl rfl rfl ?_
    refine b_aload_n rfl rfl rfl ?_
    refine b_iload rfl rfl rfl ?_
    refine b_iconstN (b := 1) rfl rfl ?_
    refine b_iaddN rfl rfl ?_
    refine b_scr hS rfl rfl (by omega) (by omega) ?_
    refine b_aload_n rfl rfl rfl ?_
    refine b_callH (d2 := 65) (h_object_ISE hG hN (xs (i + 1)) hop.1 hR) rfl rfl lh_86 rfl rfl (Nat.le_of_ble_eq_true rfl) (by decide) (by omega) (fun v M2 hQ => ?_)
    obtain ⟨rfl, hP⟩ := hQ
    refine b_istore rfl rfl rfl rfl ?_
    refine b_aload_n rfl rfl rfl ?_
    refine b_aload_n rfl rfl rfl ?_
    refine b_iload rfl rfl rfl ?_
    refine b_iconstN (b := 1) rfl rfl ?_
    refine b_iaddN rfl rfl ?_
    refine b_scr hS rfl rfl (by omega) (by omega) ?_
    refine b_callVe (d2 := 16) (hop.2 M2 (rm_pl hM hP)) rfl rfl v_10_89 rfl rfl (by decide) rfl rfl (Nat.le_of_ble_eq_true rfl) (by decide) (by omega) (fun M3 hQ3 => ?_)
    refine b_lstore rfl rfl rfl rfl ?_
    refine b_aload_n rfl rfl rfl ?_
    refine b_callVe (d2 := 1) (c_thr hG hQ3) rfl rfl v_10_67 rfl rfl (by decide) rfl rfl (Nat.le_of_ble_eq_true rfl) (by decide) (by omega) (fun M4 h4 => ?_)
    subst h4
    refine b_iload rfl rfl rfl ?_
    refine b_icmp_eq rfl rfl (fun _ => ?_) (fun h => absurd rfl h)
    refine b_iload rfl rfl rfl ?_
    refine b_if_ne rfl rfl (fun _ => ?_) (fun h => absurd h (by decide +kernel))
    refine b_goto rfl rfl ?_
    refine b_tab (y1 := mL_h) okL_h rfl rfl rfl rfl ?_
    refine b_wk 5 ?_
    exact kk _ _ _ hwf' (rc_pm hP.1 hQ3) hQ3.1 (by omega) (by omega)
set_option maxHeartbeats 2000000 in
set_option maxRecDepth 20000 in
theorem law_6 {G : Gd} {hp : Method → Code → Prop} {kf : Nat} {Z : Zt} {k b L i : Nat} {xs : Nat → Int32} {A : Ab} {M : Mm} (hG : Gok G) (hN : Nc G) (hS : Sx G b L xs) (hi : i + 10 ≤ L) (hL : L ≤ 5120) (hk : k + 1 ≤ kf) (hwf : wfA A) (hR : RC A M) (hM : RM A M) (kk : Kn G hp kf Z k b i) : Fb G mL_6 hp 70 kf Z k 791 (lv5 G b i) [] (HqE G M) := by
  obtain ⟨A', hwf', hop⟩ := op_append hG hwf hR.sz (xs (i + 1)) (lg2 (xs (i + 2)) (xs (i + 3)))
  rcases hop with ⟨x, hop⟩ | ⟨x, hop⟩ | ⟨x, hop⟩
  · refine b_aload_n rfl rfl rfl ?_
    refine b_aload_n rfl rfl rfl ?_
    refine b_iload rfl rfl rfl ?_
    refine b_iconstN (b := 1) rfl rfl ?_
    refine b_iaddN rfl rfl ?_
    refine b_scr hS rfl rfl (by omega) (by omega) ?_
    refine b_aload_n rfl rfl rfl ?_
    refine b_iload rfl rfl rfl ?_
    refine b_iconstN (b := 2) rfl rfl ?_
    refine b_iaddN rfl rfl ?_
    refine b_scr hS rfl rfl (by omega) (by omega) ?_
    refine b_i2l rfl rfl ?_
    refine b_bipush (v := nI 32) rfl rfl (by decide +kernel) ?_
    refine b_lshl rfl rfl ?_
    refine b_aload_n rfl rfl rfl ?_
    refine b_iload rfl rfl rfl ?_
    refine b_iconstN (b := 3) rfl rfl ?_
    refine b_iaddN rfl rfl ?_
    refine b_scr hS rfl rfl (by omega) (by omega) ?_
    refine b_i2l rfl rfl ?_
    refine b_ldc2 rfl rfl k_10_59 ?_
    refine b_land rfl rfl ?_
    refine b_lor rfl rfl ?_
    refine b_aload_n rfl rfl rfl ?_
    refine b_callH (d2 := 65) (h_append_R hG hN (xs (i + 1)) (lg2 (xs (i + 2)) (xs (i + 3))) hop.1 hR) rfl rfl lh_90 rfl rfl (Nat.le_of_ble_eq_true rfl) (by decide) (by omega) (fun v M2 hQ => ?_)
    obtain ⟨rfl, hP, ho⟩ := hQ
    refine b_istore rfl rfl rfl rfl ?_
    refine b_aload_n rfl rfl rfl ?_
    refine b_aload_n rfl rfl rfl ?_
    refine b_iload rfl rfl rfl ?_
    refine b_iconstN (b := 1) rfl rfl ?_
    refine b_iaddN rfl rfl ?_
    refine b_scr hS rfl rfl (by omega) (by omega) ?_
    refine b_aload_n rfl rfl rfl ?_
    refine b_iload rfl rfl rfl ?_
    refine b_iconstN (b := 2) rfl rfl ?_
    refine b_iaddN rfl rfl ?_
    refine b_scr hS rfl rfl (by omega) (by omega) ?_
    refine b_i2l rfl rfl ?_
    refine b_bipush (v := nI 32) rfl rfl (by decide +kernel) ?_
    refine b_lshl rfl rfl ?_
    refine b_aload_n rfl rfl rfl ?_
    refine b_iload rfl rfl rfl ?_
    refine b_iconstN (b := 3) rfl rfl ?_
    refine b_iaddN rfl rfl ?_
    refine b_scr hS rfl rfl (by omega) (by omega) ?_
    refine b_i2l rfl rfl ?_
    refine b_ldc2 rfl rfl k_10_59 ?_
    refine b_land rfl rfl ?_
    refine b_lor rfl rfl ?_
    refine b_callVe (d2 := 16) (hop.2 M2 (rm_pl hM hP)) rfl rfl v_10_93 rfl rfl (by decide) rfl rfl (Nat.le_of_ble_eq_true rfl) (by decide) (by omega) (fun M3 hQ3 => ?_)
    refine b_istore rfl rfl rfl rfl ?_
    refine b_aload_n rfl rfl rfl ?_
    refine b_callVe (d2 := 1) (c_thr hG hQ3) rfl rfl v_10_67 rfl rfl (by decide) rfl rfl (Nat.le_of_ble_eq_true rfl) (by decide) (by omega) (fun M4 h4 => ?_)
    subst h4
    refine b_iload rfl rfl rfl ?_
    refine b_icmp_eq rfl rfl (fun _ => ?_) (fun h => absurd rfl h)
    refine b_iload rfl rfl rfl ?_
    refine b_if_ne rfl rfl (fun h => absurd (show (nI 0) = 0 by decide +kernel) h) (fun _ => ?_)
    refine b_aload_n rfl rfl rfl ?_
    refine b_iconstN (b := 0) rfl rfl ?_
    refine b_lald (q := (70, 0)) (a := 0) (L := 1) rfl rfl rfl (by decide) (by decide) (by decide) ?_
    refine b_iload rfl rfl rfl ?_
    refine b_i2l rfl rfl ?_
    refine b_lc_eq rfl rfl rfl rfl (fun _ => ?_) (fun h => absurd (o_pm ho hQ3) h)
    refine b_goto rfl rfl ?_
    refine b_tab (y1 := mL_h) okL_h rfl rfl rfl rfl ?_
    refine b_wk 5 ?_
    exact kk _ _ _ hwf' (rc_pm hP.1 hQ3) hQ3.1 (by omega) (by omega)
  · refine b_aload_n rfl rfl rfl ?_
    refine b_aload_n rfl rfl rfl ?_
    refine b_iload rfl rfl rfl ?_
    refine b_iconstN (b := 1) rfl rfl ?_
    refine b_iaddN rfl rfl ?_
    refine b_scr hS rfl rfl (by omega) (by omega) ?_
    refine b_aload_n rfl rfl rfl ?_
    refine b_iload rfl rfl rfl ?_
    refine b_iconstN (b := 2) rfl rfl ?_
    refine b_iaddN rfl rfl ?_
    refine b_scr hS rfl rfl (by omega) (by omega) ?_
    refine b_i2l rfl rfl ?_
    refine b_bipush (v := nI 32) rfl rfl (by decide +kernel) ?_
    refine b_lshl rfl rfl ?_
    refine b_aload_n rfl rfl rfl ?_
    refine b_iload rfl rfl rfl ?_
    refine b_iconstN (b := 3) rfl rfl ?_
    refine b_iaddN rfl rfl ?_
    refine b_scr hS rfl rfl (by omega) (by omega) ?_
    refine b_i2l rfl rfl ?_
    refine b_ldc2 rfl rfl k_10_59 ?_
    refine b_land rfl rfl ?_
    refine b_lor rfl rfl ?_
    refine b_aload_n rfl rfl rfl ?_
    refine b_callH (d2 := 65) (h_append_IAE hG hN (xs (i + 1)) (lg2 (xs (i + 2)) (xs (i + 3))) hop.1 hR) rfl rfl lh_90 rfl rfl (Nat.le_of_ble_eq_true rfl) (by decide) (by omega) (fun v M2 hQ => ?_)
    obtain ⟨rfl, hP⟩ := hQ
    refine b_istore rfl rfl rfl rfl ?_
    refine b_aload_n rfl rfl rfl ?_
    refine b_aload_n rfl rfl rfl ?_
    refine b_iload rfl rfl rfl ?_
    refine b_iconstN (b := 1) rfl rfl ?_
    refine b_iaddN rfl rfl ?_
    refine b_scr hS rfl rfl (by omega) (by omega) ?_
    refine b_aload_n rfl rfl rfl ?_
    refine b_iload rfl rfl rfl ?_
    refine b_iconstN (b := 2) rfl rfl ?_
    refine b_iaddN rfl rfl ?_
    refine b_scr hS rfl rfl (by omega) (by omega) ?_
    refine b_i2l rfl rfl ?_
    refine b_bipush (v := nI 32) rfl rfl (by decide +kernel) ?_
    refine b_lshl rfl rfl ?_
    refine b_aload_n rfl rfl rfl ?_
    refine b_iload rfl rfl rfl ?_
    refine b_iconstN (b := 3) rfl rfl ?_
    refine b_iaddN rfl rfl ?_
    refine b_scr hS rfl rfl (by omega) (by omega) ?_
    refine b_i2l rfl rfl ?_
    refine b_ldc2 rfl rfl k_10_59 ?_
    refine b_land rfl rfl ?_
    refine b_lor rfl rfl ?_
    refine b_callVe (d2 := 16) (hop.2 M2 (rm_pl hM hP)) rfl rfl v_10_93 rfl rfl (by decide) rfl rfl (Nat.le_of_ble_eq_true rfl) (by decide) (by omega) (fun M3 hQ3 => ?_)
    refine b_istore rfl rfl rfl rfl ?_
    refine b_aload_n rfl rfl rfl ?_
    refine b_callVe (d2 := 1) (c_thr hG hQ3) rfl rfl v_10_67 rfl rfl (by decide) rfl rfl (Nat.le_of_ble_eq_true rfl) (by decide) (by omega) (fun M4 h4 => ?_)
    subst h4
    refine b_iload rfl rfl rfl ?_
    refine b_icmp_eq rfl rfl (fun _ => ?_) (fun h => absurd rfl h)
    refine b_iload rfl rfl rfl ?_
    refine b_if_ne rfl rfl (fun _ => ?_) (fun h => absurd h (by decide +kernel))
    refine b_goto rfl rfl ?_
    refine b_tab (y1 := mL_h) okL_h rfl rfl rfl rfl ?_
    refine b_wk 5 ?_
    exact kk _ _ _ hwf' (rc_pm hP.1 hQ3) hQ3.1 (by omega) (by omega)
  · refine b_aload_n rfl rfl rfl ?_
    refine b_aload_n rfl rfl rfl ?_
    refine b_iload rfl rfl rfl ?_
    refine b_iconstN (b := 1) rfl rfl ?_
    refine b_iaddN rfl rfl ?_
    refine b_scr hS rfl rfl (by omega) (by omega) ?_
    refine b_aload_n rfl rfl rfl ?_
    refine b_iload rfl rfl rfl ?_
    refine b_iconstN (b := 2) rfl rfl ?_
    refine b_iaddN rfl rfl ?_
    refine b_scr hS rfl rfl (by omega) (by omega) ?_
    refine b_i2l rfl rfl ?_
    refine b_bipush (v := nI 32) rfl rfl (by decide +kernel) ?_
    refine b_lshl rfl rfl ?_
    refine b_aload_n rfl rfl rfl ?_
    refine b_iload rfl rfl rfl ?_
    refine b_iconstN (b := 3) rfl rfl ?_
    refine b_iaddN rfl rfl ?_
    refine b_scr hS rfl rfl (by omega) (by omega) ?_
    refine b_i2l rfl rfl ?_
    refine b_ldc2 rfl rfl k_10_59 ?_
    refine b_land rfl rfl ?_
    refine b_lor rfl rfl ?_
    refine b_aload_n rfl rfl rfl ?_
    refine b_callH (d2 := 65) (h_append_ISE hG hN (xs (i + 1)) (lg2 (xs (i + 2)) (xs (i + 3))) hop.1 hR) rfl rfl lh_90 rfl rfl (Nat.le_of_ble_eq_true rfl) (by decide) (by omega) (fun v M2 hQ => ?_)
    obtain ⟨rfl, hP⟩ := hQ
    refine b_istore rfl rfl rfl rfl ?_
    refine b_aload_n rfl rfl rfl ?_
    refine b_aload_n rfl rfl rfl ?_
    refine b_iload rfl rfl rfl ?_
    refine b_iconstN (b := 1) rfl rfl ?_
    refine b_iaddN rfl rfl ?_
    refine b_scr hS rfl rfl (by omega) (by omega) ?_
    refine b_aload_n rfl rfl rfl ?_
    refine b_iload rfl rfl rfl ?_
    refine b_iconstN (b := 2) rfl rfl ?_
    refine b_iaddN rfl rfl ?_
    refine b_scr hS rfl rfl (by omega) (by omega) ?_
    refine b_i2l rfl rfl ?_
    refine b_bipush (v := nI 32) rfl rfl (by decide +kernel) ?_
    refine b_lshl rfl rfl ?_
    refine b_aload_n rfl rfl rfl ?_
    refine b_iload rfl rfl rfl ?_
    refine b_iconstN (b := 3) rfl rfl ?_
    refine b_iaddN rfl rfl ?_
    refine b_scr hS rfl rfl (by omega) (by omega) ?_
    refine b_i2l rfl rfl ?_
    refine b_ldc2 rfl rfl k_10_59 ?_
    refine b_land rfl rfl ?_
    refine b_lor rfl rfl ?_
    refine b_callVe (d2 := 16) (hop.2 M2 (rm_pl hM hP)) rfl rfl v_10_93 rfl rfl (by decide) rfl rfl (Nat.le_of_ble_eq_true rfl) (by decide) (by omega) (fun M3 hQ3 => ?_)
    refine b_istore rfl rfl rfl rfl ?_
    refine b_aload_n rfl rfl rfl ?_
    refine b_callVe (d2 := 1) (c_thr hG hQ3) rfl rfl v_10_67 rfl rfl (by decide) rfl rfl (Nat.le_of_ble_eq_true rfl) (by decide) (by omega) (fun M4 h4 => ?_)
    subst h4
    refine b_iload rfl rfl rfl ?_
    refine b_icmp_eq rfl rfl (fun _ => ?_) (fun h => absurd rfl h)
    refine b_iload rfl rfl rfl ?_
    refine b_if_ne rfl rfl (fun _ => ?_) (fun h => absurd h (by decide +kernel))
    refine b_goto rfl rfl ?_
    refine b_tab (y1 := mL_h) okL_h rfl rfl rfl rfl ?_
    refine b_wk 5 ?_
    exact kk _ _ _ hwf' (rc_pm hP.1 hQ3) hQ3.1 (by omega) (by omega)
set_option maxHeartbeats 2000000 in
set_option maxRecDepth 20000 in
theorem law_7 {G : Gd} {hp : Method → Code → Prop} {kf : Nat} {Z : Zt} {k b L i : Nat} {xs : Nat → Int32} {A : Ab} {M : Mm} (hG : Gok G) (hN : Nc G) (hS : Sx G b L xs) (hi : i + 10 ≤ L) (hL : L ≤ 5120) (hk : k + 1 ≤ kf) (hwf : wfA A) (hR : RC A M) (hM : RM A M) (kk : Kn G hp kf Z k b i) : Fb G mL_7 hp 70 kf Z k 891 (lv5 G b i) [] (HqE G M) := by
  obtain ⟨A', hwf', hop⟩ := op_set hG hwf hR.sz (xs (i + 1)) (xs (i + 2)) (lg2 (xs (i + 3)) (xs (i + 4)))
  rcases hop with hop | hop
  · refine b_aload_n rfl rfl rfl ?_
    refine b_aload_n rfl rfl rfl ?_
    refine b_iload rfl rfl rfl ?_
    refine b_iconstN (b := 1) rfl rfl ?_
    refine b_iaddN rfl rfl ?_
    refine b_scr hS rfl rfl (by omega) (by omega) ?_
    refine b_aload_n rfl rfl rfl ?_
    refine b_iload rfl rfl rfl ?_
    refine b_iconstN (b := 2) rfl rfl ?_
    refine b_iaddN rfl rfl ?_
    refine b_scr hS rfl rfl (by omega) (by omega) ?_
    refine b_aload_n rfl rfl rfl ?_
    refine b_iload rfl rfl rfl ?_
    refine b_iconstN (b := 3) rfl rfl ?_
    refine b_iaddN rfl rfl ?_
    refine b_scr hS rfl rfl (by omega) (by omega) ?_
    refine b_i2l rfl rfl ?_
    refine b_bipush (v := nI 32) rfl rfl (by decide +kernel) ?_
    refine b_lshl rfl rfl ?_
    refine b_aload_n rfl rfl rfl ?_
    refine b_iload rfl rfl rfl ?_
    refine b_iconstN (b := 4) rfl rfl ?_
    refine b_iaddN rfl rfl ?_
    refine b_scr hS rfl rfl (by omega) (by omega) ?_
    refine b_i2l rfl rfl ?_
    refine b_ldc2 rfl rfl k_10_59 ?_
    refine b_land rfl rfl ?_
    refine b_lor rfl rfl ?_
    refine b_callH (d2 := 65) (h_set_R hG hN (xs (i + 1)) (xs (i + 2)) (lg2 (xs (i + 3)) (xs (i + 4))) hop.1 hR) rfl rfl lh_94 rfl rfl (Nat.le_of_ble_eq_true rfl) (by decide) (by omega) (fun v M2 hQ => ?_)
    obtain ⟨rfl, hP⟩ := hQ
    refine b_istore rfl rfl rfl rfl ?_
    refine b_aload_n rfl rfl rfl ?_
    refine b_aload_n rfl rfl rfl ?_
    refine b_iload rfl rfl rfl ?_
    refine b_iconstN (b := 1) rfl rfl ?_
    refine b_iaddN rfl rfl ?_
    refine b_scr hS rfl rfl (by omega) (by omega) ?_
    refine b_aload_n rfl rfl rfl ?_
    refine b_iload rfl rfl rfl ?_
    refine b_iconstN (b := 2) rfl rfl ?_
    refine b_iaddN rfl rfl ?_
    refine b_scr hS rfl rfl (by omega) (by omega) ?_
    refine b_aload_n rfl rfl rfl ?_
    refine b_iload rfl rfl rfl ?_
    refine b_iconstN (b := 3) rfl rfl ?_
    refine b_iaddN rfl rfl ?_
    refine b_scr hS rfl rfl (by omega) (by omega) ?_
    refine b_i2l rfl rfl ?_
    refine b_bipush (v := nI 32) rfl rfl (by decide +kernel) ?_
    refine b_lshl rfl rfl ?_
    refine b_aload_n rfl rfl rfl ?_
    refine b_iload rfl rfl rfl ?_
    refine b_iconstN (b := 4) rfl rfl ?_
    refine b_iaddN rfl rfl ?_
    refine b_scr hS rfl rfl (by omega) (by omega) ?_
    refine b_i2l rfl rfl ?_
    refine b_ldc2 rfl rfl k_10_59 ?_
    refine b_land rfl rfl ?_
    refine b_lor rfl rfl ?_
    refine b_callVe (d2 := 16) (hop.2 M2 (rm_pl hM hP)) rfl rfl v_10_97 rfl rfl (by decide) rfl rfl (Nat.le_of_ble_eq_true rfl) (by decide) (by omega) (fun M3 hQ3 => ?_)
    refine b_aload_n rfl rfl rfl ?_
    refine b_callVe (d2 := 1) (c_thr hG hQ3) rfl rfl v_10_67 rfl rfl (by decide) rfl rfl (Nat.le_of_ble_eq_true rfl) (by decide) (by omega) (fun M4 h4 => ?_)
    subst h4
    refine b_iload rfl rfl rfl ?_
    refine b_icmp_eq rfl rfl (fun _ => ?_) (fun h => absurd rfl h)
    refine b_goto rfl rfl ?_
    refine b_tab (y1 := mL_h) okL_h rfl rfl rfl rfl ?_
    refine b_wk 5 ?_
    exact kk _ _ _ hwf' (rc_pm hP.1 hQ3) hQ3.1 (by omega) (by omega)
  · refine b_aload_n rfl rfl rfl ?_
    refine b_aload_n rfl rfl rfl ?_
    refine b_iload rfl rfl rfl ?_
    refine b_iconstN (b := 1) rfl rfl ?_
    refine b_iaddN rfl rfl ?_
    refine b_scr hS rfl rfl (by omega) (by omega) ?_
    refine b_aload_n rfl rfl rfl ?_
    refine b_iload rfl rfl rfl ?_
    refine b_iconstN (b := 2) rfl rfl ?_
    refine b_iaddN rfl rfl ?_
    refine b_scr hS rfl rfl (by omega) (by omega) ?_
    refine b_aload_n rfl rfl rfl ?_
    refine b_iload rfl rfl rfl ?_
    refine b_iconstN (b := 3) rfl rfl ?_
    refine b_iaddN rfl rfl ?_
    refine b_scr hS rfl rfl (by omega) (by omega) ?_
    refine b_i2l rfl rfl ?_
    refine b_bipush (v := nI 32) rfl rfl (by decide +kernel) ?_
    refine b_lshl rfl rfl ?_
    refine b_aload_n rfl rfl rfl ?_
    refine b_iload rfl rfl rfl ?_
    refine b_iconstN (b := 4) rfl rfl ?_
    refine b_iaddN rfl rfl ?_
    refine b_scr hS rfl rfl (by omega) (by omega) ?_
    refine b_i2l rfl rfl ?_
    refine b_ldc2 rfl rfl k_10_59 ?_
    refine b_land rfl rfl ?_
    refine b_lor rfl rfl ?_
    refine b_callH (d2 := 65) (h_set_IAE hG hN (xs (i + 1)) (xs (i + 2)) (lg2 (xs (i + 3)) (xs (i + 4))) hop.1 hR) rfl rfl lh_94 rfl rfl (Nat.le_of_ble_eq_true rfl) (by decide) (by omega) (fun v M2 hQ => ?_)
    obtain ⟨rfl, hP⟩ := hQ
    refine b_istore rfl rfl rfl rfl ?_
    refine b_aload_n rfl rfl rfl ?_
    refine b_aload_n rfl rfl rfl ?_
    refine b_iload rfl rfl rfl ?_
    refine b_iconstN (b := 1) rfl rfl ?_
    refine b_iaddN rfl rfl ?_
    refine b_scr hS rfl rfl (by omega) (by omega) ?_
    refine b_aload_n rfl rfl rfl ?_
    refine b_iload rfl rfl rfl ?_
    refine b_iconstN (b := 2) rfl rfl ?_
    refine b_iaddN rfl rfl ?_
    refine b_scr hS rfl rfl (by omega) (by omega) ?_
    refine b_aload_n rfl rfl rfl ?_
    refine b_iload rfl rfl rfl ?_
    refine b_iconstN (b := 3) rfl rfl ?_
    refine b_iaddN rfl rfl ?_
    refine b_scr hS rfl rfl (by omega) (by omega) ?_
    refine b_i2l rfl rfl ?_
    refine b_bipush (v := nI 32) rfl rfl (by decide +kernel) ?_
    refine b_lshl rfl rfl ?_
    refine b_aload_n rfl rfl rfl ?_
    refine b_iload rfl rfl rfl ?_
    refine b_iconstN (b := 4) rfl rfl ?_
    refine b_iaddN rfl rfl ?_
    refine b_scr hS rfl rfl (by omega) (by omega) ?_
    refine b_i2l rfl rfl ?_
    refine b_ldc2 rfl rfl k_10_59 ?_
    refine b_land rfl rfl ?_
    refine b_lor rfl rfl ?_
    refine b_callVe (d2 := 16) (hop.2 M2 (rm_pl hM hP)) rfl rfl v_10_97 rfl rfl (by decide) rfl rfl (Nat.le_of_ble_eq_true rfl) (by decide) (by omega) (fun M3 hQ3 => ?_)
    refine b_aload_n rfl rfl rfl ?_
    refine b_callVe (d2 := 1) (c_thr hG hQ3) rfl rfl v_10_67 rfl rfl (by decide) rfl rfl (Nat.le_of_ble_eq_true rfl) (by decide) (by omega) (fun M4 h4 => ?_)
    subst h4
    refine b_iload rfl rfl rfl ?_
    refine b_icmp_eq rfl rfl (fun _ => ?_) (fun h => absurd rfl h)
    refine b_goto rfl rfl ?_
    refine b_tab (y1 := mL_h) okL_h rfl rfl rfl rfl ?_
    refine b_wk 5 ?_
    exact kk _ _ _ hwf' (rc_pm hP.1 hQ3) hQ3.1 (by omega) (by omega)
set_option maxHeartbeats 2000000 in
set_option maxRecDepth 20000 in
theorem law_8 {G : Gd} {hp : Method → Code → Prop} {kf : Nat} {Z : Zt} {k b L i : Nat} {xs : Nat → Int32} {A : Ab} {M : Mm} (hG : Gok G) (hN : Nc G) (hS : Sx G b L xs) (hi : i + 10 ≤ L) (hL : L ≤ 5120) (hk : k + 1 ≤ kf) (hwf : wfA A) (hR : RC A M) (hM : RM A M) (kk : Kn G hp kf Z k b i) : Fb G mL_8 hp 70 kf Z k 983 (lv5 G b i) [] (HqE G M) := by
  obtain ⟨A', hwf', hop⟩ := op_put hG hwf hR.sz (xs (i + 1)) (lg2 (xs (i + 2)) (xs (i + 3))) (lg2 (xs (i + 4)) (xs (i + 5)))
  rcases hop with ⟨x, hop⟩ | ⟨x, hop⟩ | ⟨x, hop⟩
  · refine b_aload_n rfl rfl rfl ?_
    refine b_aload_n rfl rfl rfl ?_
    refine b_iload rfl rfl rfl ?_
    refine b_iconstN (b := 1) rfl rfl ?_
    refine b_iaddN rfl rfl ?_
    refine b_scr hS rfl rfl (by omega) (by omega) ?_
    refine b_aload_n rfl rfl rfl ?_
    refine b_iload rfl rfl rfl ?_
    refine b_iconstN (b := 2) rfl rfl ?_
    refine b_iaddN rfl rfl ?_
    refine b_scr hS rfl rfl (by omega) (by omega) ?_
    refine b_i2l rfl rfl ?_
    refine b_bipush (v := nI 32) rfl rfl (by decide +kernel) ?_
    refine b_lshl rfl rfl ?_
    refine b_aload_n rfl rfl rfl ?_
    refine b_iload rfl rfl rfl ?_
    refine b_iconstN (b := 3) rfl rfl ?_
    refine b_iaddN rfl rfl ?_
    refine b_scr hS rfl rfl (by omega) (by omega) ?_
    refine b_i2l rfl rfl ?_
    refine b_ldc2 rfl rfl k_10_59 ?_
    refine b_land rfl rfl ?_
    refine b_lor rfl rfl ?_
    refine b_aload_n rfl rfl rfl ?_
    refine b_iload rfl rfl rfl ?_
    refine b_iconstN (b := 4) rfl rfl ?_
    refine b_iaddN rfl rfl ?_
    refine b_scr hS rfl rfl (by omega) (by omega) ?_
    refine b_i2l rfl rfl ?_
    refine b_bipush (v := nI 32) rfl rfl (by decide +kernel) ?_
    refine b_lshl rfl rfl ?_
    refine b_aload_n rfl rfl rfl ?_
    refine b_iload rfl rfl rfl ?_
    refine b_iconstN (b := 5) rfl rfl ?_
    refine b_iaddN rfl rfl ?_
    refine b_scr hS rfl rfl (by omega) (by omega) ?_
    refine b_i2l rfl rfl ?_
    refine b_ldc2 rfl rfl k_10_59 ?_
    refine b_land rfl rfl ?_
    refine b_lor rfl rfl ?_
    refine b_aload_n rfl rfl rfl ?_
    refine b_callH (d2 := 65) (h_put_R hG hN (xs (i + 1)) (lg2 (xs (i + 2)) (xs (i + 3))) (lg2 (xs (i + 4)) (xs (i + 5))) hop.1 hR) rfl rfl lh_98 rfl rfl (Nat.le_of_ble_eq_true rfl) (by decide) (by omega) (fun v M2 hQ => ?_)
    obtain ⟨rfl, hP, ho⟩ := hQ
    refine b_istore rfl rfl rfl rfl ?_
    refine b_aload_n rfl rfl rfl ?_
    refine b_aload_n rfl rfl rfl ?_
    refine b_iload rfl rfl rfl ?_
    refine b_iconstN (b := 1) rfl rfl ?_
    refine b_iaddN rfl rfl ?_
    refine b_scr hS rfl rfl (by omega) (by omega) ?_
    refine b_aload_n rfl rfl rfl ?_
    refine b_iload rfl rfl rfl ?_
    refine b_iconstN (b := 2) rfl rfl ?_
    refine b_iaddN rfl rfl ?_
    refine b_scr hS rfl rfl (by omega) (by omega) ?_
    refine b_i2l rfl rfl ?_
    refine b_bipush (v := nI 32) rfl rfl (by decide +kernel) ?_
    refine b_lshl rfl rfl ?_
    refine b_aload_n rfl rfl rfl ?_
    refine b_iload rfl rfl rfl ?_
    refine b_iconstN (b := 3) rfl rfl ?_
    refine b_iaddN rfl rfl ?_
    refine b_scr hS rfl rfl (by omega) (by omega) ?_
    refine b_i2l rfl rfl ?_
    refine b_ldc2 rfl rfl k_10_59 ?_
    refine b_land rfl rfl ?_
    refine b_lor rfl rfl ?_
    refine b_aload_n rfl rfl rfl ?_
    refine b_iload rfl rfl rfl ?_
    refine b_iconstN (b := 4) rfl rfl ?_
    refine b_iaddN rfl rfl ?_
    refine b_scr hS rfl rfl (by omega) (by omega) ?_
    refine b_i2l rfl rfl ?_
    refine b_bipush (v := nI 32) rfl rfl (by decide +kernel) ?_
    refine b_lshl rfl rfl ?_
    refine b_aload_n rfl rfl rfl ?_
    refine b_iload rfl rfl rfl ?_
    refine b_iconstN (b := 5) rfl rfl ?_
    refine b_iaddN rfl rfl ?_
    refine b_scr hS rfl rfl (by omega) (by omega) ?_
    refine b_i2l rfl rfl ?_
    refine b_ldc2 rfl rfl k_10_59 ?_
    refine b_land rfl rfl ?_
    refine b_lor rfl rfl ?_
    refine b_callVe (d2 := 16) (hop.2 M2 (rm_pl hM hP)) rfl rfl v_10_101 rfl rfl (by decide) rfl rfl (Nat.le_of_ble_eq_true rfl) (by decide) (by omega) (fun M3 hQ3 => ?_)
    refine b_istore rfl rfl rfl rfl ?_
    refine b_aload_n rfl rfl rfl ?_
    refine b_callVe (d2 := 1) (c_thr hG hQ3) rfl rfl v_10_67 rfl rfl (by decide) rfl rfl (Nat.le_of_ble_eq_true rfl) (by decide) (by omega) (fun M4 h4 => ?_)
    subst h4
    refine b_iload rfl rfl rfl ?_
    refine b_icmp_eq rfl rfl (fun _ => ?_) (fun h => absurd rfl h)
    refine b_iload rfl rfl rfl ?_
    refine b_if_ne rfl rfl (fun h => absurd (show (nI 0) = 0 by decide +kernel) h) (fun _ => ?_)
    refine b_aload_n rfl rfl rfl ?_
    refine b_iconstN (b := 0) rfl rfl ?_
    refine b_lald (q := (70, 0)) (a := 0) (L := 1) rfl rfl rfl (by decide) (by decide) (by decide) ?_
    refine b_iload rfl rfl rfl ?_
    refine b_i2l rfl rfl ?_
    refine b_lc_eq rfl rfl rfl rfl (fun _ => ?_) (fun h => absurd (o_pm ho hQ3) h)
    refine b_goto rfl rfl ?_
    refine b_tab (y1 := mL_h) okL_h rfl rfl rfl rfl ?_
    refine b_wk 5 ?_
    exact kk _ _ _ hwf' (rc_pm hP.1 hQ3) hQ3.1 (by omega) (by omega)
  · refine b_aload_n rfl rfl rfl ?_
    refine b_aload_n rfl rfl rfl ?_
    refine b_iload rfl rfl rfl ?_
    refine b_iconstN (b := 1) rfl rfl ?_
    refine b_iaddN rfl rfl ?_
    refine b_scr hS rfl rfl (by omega) (by omega) ?_
    refine b_aload_n rfl rfl rfl ?_
    refine b_iload rfl rfl rfl ?_
    refine b_iconstN (b := 2) rfl rfl ?_
    refine b_iaddN rfl rfl ?_
    refine b_scr hS rfl rfl (by omega) (by omega) ?_
    refine b_i2l rfl rfl ?_
    refine b_bipush (v := nI 32) rfl rfl (by decide +kernel) ?_
    refine b_lshl rfl rfl ?_
    refine b_aload_n rfl rfl rfl ?_
    refine b_iload rfl rfl rfl ?_
    refine b_iconstN (b := 3) rfl rfl ?_
    refine b_iaddN rfl rfl ?_
    refine b_scr hS rfl rfl (by omega) (by omega) ?_
    refine b_i2l rfl rfl ?_
    refine b_ldc2 rfl rfl k_10_59 ?_
    refine b_land rfl rfl ?_
    refine b_lor rfl rfl ?_
    refine b_aload_n rfl rfl rfl ?_
    refine b_iload rfl rfl rfl ?_
    refine b_iconstN (b := 4) rfl rfl ?_
    refine b_iaddN rfl rfl ?_
    refine b_scr hS rfl rfl (by omega) (by omega) ?_
    refine b_i2l rfl rfl ?_
    refine b_bipush (v := nI 32) rfl rfl (by decide +kernel) ?_
    refine b_lshl rfl rfl ?_
    refine b_aload_n rfl rfl rfl ?_
    refine b_iload rfl rfl rfl ?_
    refine b_iconstN (b := 5) rfl rfl ?_
    refine b_iaddN rfl rfl ?_
    refine b_scr hS rfl rfl (by omega) (by omega) ?_
    refine b_i2l rfl rfl ?_
    refine b_ldc2 rfl rfl k_10_59 ?_
    refine b_land rfl rfl ?_
    refine b_lor rfl rfl ?_
    refine b_aload_n rfl rfl rfl ?_
    refine b_callH (d2 := 65) (h_put_IAE hG hN (xs (i + 1)) (lg2 (xs (i + 2)) (xs (i + 3))) (lg2 (xs (i + 4)) (xs (i + 5))) hop.1 hR) rfl rfl lh_98 rfl rfl (Nat.le_of_ble_eq_true rfl) (by decide) (by omega) (fun v M2 hQ => ?_)
    obtain ⟨rfl, hP⟩ := hQ
    refine b_istore rfl rfl rfl rfl ?_
    refine b_aload_n rfl rfl rfl ?_
    refine b_aload_n rfl rfl rfl ?_
    refine b_iload rfl rfl rfl ?_
    refine b_iconstN (b := 1) rfl rfl ?_
    refine b_iaddN rfl rfl ?_
    refine b_scr hS rfl rfl (by omega) (by omega) ?_
    refine b_aload_n rfl rfl rfl ?_
    refine b_iload rfl rfl rfl ?_
    refine b_iconstN (b := 2) rfl rfl ?_
    refine b_iaddN rfl rfl ?_
    refine b_scr hS rfl rfl (by omega) (by omega) ?_
    refine b_i2l rfl rfl ?_
    refine b_bipush (v := nI 32) rfl rfl (by decide +kernel) ?_
    refine b_lshl rfl rfl ?_
    refine b_aload_n rfl rfl rfl ?_
    refine b_iload rfl rfl rfl ?_
    refine b_iconstN (b := 3) rfl rfl ?_
    refine b_iaddN rfl rfl ?_
    refine b_scr hS rfl rfl (by omega) (by omega) ?_
    refine b_i2l rfl rfl ?_
    refine b_ldc2 rfl rfl k_10_59 ?_
    refine b_land rfl rfl ?_
    refine b_lor rfl rfl ?_
    refine b_aload_n rfl rfl rfl ?_
    refine b_iload rfl rfl rfl ?_
    refine b_iconstN (b := 4) rfl rfl ?_
    refine b_iaddN rfl rfl ?_
    refine b_scr hS rfl rfl (by omega) (by omega) ?_
    refine b_i2l rfl rfl ?_
    refine b_bipush (v := nI 32) rfl rfl (by decide +kernel) ?_
    refine b_lshl rfl rfl ?_
    refine b_aload_n rfl rfl rfl ?_
    refine b_iload rfl rfl rfl ?_
    refine b_iconstN (b := 5) rfl rfl ?_
    refine b_iaddN rfl rfl ?_
    refine b_scr hS rfl rfl (by omega) (by omega) ?_
    refine b_i2l rfl rfl ?_
    refine b_ldc2 rfl rfl k_10_59 ?_
    refine b_land rfl rfl ?_
    refine b_lor rfl rfl ?_
    refine b_callVe (d2 := 16) (hop.2 M2 (rm_pl hM hP)) rfl rfl v_10_101 rfl rfl (by decide) rfl rfl (Nat.le_of_ble_eq_true rfl) (by decide) (by omega) (fun M3 hQ3 => ?_)
    refine b_istore rfl rfl rfl rfl ?_
    refine b_aload_n rfl rfl rfl ?_
    refine b_callVe (d2 := 1) (c_thr hG hQ3) rfl rfl v_10_67 rfl rfl (by decide) rfl rfl (Nat.le_of_ble_eq_true rfl) (by decide) (by omega) (fun M4 h4 => ?_)
    subst h4
    refine b_iload rfl rfl rfl ?_
    refine b_icmp_eq rfl rfl (fun _ => ?_) (fun h => absurd rfl h)
    refine b_iload rfl rfl rfl ?_
    refine b_if_ne rfl rfl (fun _ => ?_) (fun h => absurd h (by decide +kernel))
    refine b_goto rfl rfl ?_
    refine b_tab (y1 := mL_h) okL_h rfl rfl rfl rfl ?_
    refine b_wk 5 ?_
    exact kk _ _ _ hwf' (rc_pm hP.1 hQ3) hQ3.1 (by omega) (by omega)
  · refine b_aload_n rfl rfl rfl ?_
    refine b_aload_n rfl rfl rfl ?_
    refine b_iload rfl rfl rfl ?_
    refine b_iconstN (b := 1) rfl rfl ?_
    refine b_iaddN rfl rfl ?_
    refine b_scr hS rfl rfl (by omega) (by omega) ?_
    refine b_aload_n rfl rfl rfl ?_
    refine b_iload rfl rfl rfl ?_
    refine b_iconstN (b := 2) rfl rfl ?_
    refine b_iaddN rfl rfl ?_
    refine b_scr hS rfl rfl (by omega) (by omega) ?_
    refine b_i2l rfl rfl ?_
    refine b_bipush (v := nI 32) rfl rfl (by decide +kernel) ?_
    refine b_lshl rfl rfl ?_
    refine b_aload_n rfl rfl rfl ?_
    refine b_iload rfl rfl rfl ?_
    refine b_iconstN (b := 3) rfl rfl ?_
    refine b_iaddN rfl rfl ?_
    refine b_scr hS rfl rfl (by omega) (by omega) ?_
    refine b_i2l rfl rfl ?_
    refine b_ldc2 rfl rfl k_10_59 ?_
    refine b_land rfl rfl ?_
    refine b_lor rfl rfl ?_
    refine b_aload_n rfl rfl rfl ?_
    refine b_iload rfl rfl rfl ?_
    refine b_iconstN (b := 4) rfl rfl ?_
    refine b_iaddN rfl rfl ?_
    refine b_scr hS rfl rfl (by omega) (by omega) ?_
    refine b_i2l rfl rfl ?_
    refine b_bipush (v := nI 32) rfl rfl (by decide +kernel) ?_
    refine b_lshl rfl rfl ?_
    refine b_aload_n rfl rfl rfl ?_
    refine b_iload rfl rfl rfl ?_
    refine b_iconstN (b := 5) rfl rfl ?_
    refine b_iaddN rfl rfl ?_
    refine b_scr hS rfl rfl (by omega) (by omega) ?_
    refine b_i2l rfl rfl ?_
    refine b_ldc2 rfl rfl k_10_59 ?_
    refine b_land rfl rfl ?_
    refine b_lor rfl rfl ?_
    refine b_aload_n rfl rfl rfl ?_
    refine b_callH (d2 := 65) (h_put_ISE hG hN (xs (i + 1)) (lg2 (xs (i + 2)) (xs (i + 3))) (lg2 (xs (i + 4)) (xs (i + 5))) hop.1 hR) rfl rfl lh_98 rfl rfl (Nat.le_of_ble_eq_true rfl) (by decide) (by omega) (fun v M2 hQ => ?_)
    obtain ⟨rfl, hP⟩ := hQ
    refine b_istore rfl rfl rfl rfl ?_
    refine b_aload_n rfl rfl rfl ?_
    refine b_aload_n rfl rfl rfl ?_
    refine b_iload rfl rfl rfl ?_
    refine b_iconstN (b := 1) rfl rfl ?_
    refine b_iaddN rfl rfl ?_
    refine b_scr hS rfl rfl (by omega) (by omega) ?_
    refine b_aload_n rfl rfl rfl ?_
    refine b_iload rfl rfl rfl ?_
    refine b_iconstN (b := 2) rfl rfl ?_
    refine b_iaddN rfl rfl ?_
    refine b_scr hS rfl rfl (by omega) (by omega) ?_
    refine b_i2l rfl rfl ?_
    refine b_bipush (v := nI 32) rfl rfl (by decide +kernel) ?_
    refine b_lshl rfl rfl ?_
    refine b_aload_n rfl rfl rfl ?_
    refine b_iload rfl rfl rfl ?_
    refine b_iconstN (b := 3) rfl rfl ?_
    refine b_iaddN rfl rfl ?_
    refine b_scr hS rfl rfl (by omega) (by omega) ?_
    refine b_i2l rfl rfl ?_
    refine b_ldc2 rfl rfl k_10_59 ?_
    refine b_land rfl rfl ?_
    refine b_lor rfl rfl ?_
    refine b_aload_n rfl rfl rfl ?_
    refine b_iload rfl rfl rfl ?_
    refine b_iconstN (b := 4) rfl rfl ?_
    refine b_iaddN rfl rfl ?_
    refine b_scr hS rfl rfl (by omega) (by omega) ?_
    refine b_i2l rfl rfl ?_
    refine b_bipush (v := nI 32) rfl rfl (by decide +kernel) ?_
    refine b_lshl rfl rfl ?_
    refine b_aload_n rfl rfl rfl ?_
    refine b_iload rfl rfl rfl ?_
    refine b_iconstN (b := 5) rfl rfl ?_
    refine b_iaddN rfl rfl ?_
    refine b_scr hS rfl rfl (by omega) (by omega) ?_
    refine b_i2l rfl rfl ?_
    refine b_ldc2 rfl rfl k_10_59 ?_
    refine b_land rfl rfl ?_
    refine b_lor rfl rfl ?_
    refine b_callVe (d2 := 16) (hop.2 M2 (rm_pl hM hP)) rfl rfl v_10_101 rfl rfl (by decide) rfl rfl (Nat.le_of_ble_eq_true rfl) (by decide) (by omega) (fun M3 hQ3 => ?_)
    refine b_istore rfl rfl rfl rfl ?_
    refine b_aload_n rfl rfl rfl ?_
    refine b_callVe (d2 := 1) (c_thr hG hQ3) rfl rfl v_10_67 rfl rfl (by decide) rfl rfl (Nat.le_of_ble_eq_true rfl) (by decide) (by omega) (fun M4 h4 => ?_)
    subst h4
    refine b_iload rfl rfl rfl ?_
    refine b_icmp_eq rfl rfl (fun _ => ?_) (fun h => absurd rfl h)
    refine b_iload rfl rfl rfl ?_
    refine b_if_ne rfl rfl (fun _ => ?_) (fun h => absurd h (by decide +kernel))
    refine b_goto rfl rfl ?_
    refine b_tab (y1 := mL_h) okL_h rfl rfl rfl rfl ?_
    refine b_wk 5 ?_
    exact kk _ _ _ hwf' (rc_pm hP.1 hQ3) hQ3.1 (by omega) (by omega)
set_option maxHeartbeats 2000000 in
set_option maxRecDepth 20000 in
theorem law_9 {G : Gd} {hp : Method → Code → Prop} {kf : Nat} {Z : Zt} {k b L i : Nat} {xs : Nat → Int32} {A : Ab} {M : Mm} (hG : Gok G) (hN : Nc G) (hS : Sx G b L xs) (hi : i + 10 ≤ L) (hL : L ≤ 5120) (hk : k + 1 ≤ kf) (hwf : wfA A) (hR : RC A M) (hM : RM A M) (kk : Kn G hp kf Z k b i) : Fb G mL_9 hp 70 kf Z k 1127 (lv5 G b i) [] (HqE G M) := by
  obtain ⟨A', hwf', x, hop⟩ := op_allow hG hwf hR.sz (lg2 (xs (i + 1)) (xs (i + 2)))
  refine b_aload_n rfl rfl rfl ?_
  refine b_aload_n rfl rfl rfl ?_
  refine b_iload rfl rfl rfl ?_
  refine b_iconstN (b := 1) rfl rfl ?_
  refine b_iaddN rfl rfl ?_
  refine b_scr hS rfl rfl (by omega) (by omega) ?_
  refine b_i2l rfl rfl ?_
  refine b_bipush (v := nI 32) rfl rfl (by decide +kernel) ?_
  refine b_lshl rfl rfl ?_
  refine b_aload_n rfl rfl rfl ?_
  refine b_iload rfl rfl rfl ?_
  refine b_iconstN (b := 2) rfl rfl ?_
  refine b_iaddN rfl rfl ?_
  refine b_scr hS rfl rfl (by omega) (by omega) ?_
  refine b_i2l rfl rfl ?_
  refine b_ldc2 rfl rfl k_10_59 ?_
  refine b_land rfl rfl ?_
  refine b_lor rfl rfl ?_
  refine b_callVe (d2 := 64) (hop.1 M hR) rfl rfl v_10_102 rfl rfl (by decide) rfl rfl (Nat.le_of_ble_eq_true rfl) (by decide) (by omega) (fun M2 hP => ?_)
  refine b_aload_n rfl rfl rfl ?_
  refine b_aload_n rfl rfl rfl ?_
  refine b_iload rfl rfl rfl ?_
  refine b_iconstN (b := 1) rfl rfl ?_
  refine b_iaddN rfl rfl ?_
  refine b_scr hS rfl rfl (by omega) (by omega) ?_
  refine b_i2l rfl rfl ?_
  refine b_bipush (v := nI 32) rfl rfl (by decide +kernel) ?_
  refine b_lshl rfl rfl ?_
  refine b_aload_n rfl rfl rfl ?_
  refine b_iload rfl rfl rfl ?_
  refine b_iconstN (b := 2) rfl rfl ?_
  refine b_iaddN rfl rfl ?_
  refine b_scr hS rfl rfl (by omega) (by omega) ?_
  refine b_i2l rfl rfl ?_
  refine b_ldc2 rfl rfl k_10_59 ?_
  refine b_land rfl rfl ?_
  refine b_lor rfl rfl ?_
  refine b_callVe (d2 := 16) (hop.2 M2 (rm_pc hM hP)) rfl rfl v_10_106 rfl rfl (by decide) rfl rfl (Nat.le_of_ble_eq_true rfl) (by decide) (by omega) (fun M3 hQ3 => ?_)
  refine b_icmp_eq rfl rfl (fun _ => ?_) (fun h => absurd rfl h)
  refine b_tab (y1 := mL_h) okL_h rfl rfl rfl rfl ?_
  exact kk _ _ _ hwf' (rc_pm hP.1 hQ3) hQ3.1 (by omega) (by omega)
set_option maxHeartbeats 2000000 in
set_option maxRecDepth 20000 in
theorem law_10 {G : Gd} {hp : Method → Code → Prop} {kf : Nat} {Z : Zt} {k b L i : Nat} {xs : Nat → Int32} {A : Ab} {M : Mm} (hG : Gok G) (hN : Nc G) (hS : Sx G b L xs) (hi : i + 10 ≤ L) (hL : L ≤ 5120) (hk : k + 1 ≤ kf) (hwf : wfA A) (hR : RC A M) (hM : RM A M) (kk : Kn G hp kf Z k b i) : Fb G mL_10 hp 70 kf Z k 1184 (lv5 G b i) [] (HqE G M) := by
  obtain ⟨A', hwf', hop⟩ := op_encode hG hwf hR.szb (lg2 (xs (i + 1)) (xs (i + 2)))
  rcases hop with ⟨x, hop⟩ | ⟨x, hop⟩ | ⟨x, hop⟩
  · refine b_aload_n rfl rfl rfl ?_
    refine b_aload_n rfl rfl rfl ?_
    refine b_iload rfl rfl rfl ?_
    refine b_iconstN (b := 1) rfl rfl ?_
    refine b_iaddN rfl rfl ?_
    refine b_scr hS rfl rfl (by omega) (by omega) ?_
    refine b_i2l rfl rfl ?_
    refine b_bipush (v := nI 32) rfl rfl (by decide +kernel) ?_
    refine b_lshl rfl rfl ?_
    refine b_aload_n rfl rfl rfl ?_
    refine b_iload rfl rfl rfl ?_
    refine b_iconstN (b := 2) rfl rfl ?_
    refine b_iaddN rfl rfl ?_
    refine b_scr hS rfl rfl (by omega) (by omega) ?_
    refine b_i2l rfl rfl ?_
    refine b_ldc2 rfl rfl k_10_59 ?_
    refine b_land rfl rfl ?_
    refine b_lor rfl rfl ?_
    refine b_aload_n rfl rfl rfl ?_
    refine b_callH (d2 := 65) (h_encode_R hG hN (lg2 (xs (i + 1)) (xs (i + 2))) hop.1 hR) rfl rfl lh_107 rfl rfl (Nat.le_of_ble_eq_true rfl) (by decide) (by omega) (fun v M2 hQ => ?_)
    obtain ⟨rfl, hP, ho⟩ := hQ
    refine b_istore rfl rfl rfl rfl ?_
    refine b_aload_n rfl rfl rfl ?_
    refine b_aload_n rfl rfl rfl ?_
    refine b_iload rfl rfl rfl ?_
    refine b_iconstN (b := 1) rfl rfl ?_
    refine b_iaddN rfl rfl ?_
    refine b_scr hS rfl rfl (by omega) (by omega) ?_
    refine b_i2l rfl rfl ?_
    refine b_bipush (v := nI 32) rfl rfl (by decide +kernel) ?_
    refine b_lshl rfl rfl ?_
    refine b_aload_n rfl rfl rfl ?_
    refine b_iload rfl rfl rfl ?_
    refine b_iconstN (b := 2) rfl rfl ?_
    refine b_iaddN rfl rfl ?_
    refine b_scr hS rfl rfl (by omega) (by omega) ?_
    refine b_i2l rfl rfl ?_
    refine b_ldc2 rfl rfl k_10_59 ?_
    refine b_land rfl rfl ?_
    refine b_lor rfl rfl ?_
    refine b_callVe (d2 := 16) (hop.2 M2 (rm_pl hM hP)) rfl rfl v_10_109 rfl rfl (by decide) rfl rfl (Nat.le_of_ble_eq_true rfl) (by decide) (by omega) (fun M3 hQ3 => ?_)
    refine b_istore rfl rfl rfl rfl ?_
    refine b_aload_n rfl rfl rfl ?_
    refine b_callVe (d2 := 1) (c_thr hG hQ3) rfl rfl v_10_67 rfl rfl (by decide) rfl rfl (Nat.le_of_ble_eq_true rfl) (by decide) (by omega) (fun M4 h4 => ?_)
    subst h4
    refine b_iload rfl rfl rfl ?_
    refine b_icmp_eq rfl rfl (fun _ => ?_) (fun h => absurd rfl h)
    refine b_iload rfl rfl rfl ?_
    refine b_if_ne rfl rfl (fun h => absurd (show (nI 0) = 0 by decide +kernel) h) (fun _ => ?_)
    refine b_aload_n rfl rfl rfl ?_
    refine b_iconstN (b := 0) rfl rfl ?_
    refine b_lald (q := (70, 0)) (a := 0) (L := 1) rfl rfl rfl (by decide) (by decide) (by decide) ?_
    refine b_iload rfl rfl rfl ?_
    refine b_i2l rfl rfl ?_
    refine b_lc_eq rfl rfl rfl rfl (fun _ => ?_) (fun h => absurd (o_pm ho hQ3) h)
    refine b_goto rfl rfl ?_
    refine b_tab (y1 := mL_h) okL_h rfl rfl rfl rfl ?_
    refine b_wk 5 ?_
    exact kk _ _ _ hwf' (rc_pm hP.1 hQ3) hQ3.1 (by omega) (by omega)
  · refine b_aload_n rfl rfl rfl ?_
    refine b_aload_n rfl rfl rfl ?_
    refine b_iload rfl rfl rfl ?_
    refine b_iconstN (b := 1) rfl rfl ?_
    refine b_iaddN rfl rfl ?_
    refine b_scr hS rfl rfl (by omega) (by omega) ?_
    refine b_i2l rfl rfl ?_
    refine b_bipush (v := nI 32) rfl rfl (by decide +kernel) ?_
    refine b_lshl rfl rfl ?_
    refine b_aload_n rfl rfl rfl ?_
    refine b_iload rfl rfl rfl ?_
    refine b_iconstN (b := 2) rfl rfl ?_
    refine b_iaddN rfl rfl ?_
    refine b_scr hS rfl rfl (by omega) (by omega) ?_
    refine b_i2l rfl rfl ?_
    refine b_ldc2 rfl rfl k_10_59 ?_
    refine b_land rfl rfl ?_
    refine b_lor rfl rfl ?_
    refine b_aload_n rfl rfl rfl ?_
    refine b_callH (d2 := 65) (h_encode_IAE hG hN (lg2 (xs (i + 1)) (xs (i + 2))) hop.1 hR) rfl rfl lh_107 rfl rfl (Nat.le_of_ble_eq_true rfl) (by decide) (by omega) (fun v M2 hQ => ?_)
    obtain ⟨rfl, hP⟩ := hQ
    refine b_istore rfl rfl rfl rfl ?_
    refine b_aload_n rfl rfl rfl ?_
    refine b_aload_n rfl rfl rfl ?_
    refine b_iload rfl rfl rfl ?_
    refine b_iconstN (b := 1) rfl rfl ?_
    refine b_iaddN rfl rfl ?_
    refine b_scr hS rfl rfl (by omega) (by omega) ?_
    refine b_i2l rfl rfl ?_
    refine b_bipush (v := nI 32) rfl rfl (by decide +kernel) ?_
    refine b_lshl rfl rfl ?_
    refine b_aload_n rfl rfl rfl ?_
    refine b_iload rfl rfl rfl ?_
    refine b_iconstN (b := 2) rfl rfl ?_
    refine b_iaddN rfl rfl ?_
    refine b_scr hS rfl rfl (by omega) (by omega) ?_
    refine b_i2l rfl rfl ?_
    refine b_ldc2 rfl rfl k_10_59 ?_
    refine b_land rfl rfl ?_
    refine b_lor rfl rfl ?_
    refine b_callVe (d2 := 16) (hop.2 M2 (rm_pl hM hP)) rfl rfl v_10_109 rfl rfl (by decide) rfl rfl (Nat.le_of_ble_eq_true rfl) (by decide) (by omega) (fun M3 hQ3 => ?_)
    refine b_istore rfl rfl rfl rfl ?_
    refine b_aload_n rfl rfl rfl ?_
    refine b_callVe (d2 := 1) (c_thr hG hQ3) rfl rfl v_10_67 rfl rfl (by decide) rfl rfl (Nat.le_of_ble_eq_true rfl) (by decide) (by omega) (fun M4 h4 => ?_)
    subst h4
    refine b_iload rfl rfl rfl ?_
    refine b_icmp_eq rfl rfl (fun _ => ?_) (fun h => absurd rfl h)
    refine b_iload rfl rfl rfl ?_
    refine b_if_ne rfl rfl (fun _ => ?_) (fun h => absurd h (by decide +kernel))
    refine b_goto rfl rfl ?_
    refine b_tab (y1 := mL_h) okL_h rfl rfl rfl rfl ?_
    refine b_wk 5 ?_
    exact kk _ _ _ hwf' (rc_pm hP.1 hQ3) hQ3.1 (by omega) (by omega)
  · refine b_aload_n rfl rfl rfl ?_
    refine b_aload_n rfl rfl rfl ?_
    refine b_iload rfl rfl rfl ?_
    refine b_iconstN (b := 1) rfl rfl ?_
    refine b_iaddN rfl rfl ?_
    refine b_scr hS rfl rfl (by omega) (by omega) ?_
    refine b_i2l rfl rfl ?_
    refine b_bipush (v := nI 32) rfl rfl (by decide +kernel) ?_
    refine b_lshl rfl rfl ?_
    refine b_aload_n rfl rfl rfl ?_
    refine b_iload rfl rfl rfl ?_
    refine b_iconstN (b := 2) rfl rfl ?_
    refine b_iaddN rfl rfl ?_
    refine b_scr hS rfl rfl (by omega) (by omega) ?_
    refine b_i2l rfl rfl ?_
    refine b_ldc2 rfl rfl k_10_59 ?_
    refine b_land rfl rfl ?_
    refine b_lor rfl rfl ?_
    refine b_aload_n rfl rfl rfl ?_
    refine b_callH (d2 := 65) (h_encode_ISE hG hN (lg2 (xs (i + 1)) (xs (i + 2))) hop.1 hR) rfl rfl lh_107 rfl rfl (Nat.le_of_ble_eq_true rfl) (by decide) (by omega) (fun v M2 hQ => ?_)
    obtain ⟨rfl, hP⟩ := hQ
    refine b_istore rfl rfl rfl rfl ?_
    refine b_aload_n rfl rfl rfl ?_
    refine b_aload_n rfl rfl rfl ?_
    refine b_iload rfl rfl rfl ?_
    refine b_iconstN (b := 1) rfl rfl ?_
    refine b_iaddN rfl rfl ?_
    refine b_scr hS rfl rfl (by omega) (by omega) ?_
    refine b_i2l rfl rfl ?_
    refine b_bipush (v := nI 32) rfl rfl (by decide +kernel) ?_
    refine b_lshl rfl rfl ?_
    refine b_aload_n rfl rfl rfl ?_
    refine b_iload rfl rfl rfl ?_
    refine b_iconstN (b := 2) rfl rfl ?_
    refine b_iaddN rfl rfl ?_
    refine b_scr hS rfl rfl (by omega) (by omega) ?_
    refine b_i2l rfl rfl ?_
    refine b_ldc2 rfl rfl k_10_59 ?_
    refine b_land rfl rfl ?_
    refine b_lor rfl rfl ?_
    refine b_callVe (d2 := 16) (hop.2 M2 (rm_pl hM hP)) rfl rfl v_10_109 rfl rfl (by decide) rfl rfl (Nat.le_of_ble_eq_true rfl) (by decide) (by omega) (fun M3 hQ3 => ?_)
    refine b_istore rfl rfl rfl rfl ?_
    refine b_aload_n rfl rfl rfl ?_
    refine b_callVe (d2 := 1) (c_thr hG hQ3) rfl rfl v_10_67 rfl rfl (by decide) rfl rfl (Nat.le_of_ble_eq_true rfl) (by decide) (by omega) (fun M4 h4 => ?_)
    subst h4
    refine b_iload rfl rfl rfl ?_
    refine b_icmp_eq rfl rfl (fun _ => ?_) (fun h => absurd rfl h)
    refine b_iload rfl rfl rfl ?_
    refine b_if_ne rfl rfl (fun _ => ?_) (fun h => absurd h (by decide +kernel))
    refine b_goto rfl rfl ?_
    refine b_tab (y1 := mL_h) okL_h rfl rfl rfl rfl ?_
    refine b_wk 5 ?_
    exact kk _ _ _ hwf' (rc_pm hP.1 hQ3) hQ3.1 (by omega) (by omega)
set_option maxHeartbeats 2000000 in
set_option maxRecDepth 20000 in
theorem law_11 {G : Gd} {hp : Method → Code → Prop} {kf : Nat} {Z : Zt} {k b L i : Nat} {xs : Nat → Int32} {A : Ab} {M : Mm} (hG : Gok G) (hN : Nc G) (hS : Sx G b L xs) (hi : i + 10 ≤ L) (hL : L ≤ 5120) (hk : k + 1 ≤ kf) (hwf : wfA A) (hR : RC A M) (hM : RM A M) (kk : Kn G hp kf Z k b i) : Fb G mL_11 hp 70 kf Z k 1272 (lv5 G b i) [] (HqE G M) := by
  obtain ⟨A', hwf', hop⟩ := op_decode hG hwf hR.sz 
  rcases hop with ⟨x, hop⟩ | ⟨x, hop⟩
  · refine b_aload_n rfl rfl rfl ?_
    refine b_aload_n rfl rfl rfl ?_
    refine b_callH (d2 := 65) (h_decode_R hG hN  hop.1 hR) rfl rfl lh_110 rfl rfl (Nat.le_of_ble_eq_true rfl) (by decide) (by omega) (fun v M2 hQ => ?_)
    obtain ⟨rfl, hP, ho⟩ := hQ
    refine b_istore rfl rfl rfl rfl ?_
    refine b_aload_n rfl rfl rfl ?_
    refine b_callVe (d2 := 16) (hop.2 M2 (rm_pl hM hP)) rfl rfl v_10_112 rfl rfl (by decide) rfl rfl (Nat.le_of_ble_eq_true rfl) (by decide) (by omega) (fun M3 hQ3 => ?_)
    refine b_lstore rfl rfl rfl rfl ?_
    refine b_aload_n rfl rfl rfl ?_
    refine b_callVe (d2 := 1) (c_thr hG hQ3) rfl rfl v_10_67 rfl rfl (by decide) rfl rfl (Nat.le_of_ble_eq_true rfl) (by decide) (by omega) (fun M4 h4 => ?_)
    subst h4
    refine b_iload rfl rfl rfl ?_
    refine b_icmp_eq rfl rfl (fun _ => ?_) (fun h => absurd rfl h)
    refine b_iload rfl rfl rfl ?_
    refine b_if_ne rfl rfl (fun h => absurd (show (nI 0) = 0 by decide +kernel) h) (fun _ => ?_)
    refine b_aload_n rfl rfl rfl ?_
    refine b_iconstN (b := 0) rfl rfl ?_
    refine b_lald (q := (70, 0)) (a := 0) (L := 1) rfl rfl rfl (by decide) (by decide) (by decide) ?_
    refine b_lload rfl rfl rfl ?_
    refine b_lc_eq rfl rfl rfl rfl (fun _ => ?_) (fun h => absurd (o_pm ho hQ3) h)
    refine b_goto rfl rfl ?_
    refine b_tab (y1 := mL_h) okL_h rfl rfl rfl rfl ?_
    refine b_wk 5 ?_
    exact kk _ _ _ hwf' (rc_pm hP.1 hQ3) hQ3.1 (by omega) (by omega)
  · refine b_aload_n rfl rfl rfl ?_
    refine b_aload_n rfl rfl rfl ?_
    refine b_callH (d2 := 65) (h_decode_IAE hG hN  hop.1 hR) rfl rfl lh_110 rfl rfl (Nat.le_of_ble_eq_true rfl) (by decide) (by omega) (fun v M2 hQ => ?_)
    obtain ⟨rfl, hP⟩ := hQ
    refine b_istore rfl rfl rfl rfl ?_
    refine b_aload_n rfl rfl rfl ?_
    refine b_callVe (d2 := 16) (hop.2 M2 (rm_pl hM hP)) rfl rfl v_10_112 rfl rfl (by decide) rfl rfl (Nat.le_of_ble_eq_true rfl) (by decide) (by omega) (fun M3 hQ3 => ?_)
    refine b_lstore rfl rfl rfl rfl ?_
    refine b_aload_n rfl rfl rfl ?_
    refine b_callVe (d2 := 1) (c_thr hG hQ3) rfl rfl v_10_67 rfl rfl (by decide) rfl rfl (Nat.le_of_ble_eq_true rfl) (by decide) (by omega) (fun M4 h4 => ?_)
    subst h4
    refine b_iload rfl rfl rfl ?_
    refine b_icmp_eq rfl rfl (fun _ => ?_) (fun h => absurd rfl h)
    refine b_iload rfl rfl rfl ?_
    refine b_if_ne rfl rfl (fun _ => ?_) (fun h => absurd h (by decide +kernel))
    refine b_goto rfl rfl ?_
    refine b_tab (y1 := mL_h) okL_h rfl rfl rfl rfl ?_
    refine b_wk 5 ?_
    exact kk _ _ _ hwf' (rc_pm hP.1 hQ3) hQ3.1 (by omega) (by omega)
set_option maxHeartbeats 2000000 in
set_option maxRecDepth 20000 in
theorem law_12 {G : Gd} {hp : Method → Code → Prop} {kf : Nat} {Z : Zt} {k b L i : Nat} {xs : Nat → Int32} {A : Ab} {M : Mm} (hG : Gok G) (hN : Nc G) (hS : Sx G b L xs) (hi : i + 10 ≤ L) (hL : L ≤ 5120) (hk : k + 1 ≤ kf) (hwf : wfA A) (hR : RC A M) (hM : RM A M) (kk : Kn G hp kf Z k b i) : Fb G mL_12 hp 70 kf Z k 1315 (lv5 G b i) [] (HqE G M) := by
  have hop := op_fault (A := A) hG
  refine b_aload_n rfl rfl rfl ?_
  refine b_callVe (d2 := 64) (hop.1 M hR) rfl rfl v_10_113 rfl rfl (by decide) rfl rfl (Nat.le_of_ble_eq_true rfl) (by decide) (by omega) (fun M2 hP => ?_)
  refine b_aload_n rfl rfl rfl ?_
  refine b_callVe (d2 := 16) (hop.2 M2 (rm_pc hM hP)) rfl rfl v_10_116 rfl rfl (by decide) rfl rfl (Nat.le_of_ble_eq_true rfl) (by decide) (by omega) (fun M3 hQ3 => ?_)
  refine b_icmp_eq rfl rfl (fun _ => ?_) (fun h => absurd rfl h)
  refine b_tab (y1 := mL_h) okL_h rfl rfl rfl rfl ?_
  exact kk _ _ _ hwf (rc_pm hP.1 hQ3) hQ3.1 (by omega) (by omega)
set_option maxHeartbeats 2000000 in
set_option maxRecDepth 20000 in
theorem law_13 {G : Gd} {hp : Method → Code → Prop} {kf : Nat} {Z : Zt} {k b L i : Nat} {xs : Nat → Int32} {A : Ab} {M : Mm} (hG : Gok G) (hN : Nc G) (hS : Sx G b L xs) (hi : i + 10 ≤ L) (hL : L ≤ 5120) (hk : k + 1 ≤ kf) (hwf : wfA A) (hR : RC A M) (hM : RM A M) (kk : Kn G hp kf Z k b i) : Fb G mL_13 hp 70 kf Z k 1328 (lv5 G b i) [] (HqE G M) := by
  have hop := op_size (A := A) hG
  refine b_aload_n rfl rfl rfl ?_
  refine b_callVe (d2 := 64) (hop.1 M hR) rfl rfl v_10_117 rfl rfl (by decide) rfl rfl (Nat.le_of_ble_eq_true rfl) (by decide) (by omega) (fun M2 hP => ?_)
  refine b_aload_n rfl rfl rfl ?_
  refine b_callVe (d2 := 16) (hop.2 M2 (rm_pc hM hP)) rfl rfl v_10_120 rfl rfl (by decide) rfl rfl (Nat.le_of_ble_eq_true rfl) (by decide) (by omega) (fun M3 hQ3 => ?_)
  refine b_icmp_eq rfl rfl (fun _ => ?_) (fun h => absurd rfl h)
  refine b_tab (y1 := mL_h) okL_h rfl rfl rfl rfl ?_
  exact kk _ _ _ hwf (rc_pm hP.1 hQ3) hQ3.1 (by omega) (by omega)
set_option maxHeartbeats 2000000 in
set_option maxRecDepth 20000 in
theorem law_14 {G : Gd} {hp : Method → Code → Prop} {kf : Nat} {Z : Zt} {k b L i : Nat} {xs : Nat → Int32} {A : Ab} {M : Mm} (hG : Gok G) (hN : Nc G) (hS : Sx G b L xs) (hi : i + 10 ≤ L) (hL : L ≤ 5120) (hk : k + 1 ≤ kf) (hwf : wfA A) (hR : RC A M) (hM : RM A M) (kk : Kn G hp kf Z k b i) : Fb G mL_14 hp 70 kf Z k 1341 (lv5 G b i) [] (HqE G M) := by
  obtain ⟨x, hop⟩ := op_byteAt (A := A) hG (xs (i + 1))
  refine b_aload_n rfl rfl rfl ?_
  refine b_aload_n rfl rfl rfl ?_
  refine b_iload rfl rfl rfl ?_
  refine b_iconstN (b := 1) rfl rfl ?_
  refine b_iaddN rfl rfl ?_
  refine b_scr hS rfl rfl (by omega) (by omega) ?_
  refine b_callVe (d2 := 64) (hop.1 M hR) rfl rfl v_10_121 rfl rfl (by decide) rfl rfl (Nat.le_of_ble_eq_true rfl) (by decide) (by omega) (fun M2 hP => ?_)
  refine b_aload_n rfl rfl rfl ?_
  refine b_aload_n rfl rfl rfl ?_
  refine b_iload rfl rfl rfl ?_
  refine b_iconstN (b := 1) rfl rfl ?_
  refine b_iaddN rfl rfl ?_
  refine b_scr hS rfl rfl (by omega) (by omega) ?_
  refine b_callVe (d2 := 16) (hop.2 M2 (rm_pc hM hP)) rfl rfl v_10_125 rfl rfl (by decide) rfl rfl (Nat.le_of_ble_eq_true rfl) (by decide) (by omega) (fun M3 hQ3 => ?_)
  refine b_icmp_eq rfl rfl (fun _ => ?_) (fun h => absurd rfl h)
  refine b_tab (y1 := mL_h) okL_h rfl rfl rfl rfl ?_
  exact kk _ _ _ hwf (rc_pm hP.1 hQ3) hQ3.1 (by omega) (by omega)
set_option maxHeartbeats 2000000 in
set_option maxRecDepth 20000 in
theorem law_15 {G : Gd} {hp : Method → Code → Prop} {kf : Nat} {Z : Zt} {k b L i : Nat} {xs : Nat → Int32} {A : Ab} {M : Mm} (hG : Gok G) (hN : Nc G) (hS : Sx G b L xs) (hi : i + 10 ≤ L) (hL : L ≤ 5120) (hk : k + 1 ≤ kf) (hwf : wfA A) (hR : RC A M) (hM : RM A M) (kk : Kn G hp kf Z k b i) : Fb G mL_15 hp 70 kf Z k 1366 (lv5 G b i) [] (HqE G M) := by
  obtain ⟨A', hwf', x, hop⟩ := op_alter hG hwf hR.sz (xs (i + 1)) (xs (i + 2))
  refine b_aload_n rfl rfl rfl ?_
  refine b_aload_n rfl rfl rfl ?_
  refine b_iload rfl rfl rfl ?_
  refine b_iconstN (b := 1) rfl rfl ?_
  refine b_iaddN rfl rfl ?_
  refine b_scr hS rfl rfl (by omega) (by omega) ?_
  refine b_aload_n rfl rfl rfl ?_
  refine b_iload rfl rfl rfl ?_
  refine b_iconstN (b := 2) rfl rfl ?_
  refine b_iaddN rfl rfl ?_
  refine b_scr hS rfl rfl (by omega) (by omega) ?_
  refine b_callVe (d2 := 64) (hop.1 M hR) rfl rfl v_10_126 rfl rfl (by decide) rfl rfl (Nat.le_of_ble_eq_true rfl) (by decide) (by omega) (fun M2 hP => ?_)
  refine b_aload_n rfl rfl rfl ?_
  refine b_aload_n rfl rfl rfl ?_
  refine b_iload rfl rfl rfl ?_
  refine b_iconstN (b := 1) rfl rfl ?_
  refine b_iaddN rfl rfl ?_
  refine b_scr hS rfl rfl (by omega) (by omega) ?_
  refine b_aload_n rfl rfl rfl ?_
  refine b_iload rfl rfl rfl ?_
  refine b_iconstN (b := 2) rfl rfl ?_
  refine b_iaddN rfl rfl ?_
  refine b_scr hS rfl rfl (by omega) (by omega) ?_
  refine b_callVe (d2 := 16) (hop.2 M2 (rm_pc hM hP)) rfl rfl v_10_130 rfl rfl (by decide) rfl rfl (Nat.le_of_ble_eq_true rfl) (by decide) (by omega) (fun M3 hQ3 => ?_)
  refine b_icmp_eq rfl rfl (fun _ => ?_) (fun h => absurd rfl h)
  refine b_tab (y1 := mL_h) okL_h rfl rfl rfl rfl ?_
  exact kk _ _ _ hwf' (rc_pm hP.1 hQ3) hQ3.1 (by omega) (by omega)
set_option maxHeartbeats 2000000 in
set_option maxRecDepth 20000 in
theorem law_16 {G : Gd} {hp : Method → Code → Prop} {kf : Nat} {Z : Zt} {k b L i : Nat} {xs : Nat → Int32} {A : Ab} {M : Mm} (hG : Gok G) (hN : Nc G) (hS : Sx G b L xs) (hi : i + 10 ≤ L) (hL : L ≤ 5120) (hk : k + 1 ≤ kf) (hwf : wfA A) (hR : RC A M) (hM : RM A M) (kk : Kn G hp kf Z k b i) : Fb G mL_16 hp 70 kf Z k 1403 (lv5 G b i) [] (HqE G M) := by
  obtain ⟨A', hwf', x, hop⟩ := op_cut hG hwf hR.sz (xs (i + 1))
  refine b_aload_n rfl rfl rfl ?_
  refine b_aload_n rfl rfl rfl ?_
  refine b_iload rfl rfl rfl ?_
  refine b_iconstN (b := 1) rfl rfl ?_
  refine b_iaddN rfl rfl ?_
  refine b_scr hS rfl rfl (by omega) (by omega) ?_
  refine b_callVe (d2 := 64) (hop.1 M hR) rfl rfl v_10_131 rfl rfl (by decide) rfl rfl (Nat.le_of_ble_eq_true rfl) (by decide) (by omega) (fun M2 hP => ?_)
  refine b_aload_n rfl rfl rfl ?_
  refine b_aload_n rfl rfl rfl ?_
  refine b_iload rfl rfl rfl ?_
  refine b_iconstN (b := 1) rfl rfl ?_
  refine b_iaddN rfl rfl ?_
  refine b_scr hS rfl rfl (by omega) (by omega) ?_
  refine b_callVe (d2 := 16) (hop.2 M2 (rm_pc hM hP)) rfl rfl v_10_135 rfl rfl (by decide) rfl rfl (Nat.le_of_ble_eq_true rfl) (by decide) (by omega) (fun M3 hQ3 => ?_)
  refine b_icmp_eq rfl rfl (fun _ => ?_) (fun h => absurd rfl h)
  refine b_tab (y1 := mL_h) okL_h rfl rfl rfl rfl ?_
  exact kk _ _ _ hwf' (rc_pm hP.1 hQ3) hQ3.1 (by omega) (by omega)
set_option maxHeartbeats 2000000 in
set_option maxRecDepth 20000 in
theorem law_17 {G : Gd} {hp : Method → Code → Prop} {kf : Nat} {Z : Zt} {k b L i : Nat} {xs : Nat → Int32} {A : Ab} {M : Mm} (hG : Gok G) (hN : Nc G) (hS : Sx G b L xs) (hi : i + 10 ≤ L) (hL : L ≤ 5120) (hk : k + 1 ≤ kf) (hwf : wfA A) (hR : RC A M) (hM : RM A M) (kk : Kn G hp kf Z k b i) : Fb G mL_17 hp 70 kf Z k 1428 (lv5 G b i) [] (HqE G M) := by
  have hop := op_things (A := A) hG
  refine b_aload_n rfl rfl rfl ?_
  refine b_callVe (d2 := 64) (hop.1 M hR) rfl rfl v_10_136 rfl rfl (by decide) rfl rfl (Nat.le_of_ble_eq_true rfl) (by decide) (by omega) (fun M2 hP => ?_)
  refine b_aload_n rfl rfl rfl ?_
  refine b_callVe (d2 := 16) (hop.2 M2 (rm_pc hM hP)) rfl rfl v_10_139 rfl rfl (by decide) rfl rfl (Nat.le_of_ble_eq_true rfl) (by decide) (by omega) (fun M3 hQ3 => ?_)
  refine b_icmp_eq rfl rfl (fun _ => ?_) (fun h => absurd rfl h)
  refine b_tab (y1 := mL_h) okL_h rfl rfl rfl rfl ?_
  exact kk _ _ _ hwf (rc_pm hP.1 hQ3) hQ3.1 (by omega) (by omega)
set_option maxHeartbeats 2000000 in
set_option maxRecDepth 20000 in
theorem law_18 {G : Gd} {hp : Method → Code → Prop} {kf : Nat} {Z : Zt} {k b L i : Nat} {xs : Nat → Int32} {A : Ab} {M : Mm} (hG : Gok G) (hN : Nc G) (hS : Sx G b L xs) (hi : i + 10 ≤ L) (hL : L ≤ 5120) (hk : k + 1 ≤ kf) (hwf : wfA A) (hR : RC A M) (hM : RM A M) (kk : Kn G hp kf Z k b i) : Fb G mL_18 hp 70 kf Z k 1441 (lv5 G b i) [] (HqE G M) := by
  obtain ⟨x, hop⟩ := op_kind (A := A) hG (xs (i + 1))
  refine b_aload_n rfl rfl rfl ?_
  refine b_aload_n rfl rfl rfl ?_
  refine b_iload rfl rfl rfl ?_
  refine b_iconstN (b := 1) rfl rfl ?_
  refine b_iaddN rfl rfl ?_
  refine b_scr hS rfl rfl (by omega) (by omega) ?_
  refine b_callVe (d2 := 64) (hop.1 M hR) rfl rfl v_10_140 rfl rfl (by decide) rfl rfl (Nat.le_of_ble_eq_true rfl) (by decide) (by omega) (fun M2 hP => ?_)
  refine b_aload_n rfl rfl rfl ?_
  refine b_aload_n rfl rfl rfl ?_
  refine b_iload rfl rfl rfl ?_
  refine b_iconstN (b := 1) rfl rfl ?_
  refine b_iaddN rfl rfl ?_
  refine b_scr hS rfl rfl (by omega) (by omega) ?_
  refine b_callVe (d2 := 16) (hop.2 M2 (rm_pc hM hP)) rfl rfl v_10_143 rfl rfl (by decide) rfl rfl (Nat.le_of_ble_eq_true rfl) (by decide) (by omega) (fun M3 hQ3 => ?_)
  refine b_icmp_eq rfl rfl (fun _ => ?_) (fun h => absurd rfl h)
  refine b_tab (y1 := mL_h) okL_h rfl rfl rfl rfl ?_
  exact kk _ _ _ hwf (rc_pm hP.1 hQ3) hQ3.1 (by omega) (by omega)
set_option maxHeartbeats 2000000 in
set_option maxRecDepth 20000 in
theorem law_19 {G : Gd} {hp : Method → Code → Prop} {kf : Nat} {Z : Zt} {k b L i : Nat} {xs : Nat → Int32} {A : Ab} {M : Mm} (hG : Gok G) (hN : Nc G) (hS : Sx G b L xs) (hi : i + 10 ≤ L) (hL : L ≤ 5120) (hk : k + 1 ≤ kf) (hwf : wfA A) (hR : RC A M) (hM : RM A M) (kk : Kn G hp kf Z k b i) : Fb G mL_19 hp 70 kf Z k 1466 (lv5 G b i) [] (HqE G M) := by
  obtain ⟨x, hop⟩ := op_count (A := A) hG (xs (i + 1))
  refine b_aload_n rfl rfl rfl ?_
  refine b_aload_n rfl rfl rfl ?_
  refine b_iload rfl rfl rfl ?_
  refine b_iconstN (b := 1) rfl rfl ?_
  refine b_iaddN rfl rfl ?_
  refine b_scr hS rfl rfl (by omega) (by omega) ?_
  refine b_callVe (d2 := 64) (hop.1 M hR) rfl rfl v_10_144 rfl rfl (by decide) rfl rfl (Nat.le_of_ble_eq_true rfl) (by decide) (by omega) (fun M2 hP => ?_)
  refine b_aload_n rfl rfl rfl ?_
  refine b_aload_n rfl rfl rfl ?_
  refine b_iload rfl rfl rfl ?_
  refine b_iconstN (b := 1) rfl rfl ?_
  refine b_iaddN rfl rfl ?_
  refine b_scr hS rfl rfl (by omega) (by omega) ?_
  refine b_callVe (d2 := 16) (hop.2 M2 (rm_pc hM hP)) rfl rfl v_10_147 rfl rfl (by decide) rfl rfl (Nat.le_of_ble_eq_true rfl) (by decide) (by omega) (fun M3 hQ3 => ?_)
  refine b_icmp_eq rfl rfl (fun _ => ?_) (fun h => absurd rfl h)
  refine b_tab (y1 := mL_h) okL_h rfl rfl rfl rfl ?_
  exact kk _ _ _ hwf (rc_pm hP.1 hQ3) hQ3.1 (by omega) (by omega)
set_option maxHeartbeats 2000000 in
set_option maxRecDepth 20000 in
theorem law_20 {G : Gd} {hp : Method → Code → Prop} {kf : Nat} {Z : Zt} {k b L i : Nat} {xs : Nat → Int32} {A : Ab} {M : Mm} (hG : Gok G) (hN : Nc G) (hS : Sx G b L xs) (hi : i + 10 ≤ L) (hL : L ≤ 5120) (hk : k + 1 ≤ kf) (hwf : wfA A) (hR : RC A M) (hM : RM A M) (kk : Kn G hp kf Z k b i) : Fb G mL_20 hp 70 kf Z k 1491 (lv5 G b i) [] (HqE G M) := by
  obtain ⟨x, hop⟩ := op_item (A := A) hG hwf (xs (i + 1)) (xs (i + 2))
  refine b_aload_n rfl rfl rfl ?_
  refine b_aload_n rfl rfl rfl ?_
  refine b_iload rfl rfl rfl ?_
  refine b_iconstN (b := 1) rfl rfl ?_
  refine b_iaddN rfl rfl ?_
  refine b_scr hS rfl rfl (by omega) (by omega) ?_
  refine b_aload_n rfl rfl rfl ?_
  refine b_iload rfl rfl rfl ?_
  refine b_iconstN (b := 2) rfl rfl ?_
  refine b_iaddN rfl rfl ?_
  refine b_scr hS rfl rfl (by omega) (by omega) ?_
  refine b_callVe (d2 := 64) (hop.1 M hR) rfl rfl v_10_148 rfl rfl (by decide) rfl rfl (Nat.le_of_ble_eq_true rfl) (by decide) (by omega) (fun M2 hP => ?_)
  refine b_aload_n rfl rfl rfl ?_
  refine b_aload_n rfl rfl rfl ?_
  refine b_iload rfl rfl rfl ?_
  refine b_iconstN (b := 1) rfl rfl ?_
  refine b_iaddN rfl rfl ?_
  refine b_scr hS rfl rfl (by omega) (by omega) ?_
  refine b_aload_n rfl rfl rfl ?_
  refine b_iload rfl rfl rfl ?_
  refine b_iconstN (b := 2) rfl rfl ?_
  refine b_iaddN rfl rfl ?_
  refine b_scr hS rfl rfl (by omega) (by omega) ?_
  refine b_callVe (d2 := 16) (hop.2 M2 (rm_pc hM hP)) rfl rfl v_10_152 rfl rfl (by decide) rfl rfl (Nat.le_of_ble_eq_true rfl) (by decide) (by omega) (fun M3 hQ3 => ?_)
  refine b_lc_eq rfl rfl rfl rfl (fun _ => ?_) (fun h => absurd rfl h)
  refine b_tab (y1 := mL_h) okL_h rfl rfl rfl rfl ?_
  exact kk _ _ _ hwf (rc_pm hP.1 hQ3) hQ3.1 (by omega) (by omega)
set_option maxHeartbeats 2000000 in
set_option maxRecDepth 20000 in
theorem law_21 {G : Gd} {hp : Method → Code → Prop} {kf : Nat} {Z : Zt} {k b L i : Nat} {xs : Nat → Int32} {A : Ab} {M : Mm} (hG : Gok G) (hN : Nc G) (hS : Sx G b L xs) (hi : i + 10 ≤ L) (hL : L ≤ 5120) (hk : k + 1 ≤ kf) (hwf : wfA A) (hR : RC A M) (hM : RM A M) (kk : Kn G hp kf Z k b i) : Fb G mL_21 hp 70 kf Z k 1529 (lv5 G b i) [] (HqE G M) := by
  obtain ⟨x, hop⟩ := op_pairs (A := A) hG (xs (i + 1))
  refine b_aload_n rfl rfl rfl ?_
  refine b_aload_n rfl rfl rfl ?_
  refine b_iload rfl rfl rfl ?_
  refine b_iconstN (b := 1) rfl rfl ?_
  refine b_iaddN rfl rfl ?_
  refine b_scr hS rfl rfl (by omega) (by omega) ?_
  refine b_callVe (d2 := 64) (hop.1 M hR) rfl rfl v_10_153 rfl rfl (by decide) rfl rfl (Nat.le_of_ble_eq_true rfl) (by decide) (by omega) (fun M2 hP => ?_)
  refine b_aload_n rfl rfl rfl ?_
  refine b_aload_n rfl rfl rfl ?_
  refine b_iload rfl rfl rfl ?_
  refine b_iconstN (b := 1) rfl rfl ?_
  refine b_iaddN rfl rfl ?_
  refine b_scr hS rfl rfl (by omega) (by omega) ?_
  refine b_callVe (d2 := 16) (hop.2 M2 (rm_pc hM hP)) rfl rfl v_10_156 rfl rfl (by decide) rfl rfl (Nat.le_of_ble_eq_true rfl) (by decide) (by omega) (fun M3 hQ3 => ?_)
  refine b_icmp_eq rfl rfl (fun _ => ?_) (fun h => absurd rfl h)
  refine b_tab (y1 := mL_h) okL_h rfl rfl rfl rfl ?_
  exact kk _ _ _ hwf (rc_pm hP.1 hQ3) hQ3.1 (by omega) (by omega)
set_option maxHeartbeats 2000000 in
set_option maxRecDepth 20000 in
theorem law_22 {G : Gd} {hp : Method → Code → Prop} {kf : Nat} {Z : Zt} {k b L i : Nat} {xs : Nat → Int32} {A : Ab} {M : Mm} (hG : Gok G) (hN : Nc G) (hS : Sx G b L xs) (hi : i + 10 ≤ L) (hL : L ≤ 5120) (hk : k + 1 ≤ kf) (hwf : wfA A) (hR : RC A M) (hM : RM A M) (kk : Kn G hp kf Z k b i) : Fb G mL_22 hp 70 kf Z k 1554 (lv5 G b i) [] (HqE G M) := by
  by_cases hz : xs (i + 3) = 0
  · have hop := op_pair (A := A) hG (xs (i + 1)) (xs (i + 2)) False
    rw [bI_f (by simp)] at hop
    obtain ⟨x, hop⟩ := hop
    refine b_aload_n rfl rfl rfl ?_
    refine b_aload_n rfl rfl rfl ?_
    refine b_iload rfl rfl rfl ?_
    refine b_iconstN (b := 1) rfl rfl ?_
    refine b_iaddN rfl rfl ?_
    refine b_scr hS rfl rfl (by omega) (by omega) ?_
    refine b_aload_n rfl rfl rfl ?_
    refine b_iload rfl rfl rfl ?_
    refine b_iconstN (b := 2) rfl rfl ?_
    refine b_iaddN rfl rfl ?_
    refine b_scr hS rfl rfl (by omega) (by omega) ?_
    refine b_aload_n rfl rfl rfl ?_
    refine b_iload rfl rfl rfl ?_
    refine b_iconstN (b := 3) rfl rfl ?_
    refine b_iaddN rfl rfl ?_
    refine b_scr hS rfl rfl (by omega) (by omega) ?_
    refine b_if_eq rfl rfl (fun _ => ?_) (fun h => absurd hz h)
    refine b_iconstN (b := 0) rfl rfl ?_
    refine b_callVe (d2 := 64) (hop.1 M hR) rfl rfl v_10_157 rfl rfl (by decide) rfl rfl (Nat.le_of_ble_eq_true rfl) (by decide) (by omega) (fun M2 hP => ?_)
    refine b_aload_n rfl rfl rfl ?_
    refine b_aload_n rfl rfl rfl ?_
    refine b_iload rfl rfl rfl ?_
    refine b_iconstN (b := 1) rfl rfl ?_
    refine b_iaddN rfl rfl ?_
    refine b_scr hS rfl rfl (by omega) (by omega) ?_
    refine b_aload_n rfl rfl rfl ?_
    refine b_iload rfl rfl rfl ?_
    refine b_iconstN (b := 2) rfl rfl ?_
    refine b_iaddN rfl rfl ?_
    refine b_scr hS rfl rfl (by omega) (by omega) ?_
    refine b_aload_n rfl rfl rfl ?_
    refine b_iload rfl rfl rfl ?_
    refine b_iconstN (b := 3) rfl rfl ?_
    refine b_iaddN rfl rfl ?_
    refine b_scr hS rfl rfl (by omega) (by omega) ?_
    refine b_if_eq rfl rfl (fun _ => ?_) (fun h => absurd hz h)
    refine b_iconstN (b := 0) rfl rfl ?_
    refine b_callVe (d2 := 16) (hop.2 M2 (rm_pc hM hP)) rfl rfl v_10_161 rfl rfl (by decide) rfl rfl (Nat.le_of_ble_eq_true rfl) (by decide) (by omega) (fun M3 hQ3 => ?_)
    refine b_lc_eq rfl rfl rfl rfl (fun _ => ?_) (fun h => absurd rfl h)
    refine b_tab (y1 := mL_h) okL_h rfl rfl rfl rfl ?_
    exact kk _ _ _ hwf (rc_pm hP.1 hQ3) hQ3.1 (by omega) (by omega)
  · have hop := op_pair (A := A) hG (xs (i + 1)) (xs (i + 2)) True
    rw [bI_t (by simp)] at hop
    obtain ⟨x, hop⟩ := hop
    refine b_aload_n rfl rfl rfl ?_
    refine b_aload_n rfl rfl rfl ?_
    refine b_iload rfl rfl rfl ?_
    refine b_iconstN (b := 1) rfl rfl ?_
    refine b_iaddN rfl rfl ?_
    refine b_scr hS rfl rfl (by omega) (by omega) ?_
    refine b_aload_n rfl rfl rfl ?_
    refine b_iload rfl rfl rfl ?_
    refine b_iconstN (b := 2) rfl rfl ?_
    refine b_iaddN rfl rfl ?_
    refine b_scr hS rfl rfl (by omega) (by omega) ?_
    refine b_aload_n rfl rfl rfl ?_
    refine b_iload rfl rfl rfl ?_
    refine b_iconstN (b := 3) rfl rfl ?_
    refine b_iaddN rfl rfl ?_
    refine b_scr hS rfl rfl (by omega) (by omega) ?_
    refine b_if_eq rfl rfl (fun h => absurd h hz) (fun _ => ?_)
    refine b_iconstN (b := 1) rfl rfl ?_
    refine b_goto rfl rfl ?_
    refine b_callVe (d2 := 64) (hop.1 M hR) rfl rfl v_10_157 rfl rfl (by decide) rfl rfl (Nat.le_of_ble_eq_true rfl) (by decide) (by omega) (fun M2 hP => ?_)
    refine b_aload_n rfl rfl rfl ?_
    refine b_aload_n rfl rfl rfl ?_
    refine b_iload rfl rfl rfl ?_
    refine b_iconstN (b := 1) rfl rfl ?_
    refine b_iaddN rfl rfl ?_
    refine b_scr hS rfl rfl (by omega) (by omega) ?_
    refine b_aload_n rfl rfl rfl ?_
    refine b_iload rfl rfl rfl ?_
    refine b_iconstN (b := 2) rfl rfl ?_
    refine b_iaddN rfl rfl ?_
    refine b_scr hS rfl rfl (by omega) (by omega) ?_
    refine b_aload_n rfl rfl rfl ?_
    refine b_iload rfl rfl rfl ?_
    refine b_iconstN (b := 3) rfl rfl ?_
    refine b_iaddN rfl rfl ?_
    refine b_scr hS rfl rfl (by omega) (by omega) ?_
    refine b_if_eq rfl rfl (fun h => absurd h hz) (fun _ => ?_)
    refine b_iconstN (b := 1) rfl rfl ?_
    refine b_goto rfl rfl ?_
    refine b_callVe (d2 := 16) (hop.2 M2 (rm_pc hM hP)) rfl rfl v_10_161 rfl rfl (by decide) rfl rfl (Nat.le_of_ble_eq_true rfl) (by decide) (by omega) (fun M3 hQ3 => ?_)
    refine b_lc_eq rfl rfl rfl rfl (fun _ => ?_) (fun h => absurd rfl h)
    refine b_tab (y1 := mL_h) okL_h rfl rfl rfl rfl ?_
    exact kk _ _ _ hwf (rc_pm hP.1 hQ3) hQ3.1 (by omega) (by omega)
set_option maxHeartbeats 2000000 in
set_option maxRecDepth 20000 in
theorem law_23 {G : Gd} {hp : Method → Code → Prop} {kf : Nat} {Z : Zt} {k b L i : Nat} {xs : Nat → Int32} {A : Ab} {M : Mm} (hG : Gok G) (hN : Nc G) (hS : Sx G b L xs) (hi : i + 10 ≤ L) (hL : L ≤ 5120) (hk : k + 1 ≤ kf) (hwf : wfA A) (hR : RC A M) (hM : RM A M) (kk : Kn G hp kf Z k b i) : Fb G mL_23 hp 70 kf Z k 1620 (lv5 G b i) [] (HqE G M) := by
  obtain ⟨x, hop⟩ := op_traitsOf (A := A) hG (xs (i + 1))
  refine b_aload_n rfl rfl rfl ?_
  refine b_aload_n rfl rfl rfl ?_
  refine b_iload rfl rfl rfl ?_
  refine b_iconstN (b := 1) rfl rfl ?_
  refine b_iaddN rfl rfl ?_
  refine b_scr hS rfl rfl (by omega) (by omega) ?_
  refine b_callVe (d2 := 64) (hop.1 M hR) rfl rfl v_10_162 rfl rfl (by decide) rfl rfl (Nat.le_of_ble_eq_true rfl) (by decide) (by omega) (fun M2 hP => ?_)
  refine b_aload_n rfl rfl rfl ?_
  refine b_aload_n rfl rfl rfl ?_
  refine b_iload rfl rfl rfl ?_
  refine b_iconstN (b := 1) rfl rfl ?_
  refine b_iaddN rfl rfl ?_
  refine b_scr hS rfl rfl (by omega) (by omega) ?_
  refine b_callVe (d2 := 16) (hop.2 M2 (rm_pc hM hP)) rfl rfl v_10_165 rfl rfl (by decide) rfl rfl (Nat.le_of_ble_eq_true rfl) (by decide) (by omega) (fun M3 hQ3 => ?_)
  refine b_icmp_eq rfl rfl (fun _ => ?_) (fun h => absurd rfl h)
  refine b_tab (y1 := mL_h) okL_h rfl rfl rfl rfl ?_
  exact kk _ _ _ hwf (rc_pm hP.1 hQ3) hQ3.1 (by omega) (by omega)
set_option maxHeartbeats 2000000 in
set_option maxRecDepth 20000 in
theorem law_24 {G : Gd} {hp : Method → Code → Prop} {kf : Nat} {Z : Zt} {k b L i : Nat} {xs : Nat → Int32} {A : Ab} {M : Mm} (hG : Gok G) (hN : Nc G) (hS : Sx G b L xs) (hi : i + 10 ≤ L) (hL : L ≤ 5120) (hk : k + 1 ≤ kf) (hwf : wfA A) (hR : RC A M) (hM : RM A M) (kk : Kn G hp kf Z k b i) : Fb G mL_24 hp 70 kf Z k 1645 (lv5 G b i) [] (HqE G M) := by
  obtain ⟨x, hop⟩ := op_bits (A := A) hG (xs (i + 1))
  refine b_aload_n rfl rfl rfl ?_
  refine b_aload_n rfl rfl rfl ?_
  refine b_iload rfl rfl rfl ?_
  refine b_iconstN (b := 1) rfl rfl ?_
  refine b_iaddN rfl rfl ?_
  refine b_scr hS rfl rfl (by omega) (by omega) ?_
  refine b_callVe (d2 := 64) (hop.1 M hR) rfl rfl v_10_166 rfl rfl (by decide) rfl rfl (Nat.le_of_ble_eq_true rfl) (by decide) (by omega) (fun M2 hP => ?_)
  refine b_aload_n rfl rfl rfl ?_
  refine b_aload_n rfl rfl rfl ?_
  refine b_iload rfl rfl rfl ?_
  refine b_iconstN (b := 1) rfl rfl ?_
  refine b_iaddN rfl rfl ?_
  refine b_scr hS rfl rfl (by omega) (by omega) ?_
  refine b_callVe (d2 := 16) (hop.2 M2 (rm_pc hM hP)) rfl rfl v_10_169 rfl rfl (by decide) rfl rfl (Nat.le_of_ble_eq_true rfl) (by decide) (by omega) (fun M3 hQ3 => ?_)
  refine b_lc_eq rfl rfl rfl rfl (fun _ => ?_) (fun h => absurd rfl h)
  refine b_tab (y1 := mL_h) okL_h rfl rfl rfl rfl ?_
  exact kk _ _ _ hwf (rc_pm hP.1 hQ3) hQ3.1 (by omega) (by omega)
set_option maxHeartbeats 2000000 in
set_option maxRecDepth 20000 in
theorem law_25 {G : Gd} {hp : Method → Code → Prop} {kf : Nat} {Z : Zt} {k b L i : Nat} {xs : Nat → Int32} {A : Ab} {M : Mm} (hG : Gok G) (hN : Nc G) (hS : Sx G b L xs) (hi : i + 10 ≤ L) (hL : L ≤ 5120) (hk : k + 1 ≤ kf) (hwf : wfA A) (hR : RC A M) (hM : RM A M) (kk : Kn G hp kf Z k b i) : Fb G mL_25 hp 70 kf Z k 1671 (lv5 G b i) [] (HqE G M) := by
  obtain ⟨x, hop⟩ := op_same (A := A) hG hwf (lg2 (xs (i + 1)) (xs (i + 2))) (lg2 (xs (i + 3)) (xs (i + 4)))
  refine b_aload_n rfl rfl rfl ?_
  refine b_aload_n rfl rfl rfl ?_
  refine b_iload rfl rfl rfl ?_
  refine b_iconstN (b := 1) rfl rfl ?_
  refine b_iaddN rfl rfl ?_
  refine b_scr hS rfl rfl (by omega) (by omega) ?_
  refine b_i2l rfl rfl ?_
  refine b_bipush (v := nI 32) rfl rfl (by decide +kernel) ?_
  refine b_lshl rfl rfl ?_
  refine b_aload_n rfl rfl rfl ?_
  refine b_iload rfl rfl rfl ?_
  refine b_iconstN (b := 2) rfl rfl ?_
  refine b_iaddN rfl rfl ?_
  refine b_scr hS rfl rfl (by omega) (by omega) ?_
  refine b_i2l rfl rfl ?_
  refine b_ldc2 rfl rfl k_10_59 ?_
  refine b_land rfl rfl ?_
  refine b_lor rfl rfl ?_
  refine b_aload_n rfl rfl rfl ?_
  refine b_iload rfl rfl rfl ?_
  refine b_iconstN (b := 3) rfl rfl ?_
  refine b_iaddN rfl rfl ?_
  refine b_scr hS rfl rfl (by omega) (by omega) ?_
  refine b_i2l rfl rfl ?_
  refine b_bipush (v := nI 32) rfl rfl (by decide +kernel) ?_
  refine b_lshl rfl rfl ?_
  refine b_aload_n rfl rfl rfl ?_
  refine b_iload rfl rfl rfl ?_
  refine b_iconstN (b := 4) rfl rfl ?_
  refine b_iaddN rfl rfl ?_
  refine b_scr hS rfl rfl (by omega) (by omega) ?_
  refine b_i2l rfl rfl ?_
  refine b_ldc2 rfl rfl k_10_59 ?_
  refine b_land rfl rfl ?_
  refine b_lor rfl rfl ?_
  refine b_callVe (d2 := 64) (hop.1 M hR) rfl rfl v_10_170 rfl rfl (by decide) rfl rfl (Nat.le_of_ble_eq_true rfl) (by decide) (by omega) (fun M2 hP => ?_)
  refine b_aload_n rfl rfl rfl ?_
  refine b_aload_n rfl rfl rfl ?_
  refine b_iload rfl rfl rfl ?_
  refine b_iconstN (b := 1) rfl rfl ?_
  refine b_iaddN rfl rfl ?_
  refine b_scr hS rfl rfl (by omega) (by omega) ?_
  refine b_i2l rfl rfl ?_
  refine b_bipush (v := nI 32) rfl rfl (by decide +kernel) ?_
  refine b_lshl rfl rfl ?_
  refine b_aload_n rfl rfl rfl ?_
  refine b_iload rfl rfl rfl ?_
  refine b_iconstN (b := 2) rfl rfl ?_
  refine b_iaddN rfl rfl ?_
  refine b_scr hS rfl rfl (by omega) (by omega) ?_
  refine b_i2l rfl rfl ?_
  refine b_ldc2 rfl rfl k_10_59 ?_
  refine b_land rfl rfl ?_
  refine b_lor rfl rfl ?_
  refine b_aload_n rfl rfl rfl ?_
  refine b_iload rfl rfl rfl ?_
  refine b_iconstN (b := 3) rfl rfl ?_
  refine b_iaddN rfl rfl ?_
  refine b_scr hS rfl rfl (by omega) (by omega) ?_
  refine b_i2l rfl rfl ?_
  refine b_bipush (v := nI 32) rfl rfl (by decide +kernel) ?_
  refine b_lshl rfl rfl ?_
  refine b_aload_n rfl rfl rfl ?_
  refine b_iload rfl rfl rfl ?_
  refine b_iconstN (b := 4) rfl rfl ?_
  refine b_iaddN rfl rfl ?_
  refine b_scr hS rfl rfl (by omega) (by omega) ?_
  refine b_i2l rfl rfl ?_
  refine b_ldc2 rfl rfl k_10_59 ?_
  refine b_land rfl rfl ?_
  refine b_lor rfl rfl ?_
  refine b_callVe (d2 := 16) (hop.2 M2 (rm_pc hM hP)) rfl rfl v_10_174 rfl rfl (by decide) rfl rfl (Nat.le_of_ble_eq_true rfl) (by decide) (by omega) (fun M3 hQ3 => ?_)
  refine b_icmp_eq rfl rfl (fun _ => ?_) (fun h => absurd rfl h)
  refine b_tab (y1 := mL_h) okL_h rfl rfl rfl rfl ?_
  exact kk _ _ _ hwf (rc_pm hP.1 hQ3) hQ3.1 (by omega) (by omega)
set_option maxHeartbeats 2000000 in
set_option maxRecDepth 20000 in
theorem law_26 {G : Gd} {hp : Method → Code → Prop} {kf : Nat} {Z : Zt} {k b L i : Nat} {xs : Nat → Int32} {A : Ab} {M : Mm} (hG : Gok G) (hN : Nc G) (hS : Sx G b L xs) (hi : i + 10 ≤ L) (hL : L ≤ 5120) (hk : k + 1 ≤ kf) (hwf : wfA A) (hR : RC A M) (hM : RM A M) (kk : Kn G hp kf Z k b i) : Fb G mL_26 hp 70 kf Z k 1772 (lv5 G b i) [] (HqE G M) := by
  obtain ⟨hwf', hop⟩ := op_clear hG hwf
  refine b_aload_n rfl rfl rfl ?_
  refine b_callVe (d2 := 64) (hop.1 M hR) rfl rfl v_10_175 rfl rfl (by decide) rfl rfl (Nat.le_of_ble_eq_true rfl) (by decide) (by omega) (fun M2 hP => ?_)
  refine b_aload_n rfl rfl rfl ?_
  refine b_callVe (d2 := 16) (hop.2 M2 (rm_pc hM hP)) rfl rfl v_10_178 rfl rfl (by decide) rfl rfl (Nat.le_of_ble_eq_true rfl) (by decide) (by omega) (fun M3 hQ3 => ?_)
  refine b_goto rfl rfl ?_
  refine b_tab (y1 := mL_h) okL_h rfl rfl rfl rfl ?_
  exact kk _ _ _ hwf' (rc_pm hP.1 hQ3) hQ3.1 (by omega) (by omega)
