theorem lxf_n {f : Nat → Int64} {e : Int64} : ∀ (n k : Nat) (r : Option Nat), lxf f e r k n = none ↔ r = none ∧ ∀ j, k ≤ j → j < k + n → ¬ f j = e
  | 0, k, r => ⟨fun h => ⟨h, fun j h1 h2 => absurd h1 (by omega)⟩, fun h => h.1⟩
  | n + 1, k, r => by
    rw [lxf_s, lxf_n n (k + 1)]
    by_cases hf : f k = e
    · rw [if_pos hf]
      exact ⟨(fun h => by cases h.1), fun h => absurd hf (h.2 k (Nat.le_refl _) (by omega))⟩
    · rw [if_neg hf]
      refine ⟨fun h => ⟨h.1, fun j h1 h2 => ?_⟩, fun h => ⟨h.1, fun j h1 h2 => h.2 j (by omega) (by omega)⟩⟩
      by_cases hj : j = k
      · rw [hj]; exact hf
      · exact h.2 j (by omega) (by omega)
theorem lxf_lt {f : Nat → Int64} {e : Int64} {p : Nat} : ∀ (n k : Nat) (r : Option Nat), lxf f e r k n = some p → r = some p ∨ p < k + n
  | 0, k, r, h => Or.inl h
  | n + 1, k, r, h => by
    rw [lxf_s] at h
    rcases lxf_lt n (k + 1) _ h with h1 | h1
    · by_cases hf : f k = e
      · rw [if_pos hf] at h1; cases h1; exact Or.inr (by omega)
      · rw [if_neg hf] at h1; exact Or.inl h1
    · exact Or.inr (by omega)
theorem ixv_m1 {f : Nat → Int64} {e : Int64} {l : List Int64} (h : LI f l) (hl : l.length ≤ 6) : ixv (lxf f e none 0 l.length) = -1 ↔ ¬ e ∈ l := by
  cases hr : lxf f e none 0 l.length with
  | none =>
    refine ⟨fun _ hm => ?_, fun _ => rfl⟩
    obtain ⟨j, hj, he⟩ := (LI_ex h).mpr hm
    exact ((lxf_n _ _ _).mp hr).2 j (Nat.zero_le _) (by omega) he
  | some p =>
    have hp : p < l.length := by
      rcases lxf_lt _ _ _ hr with z | z
      · cases z
      · omega
    refine ⟨fun z => absurd z (nI_ne1 (by omega)), fun hm => ?_⟩
    have hn : lxf f e none 0 l.length = none := (lxf_n _ _ _).mpr ⟨rfl, fun j _ h2 he => hm ((LI_ex h).mp ⟨j, by omega, he⟩)⟩
    rw [hn] at hr; cases hr
def Stk (h i a b : Nat) (ov : Prop) (M : Mm) : Prop := M.1 (59, 0) h = nI i ∧ M.1 (60, 0) h = nI a ∧ M.1 (61, 0) h = nI b ∧ M.1 (62, 0) h = bI ov
theorem Stk.eq {on : Ky → Nat → Prop} {h i a b : Nat} {ov : Prop} {M M1 : Mm} (z : Stk h i a b ov M) (he : EqF on M M1) (ho : ∀ r, 59 ≤ r → r ≤ 62 → on (r, 0) h) : Stk h i a b ov M1 :=
  ⟨(he _ _ (ho 59 (by decide) (by decide))).1.trans z.1, (he _ _ (ho 60 (by decide) (by decide))).1.trans z.2.1, (he _ _ (ho 61 (by decide) (by decide))).1.trans z.2.2.1, (he _ _ (ho 62 (by decide) (by decide))).1.trans z.2.2.2⟩
/-- what reading leaves that also fills the thing i -/
def onMDi (h : Nat) (s : RS) (i : Nat) (k : Ky) (j : Nat) : Prop := onMD h s k j ∧ ¬ ((46 ≤ k.1 ∧ k.1 ≤ 49 ∨ k.1 = 51) ∧ j = i) ∧ ¬ (k.1 = 50 ∧ 8 * i ≤ j ∧ j < 8 * i + 8) ∧ ¬ ((k.1 = 52 ∨ k.1 = 53) ∧ 6 * i ≤ j ∧ j < 6 * i + 6)
def PIt (row : List Nat) (al : List Int64) (h : Nat) (s0 : RS) (i k c : Nat) (tr : Int32) (L Y V : List Int64) (ov : Prop) (q : Int64 × Option Pd) (s' : RS) (M' : Mm) : Prop := RdM row al s' M' ∧ Pre s0 s' ∧ Stk h i L.length Y.length ov M' ∧ MPt k c tr L Y V i M' ∧ match q.2 with
  | none => M'.1 (40, 0) 28 = nI (h + 1) ∧ CmM (pH s0).length s' M'
  | some p => Pnd (h + 1) s0 s' p M'
theorem pit_gen {row : List Nat} {al : List Int64} {h i k c : Nat} {s s0 s1 : RS} {q : Int64 × Option Pd} {M1 M' : Mm} {tr : Int32} {L Y V : List Int64} {ov : Prop} (hq : PHd row al (h + 1) s q s1 M1) (hp : Pre s0 s) (he : (pH s).length = (pH s0).length) (hS : EqF (fun k j => ¬ (k.1 = 50 ∧ 8 * i ≤ j ∧ j < 8 * i + 8) ∧ ¬ (k.1 = 53 ∧ 6 * i ≤ j ∧ j < 6 * i + 6)) M1 M') (hil : i < (pH s0).length) (hSt : Stk h i L.length Y.length ov M1) (hpt : MPt k c tr L Y V i M') : PIt row al h s0 i k c tr L Y V ov q s1 M' := by
  obtain ⟨z1, z2, z3, z4⟩ := hq
  refine ⟨z1.eqO (hS.sub fun k j z => by unfold onO at z; omega), hp.tr z3, hSt.eq hS (fun r h1 h2 => by simp; omega), hpt, ?_⟩
  obtain ⟨v, p⟩ := q
  cases p with
  | none =>
    refine ⟨(hS _ _ (by simp)).1.trans z4.1, fun j x hj hx => ?_⟩
    exact (z4.2 j x (by omega) hx).eqM hS (fun r h1 => by simp; omega) (fun j' _ => by simp; omega) (fun r h1 j' _ => by simp; omega)
  | some p =>
    obtain ⟨p1, p2, p3, p4, p5, p6, p7, p8, p9⟩ := z4
    exact ⟨p1.trans he, p2, p3, p4, p5, p6, p7, p8.eqM hS (fun r h1 => by simp; omega) (fun j hj => absurd hj (Nat.not_lt_zero j)) (fun r h1 j hj => by rcases hj with hj | hj <;> exact absurd hj (Nat.not_lt_zero j)), (hS _ _ (by simp)).1.trans p9.1, (hS _ _ (by simp)).1.trans p9.2.1, (hS _ _ (by simp)).1.trans p9.2.2.1, (hS _ _ (by simp)).1.trans p9.2.2.2.1, (hS _ _ (by simp)).1.trans p9.2.2.2.2⟩
theorem MPt.eqD {h : Nat} {s : RS} {k c i : Nat} {tr : Int32} {L Y V : List Int64} {M M1 : Mm} (hpt : MPt k c tr L Y V i M) (he : EqF (onMD h s) M M1) (hil : i < (pH s).length) (hL : L.length ≤ 8) (hY : Y.length ≤ 6) (hV : V.length ≤ 6) : MPt k c tr L Y V i M1 := by
  refine hpt.eqM he (fun r h1 => ?_) (fun j hj => ?_) (fun r h1 j hj => ?_)
  · unfold onMD; rcases h1 with rfl | rfl | rfl | rfl <;> simp <;> omega
  · unfold onMD; simp; omega
  · unfold onMD; rcases h1 with rfl | rfl <;> simp <;> omega
theorem MPt.aL {k c i : Nat} {tr : Int32} {L Y V : List Int64} {v : Int64} {M : Mm} (h : MPt k c tr L Y V i M) : MPt k c tr (L ++ [v]) Y V i (ul M (50, 0) (8 * i + L.length) v) := by
  obtain ⟨a, b, c, e, f, g, p⟩ := h
  have hS : EqF (fun k _ => k.1 ≠ 50) M (ul M (50, 0) (8 * i + L.length) v) := EqF.rf.ul (by simp)
  exact ⟨(hS _ _ (by simp)).1.trans a, (hS _ _ (by simp)).1.trans b, (hS _ _ (by simp)).1.trans c, (hS _ _ (by simp)).1.trans e, f.to fun k => (hS _ _ (by simp)).2, g.to fun k => (hS _ _ (by simp)).2, p.push (fun k hk => by simp [ul]; omega) (by simp [ul])⟩
theorem MPt.aV {k c i : Nat} {tr : Int32} {L Y V : List Int64} {v : Int64} {M : Mm} (h : MPt k c tr L Y V i M) : MPt k c tr L Y (V ++ [v]) i (ul M (53, 0) (6 * i + V.length) v) := by
  obtain ⟨a, b, c, e, f, g, p⟩ := h
  have hS : EqF (fun k _ => k.1 ≠ 53) M (ul M (53, 0) (6 * i + V.length) v) := EqF.rf.ul (by simp)
  exact ⟨(hS _ _ (by simp)).1.trans a, (hS _ _ (by simp)).1.trans b, (hS _ _ (by simp)).1.trans c, (hS _ _ (by simp)).1.trans e, f.to fun k => (hS _ _ (by simp)).2, g.push (fun k hk => by simp [ul]; omega) (by simp [ul]), p.to fun k => (hS _ _ (by simp)).2⟩
theorem MPt.aK {k c i : Nat} {tr : Int32} {L Y V : List Int64} {e w : Int64} {M : Mm} {h b : Nat} (hp : MPt k c tr L Y V i M) (hV : V.length = Y.length) : MPt k c tr L (Y ++ [e]) V i (ui (ui (ul (ul M (52, 0) (6 * i + Y.length) e) (53, 0) (6 * i + Y.length) w) (51, 0) i (nI (Y.length + 1))) (61, 0) h (nI b)) := by
  obtain ⟨a1, a2, a3, a4, a5, a6, a7⟩ := hp
  have hS : EqF (fun k _ => k.1 ≠ 51 ∧ k.1 ≠ 52 ∧ k.1 ≠ 53 ∧ k.1 ≠ 61) M (ui (ui (ul (ul M (52, 0) (6 * i + Y.length) e) (53, 0) (6 * i + Y.length) w) (51, 0) i (nI (Y.length + 1))) (61, 0) h (nI b)) := (((EqF.rf.ul (by simp)).ul (by simp)).ui (by simp)).ui (by simp)
  refine ⟨(hS _ _ (by simp)).1.trans a1, (hS _ _ (by simp)).1.trans a2, (hS _ _ (by simp)).1.trans a3, by simp [ui], a5.push (fun k hk => by simp [ui, ul]; omega) (by simp [ui, ul]), fun j x hx => ?_, a7.to fun k => (hS _ _ (by simp)).2⟩
  have hj := at_lt hx
  rw [← a6 j x hx]
  simp [ui, ul]; omega
theorem MPt.eqA {k c i : Nat} {tr : Int32} {L Y V : List Int64} {M M1 : Mm} (hpt : MPt k c tr L Y V i M) (he : EqF onMA M M1) : MPt k c tr L Y V i M1 := hpt.eqM he (fun r h1 => by unfold onMA; simp; omega) (fun j _ => by simp [onMA]) (fun r h1 j _ => by unfold onMA; simp; omega)
/-- a key, and the head of its value -/
noncomputable def rpk (row : List Nat) (al : List Int64) (h : Nat) (mem Y : List Int64) (s : RS) : Nat ⊕ (Option (Int64 × (Int64 × Option Pd)) × RS) := rb (rStr row s) fun q => if q.1 = 0 then .inr (none, q.2) else if Y.length = 6 ∨ q.1 ∈ Y ∨ q.1 ∈ mem then .inl s.1 else rb (rhd row al (h + 1) q.2) fun z => .inr (some (q.1, z.1), z.2)
def PPk (row : List Nat) (al : List Int64) (h : Nat) (s0 : RS) (i k c : Nat) (tr : Int32) (L Y V : List Int64) (z : Option (Int64 × (Int64 × Option Pd))) (s' : RS) (M' : Mm) : Prop := match z with
  | none => RdM row al s' M' ∧ Pre s0 s' ∧ pH s' = pH s0 ∧ M'.1 (40, 0) 28 = nI (h + 1) ∧ Stk h i L.length Y.length True M' ∧ MPt k c tr L Y V i M'
  | some (key, q) => PIt row al h s0 i k c tr L (Y ++ [key]) (V ++ [q.1]) False q s' M' ∧ Y.length < 6
section N5
variable {G : Gd} {d : Nat} {M : Mm}
set_option maxHeartbeats 4000000 in
set_option maxRecDepth 20000 in
theorem c_roI_O (hG : Gok G) (hd : 8 ≤ d) {row : List Nat} {al : List Int64} {s0 : RS} (hw0 : RdM row al s0 M) {h i k c : Nat} {tr : Int32} {L Y V : List Int64} {ov : Prop} (ho0 : M.1 (40, 0) 28 = nI (h + 1)) (hst0 : Stk h i L.length Y.length ov M) (hh : h < 12) (hpt0 : MPt k c tr L Y V i M) (hil : i < (pH s0).length) (hc8 : c ≤ 8) (hY6 : Y.length ≤ 6) (hVY : V.length = Y.length) (hac : L.length < c) (hov : ov) (hk16 : k < 16) : CQ G mX9_readOn d [.ref (ga G (40, 0))] M (onMDi h s0 i) (fun q s' M' => PIt row al h s0 i k c tr (L ++ [q.1]) Y V ov q s' M') vNo (rhd row al (h + 1) s0) := by
  have hS0 : EqF (onMDi h s0 i) M M := EqF.rf
  have hp0 : Pre s0 s0 := Pre.rf
  have hA0 := hw0.2.1.1
  have hL6 := hw0.2.2.2.2.2.2.1
  have hi40 := hw0.2.2.2.1.2.2.1
  rw [show rhd row al (h + 1) s0 = rb (rhd row al (h + 1) s0) (fun q => .inr q) from (rb_inr _).symm]
  refine q_of hG okX9_readOn (by decide +kernel) rfl (Nat.le_of_ble_eq_true rfl) ?_
  refine x_aload_n rfl rfl rfl ?_
  refine x_getIv (v := nI (h + 1)) ho0 rfl rfl f_9_196 rfl (by decide) rfl ?_
  refine x_iconstN (b := 1) rfl rfl ?_
  refine x_isubN (a := h + 1) (b := 1) (by omega) rfl rfl ?_
  refine x_istore_n rfl rfl rfl rfl ?_
  refine x_aload_n rfl rfl rfl ?_
  refine x_getR0 rfl rfl f_9_66 rfl (by decide) rfl rfl ?_
  refine x_iload_n rfl rfl rfl ?_
  refine x_ialdv (a := h) (v := nI i) hst0.1 rfl rfl rfl (by decide) (by omega) (by decide) ?_
  refine x_istore_n rfl rfl rfl rfl ?_
  refine x_aload_n rfl rfl rfl ?_
  refine x_getR0 rfl rfl f_9_69 rfl (by decide) rfl rfl ?_
  refine x_iload_n rfl rfl rfl ?_
  refine x_ialdv (a := h) (v := nI (L.length)) hst0.2.1 rfl rfl rfl (by decide) (by omega) (by decide) ?_
  refine x_aload_n rfl rfl rfl ?_
  refine x_getR0 rfl rfl f_9_33 rfl (by decide) rfl rfl ?_
  refine x_iload_n rfl rfl rfl ?_
  refine x_ialdv (a := i) (v := nI c) hpt0.2.1 rfl rfl rfl (by decide) (by omega) (by decide) ?_
  refine x_icmpN_ge (by omega) (by omega) rfl rfl (fun hc1 => absurd hc1 (by omega)) (fun hc1 => ?_)
  refine x_iconstN (b := 1) rfl rfl ?_
  refine x_goto rfl rfl ?_
  refine x_istore_n rfl rfl rfl rfl ?_
  refine x_aload_n rfl rfl rfl ?_
  refine x_getR0 rfl rfl f_9_75 rfl (by decide) rfl rfl ?_
  refine x_iload_n rfl rfl rfl ?_
  refine x_zaldv (a := h) (v := bI (ov)) hst0.2.2.2 rfl rfl rfl (by decide) (by omega) (by decide) ?_
  refine x_ifB_ne rfl rfl (fun hc2 => ?_) (fun hc2 => absurd hov hc2)
  refine x_iconstN (b := 0) rfl rfl ?_
  refine x_istore rfl rfl rfl rfl ?_
  refine x_iload rfl rfl rfl ?_
  refine x_if_eq rfl rfl (fun _ => ?_) (fun hc3 => absurd hc3 (by decide +kernel))
  refine x_iload_n rfl rfl rfl ?_
  refine x_if_eq rfl rfl (fun hc4 => absurd hc4 (by decide +kernel)) (fun _ => ?_)
  refine x_aload_n rfl rfl rfl ?_
  refine x_getR0 rfl rfl f_9_69 rfl (by decide) rfl rfl ?_
  refine x_iload_n rfl rfl rfl ?_
  refine x_dup2 rfl rfl rfl rfl ?_
  refine x_ialdv (a := h) (v := nI (L.length)) hst0.2.1 rfl rfl rfl (by decide) (by omega) (by decide) ?_
  refine x_iconstN (b := 1) rfl rfl ?_
  refine x_iaddN (a := L.length) (b := 1) rfl rfl ?_
  refine x_iast (a := h) rfl rfl rfl (by decide) (by omega) (by decide) ?_
  refine x_aload_n rfl rfl rfl ?_
  refine q_call (d2 := 7) (c_mtakeValue hG (Nat.le_refl 7) (s0 := s0) (hw0.eqO ((EqF.rf.ui (by simp [onO])))) (h := h + 1) (by omega) (by simpa [ui] using ho0)) (hS0.ui (by unfold onMDi onMD; simp; try omega)) (fun _ _ z => onMD_pre Pre.rf (Nat.le_succ h) z.1) rfl rfl v_9_280 rfl rfl (by decide) rfl rfl (Nat.le_of_ble_eq_true rfl) (by omega) (fun b1 s1 M1 e1 hq1 hE1 hS1 => ?_) (fun f1 b1 M1 e1 hf1 hl1 hS1 => ?_)
  · have hw1 := hq1.1
    have hstx : Stk h i (L.length + 1) Y.length ov (ui M (60, 0) h (nI (L.length + 1))) := ⟨by simpa [ui] using hst0.1, by simp [ui], by simpa [ui] using hst0.2.2.1, by simpa [ui] using hst0.2.2.2⟩
    have hst1 := hstx.eq hE1 (fun r h1 h2 => by unfold onMD; simp; omega)
    have hptx : MPt k c tr L Y V i (ui M (60, 0) h (nI (L.length + 1))) := hpt0.eqM (on := fun k _ => k.1 ≠ 60) (EqF.rf.ui (by simp)) (fun r h1 => by simp; omega) (fun j _ => by simp) (fun r h1 j _ => by simp; omega)
    have hpt1 := hptx.eqD hE1 hil (by omega) hY6 (by omega)
    refine x_aload_n rfl rfl rfl ?_
    refine x_callVi (d2 := 0) (c_mgoesT hG hw1.1.2.1) rfl rfl v_9_238 rfl rfl (by decide) rfl rfl (Nat.le_of_ble_eq_true rfl) (by omega) (by omega) ?_
    refine x_if_eq rfl rfl (fun hc5 => absurd hc5 (by decide +kernel)) (fun _ => ?_)
    refine x_aload_n rfl rfl rfl ?_
    refine x_iload_n rfl rfl rfl ?_
    refine x_iconstN (b := 1) rfl rfl ?_
    refine x_callVv (d2 := 0) (c_mgiveI hG (h := h) (i := i) (a := L.length) hh (by omega) (by omega) hst1.1 hst1.2.1 hq1.2.1) rfl rfl v_9_283 rfl rfl (by decide) rfl rfl (Nat.le_of_ble_eq_true rfl) (by omega) (by omega) ?_
    refine x_goto rfl rfl ?_
    exact q_retV rfl (hS1.ul (by unfold onMDi onMD; simp; try omega)) (pit_gen hq1 Pre.rf rfl (EqF.rf.ul (by simp; try omega)) hil (by rw [List.length_append]; exact hst1) hpt1.aL) rfl rfl rfl
  · refine x_aload_n rfl rfl rfl ?_
    refine x_callVi (d2 := 0) (c_mgoesF hG (f := f1) hf1 (by omega)) rfl rfl v_9_238 rfl rfl (by decide) rfl rfl (Nat.le_of_ble_eq_true rfl) (by omega) (by omega) ?_
    refine x_if_eq rfl rfl (fun _ => ?_) (fun hc6 => absurd hc6 (by decide +kernel))
    exact q_flV (0, none) (f := f1) (rfl) hS1 hf1 (by omega) rfl rfl rfl
set_option maxHeartbeats 4000000 in
set_option maxRecDepth 20000 in
theorem c_roI_10 (hG : Gok G) (hd : 8 ≤ d) {row : List Nat} {al : List Int64} {s0 : RS} (hw0 : RdM row al s0 M) {h i k c : Nat} {tr : Int32} {L Y V : List Int64} {ov : Prop} (ho0 : M.1 (40, 0) 28 = nI (h + 1)) (hst0 : Stk h i L.length Y.length ov M) (hh : h < 12) (hpt0 : MPt k c tr L Y V i M) (hil : i < (pH s0).length) (hc8 : c ≤ 8) (hY6 : Y.length ≤ 6) (hVY : V.length = Y.length) (hac : L.length < c) (hov : ¬ ov) (hk : k = 10) : CQ G mX9_readOn d [.ref (ga G (40, 0))] M (onMDi h s0 i) (fun q s' M' => PIt row al h s0 i k c tr (L ++ [q.1]) Y V ov q s' M') vNo (rhd row al (h + 1) s0) := by
  have hS0 : EqF (onMDi h s0 i) M M := EqF.rf
  have hp0 : Pre s0 s0 := Pre.rf
  have hA0 := hw0.2.1.1
  have hL6 := hw0.2.2.2.2.2.2.1
  have hi40 := hw0.2.2.2.1.2.2.1
  subst hk
  rw [show rhd row al (h + 1) s0 = rb (rhd row al (h + 1) s0) (fun q => .inr q) from (rb_inr _).symm]
  refine q_of hG okX9_readOn (by decide +kernel) rfl (Nat.le_of_ble_eq_true rfl) ?_
  refine x_aload_n rfl rfl rfl ?_
  refine x_getIv (v := nI (h + 1)) ho0 rfl rfl f_9_196 rfl (by decide) rfl ?_
  refine x_iconstN (b := 1) rfl rfl ?_
  refine x_isubN (a := h + 1) (b := 1) (by omega) rfl rfl ?_
  refine x_istore_n rfl rfl rfl rfl ?_
  refine x_aload_n rfl rfl rfl ?_
  refine x_getR0 rfl rfl f_9_66 rfl (by decide) rfl rfl ?_
  refine x_iload_n rfl rfl rfl ?_
  refine x_ialdv (a := h) (v := nI i) hst0.1 rfl rfl rfl (by decide) (by omega) (by decide) ?_
  refine x_istore_n rfl rfl rfl rfl ?_
  refine x_aload_n rfl rfl rfl ?_
  refine x_getR0 rfl rfl f_9_69 rfl (by decide) rfl rfl ?_
  refine x_iload_n rfl rfl rfl ?_
  refine x_ialdv (a := h) (v := nI (L.length)) hst0.2.1 rfl rfl rfl (by decide) (by omega) (by decide) ?_
  refine x_aload_n rfl rfl rfl ?_
  refine x_getR0 rfl rfl f_9_33 rfl (by decide) rfl rfl ?_
  refine x_iload_n rfl rfl rfl ?_
  refine x_ialdv (a := i) (v := nI c) hpt0.2.1 rfl rfl rfl (by decide) (by omega) (by decide) ?_
  refine x_icmpN_ge (by omega) (by omega) rfl rfl (fun hc1 => absurd hc1 (by omega)) (fun hc1 => ?_)
  refine x_iconstN (b := 1) rfl rfl ?_
  refine x_goto rfl rfl ?_
  refine x_istore_n rfl rfl rfl rfl ?_
  refine x_aload_n rfl rfl rfl ?_
  refine x_getR0 rfl rfl f_9_75 rfl (by decide) rfl rfl ?_
  refine x_iload_n rfl rfl rfl ?_
  refine x_zaldv (a := h) (v := bI (ov)) hst0.2.2.2 rfl rfl rfl (by decide) (by omega) (by decide) ?_
  refine x_ifB_ne rfl rfl (fun hc2 => absurd hc2 hov) (fun hc2 => ?_)
  refine x_aload_n rfl rfl rfl ?_
  refine x_getR0 rfl rfl f_9_27 rfl (by decide) rfl rfl ?_
  refine x_iload_n rfl rfl rfl ?_
  refine x_ialdv (a := i) (v := nI 10) hpt0.1 rfl rfl rfl (by decide) (by omega) (by decide) ?_
  refine x_bipush (v := nI 9) rfl rfl (by decide +kernel) ?_
  refine x_icmpN_eq (by omega) (by omega) rfl rfl (fun hc3 => absurd hc3 (by omega)) (fun hc3 => ?_)
  refine x_iload_n rfl rfl rfl ?_
  refine x_if_ne rfl rfl (fun _ => ?_) (fun hc4 => absurd hc4 (by decide +kernel))
  refine x_iconstN (b := 0) rfl rfl ?_
  refine x_istore rfl rfl rfl rfl ?_
  refine x_iload rfl rfl rfl ?_
  refine x_if_eq rfl rfl (fun _ => ?_) (fun hc5 => absurd hc5 (by decide +kernel))
  refine x_iload_n rfl rfl rfl ?_
  refine x_if_eq rfl rfl (fun hc6 => absurd hc6 (by decide +kernel)) (fun _ => ?_)
  refine x_aload_n rfl rfl rfl ?_
  refine x_getR0 rfl rfl f_9_69 rfl (by decide) rfl rfl ?_
  refine x_iload_n rfl rfl rfl ?_
  refine x_dup2 rfl rfl rfl rfl ?_
  refine x_ialdv (a := h) (v := nI (L.length)) hst0.2.1 rfl rfl rfl (by decide) (by omega) (by decide) ?_
  refine x_iconstN (b := 1) rfl rfl ?_
  refine x_iaddN (a := L.length) (b := 1) rfl rfl ?_
  refine x_iast (a := h) rfl rfl rfl (by decide) (by omega) (by decide) ?_
  refine x_aload_n rfl rfl rfl ?_
  refine q_call (d2 := 7) (c_mtakeValue hG (Nat.le_refl 7) (s0 := s0) (hw0.eqO ((EqF.rf.ui (by simp [onO])))) (h := h + 1) (by omega) (by simpa [ui] using ho0)) (hS0.ui (by unfold onMDi onMD; simp; try omega)) (fun _ _ z => onMD_pre Pre.rf (Nat.le_succ h) z.1) rfl rfl v_9_280 rfl rfl (by decide) rfl rfl (Nat.le_of_ble_eq_true rfl) (by omega) (fun b1 s1 M1 e1 hq1 hE1 hS1 => ?_) (fun f1 b1 M1 e1 hf1 hl1 hS1 => ?_)
  · have hw1 := hq1.1
    have hstx : Stk h i (L.length + 1) Y.length ov (ui M (60, 0) h (nI (L.length + 1))) := ⟨by simpa [ui] using hst0.1, by simp [ui], by simpa [ui] using hst0.2.2.1, by simpa [ui] using hst0.2.2.2⟩
    have hst1 := hstx.eq hE1 (fun r h1 h2 => by unfold onMD; simp; omega)
    have hptx : MPt 10 c tr L Y V i (ui M (60, 0) h (nI (L.length + 1))) := hpt0.eqM (on := fun k _ => k.1 ≠ 60) (EqF.rf.ui (by simp)) (fun r h1 => by simp; omega) (fun j _ => by simp) (fun r h1 j _ => by simp; omega)
    have hpt1 := hptx.eqD hE1 hil (by omega) hY6 (by omega)
    refine x_aload_n rfl rfl rfl ?_
    refine x_callVi (d2 := 0) (c_mgoesT hG hw1.1.2.1) rfl rfl v_9_238 rfl rfl (by decide) rfl rfl (Nat.le_of_ble_eq_true rfl) (by omega) (by omega) ?_
    refine x_if_eq rfl rfl (fun hc7 => absurd hc7 (by decide +kernel)) (fun _ => ?_)
    refine x_aload_n rfl rfl rfl ?_
    refine x_iload_n rfl rfl rfl ?_
    refine x_iconstN (b := 1) rfl rfl ?_
    refine x_callVv (d2 := 0) (c_mgiveI hG (h := h) (i := i) (a := L.length) hh (by omega) (by omega) hst1.1 hst1.2.1 hq1.2.1) rfl rfl v_9_283 rfl rfl (by decide) rfl rfl (Nat.le_of_ble_eq_true rfl) (by omega) (by omega) ?_
    refine x_goto rfl rfl ?_
    exact q_retV rfl (hS1.ul (by unfold onMDi onMD; simp; try omega)) (pit_gen hq1 Pre.rf rfl (EqF.rf.ul (by simp; try omega)) hil (by rw [List.length_append]; exact hst1) hpt1.aL) rfl rfl rfl
  · refine x_aload_n rfl rfl rfl ?_
    refine x_callVi (d2 := 0) (c_mgoesF hG (f := f1) hf1 (by omega)) rfl rfl v_9_238 rfl rfl (by decide) rfl rfl (Nat.le_of_ble_eq_true rfl) (by omega) (by omega) ?_
    refine x_if_eq rfl rfl (fun _ => ?_) (fun hc8 => absurd hc8 (by decide +kernel))
    exact q_flV (0, none) (f := f1) (rfl) hS1 hf1 (by omega) rfl rfl rfl
set_option maxHeartbeats 4000000 in
set_option maxRecDepth 20000 in
theorem c_roE (hG : Gok G) {h i k c : Nat} {tr : Int32} {L Y V : List Int64} {ov : Prop} (ho0 : M.1 (40, 0) 28 = nI (h + 1)) (hst0 : Stk h i L.length Y.length ov M) (hh : h < 12) (hpt0 : MPt k c tr L Y V i M) (hi : i < 40) (hc8 : c ≤ 8) (hac : L.length = c) (hov : ov) : Ct G mX9_readOn d [.ref (ga G (40, 0))] M (.inl none) (ui M (40, 0) 28 (nI h)) 0 := by
  refine ct_of hG okX9_readOn (by decide +kernel) rfl (Nat.le_of_ble_eq_true rfl) ?_
  refine x_aload_n rfl rfl rfl ?_
  refine x_getIv (v := nI (h + 1)) ho0 rfl rfl f_9_196 rfl (by decide) rfl ?_
  refine x_iconstN (b := 1) rfl rfl ?_
  refine x_isubN (a := h + 1) (b := 1) (by omega) rfl rfl ?_
  refine x_istore_n rfl rfl rfl rfl ?_
  refine x_aload_n rfl rfl rfl ?_
  refine x_getR0 rfl rfl f_9_66 rfl (by decide) rfl rfl ?_
  refine x_iload_n rfl rfl rfl ?_
  refine x_ialdv (a := h) (v := nI i) hst0.1 rfl rfl rfl (by decide) (by omega) (by decide) ?_
  refine x_istore_n rfl rfl rfl rfl ?_
  refine x_aload_n rfl rfl rfl ?_
  refine x_getR0 rfl rfl f_9_69 rfl (by decide) rfl rfl ?_
  refine x_iload_n rfl rfl rfl ?_
  refine x_ialdv (a := h) (v := nI (L.length)) hst0.2.1 rfl rfl rfl (by decide) (by omega) (by decide) ?_
  refine x_aload_n rfl rfl rfl ?_
  refine x_getR0 rfl rfl f_9_33 rfl (by decide) rfl rfl ?_
  refine x_iload_n rfl rfl rfl ?_
  refine x_ialdv (a := i) (v := nI c) hpt0.2.1 rfl rfl rfl (by decide) (by omega) (by decide) ?_
  refine x_icmpN_ge (by omega) (by omega) rfl rfl (fun hc1 => ?_) (fun hc1 => absurd hc1 (by omega))
  refine x_iconstN (b := 0) rfl rfl ?_
  refine x_istore_n rfl rfl rfl rfl ?_
  refine x_aload_n rfl rfl rfl ?_
  refine x_getR0 rfl rfl f_9_75 rfl (by decide) rfl rfl ?_
  refine x_iload_n rfl rfl rfl ?_
  refine x_zaldv (a := h) (v := bI (ov)) hst0.2.2.2 rfl rfl rfl (by decide) (by omega) (by decide) ?_
  refine x_ifB_ne rfl rfl (fun hc2 => ?_) (fun hc2 => absurd hov hc2)
  refine x_iconstN (b := 0) rfl rfl ?_
  refine x_istore rfl rfl rfl rfl ?_
  refine x_iload rfl rfl rfl ?_
  refine x_if_eq rfl rfl (fun _ => ?_) (fun hc3 => absurd hc3 (by decide +kernel))
  refine x_iload_n rfl rfl rfl ?_
  refine x_if_eq rfl rfl (fun _ => ?_) (fun hc4 => absurd hc4 (by decide +kernel))
  refine x_aload_n rfl rfl rfl ?_
  refine x_dup rfl rfl rfl ?_
  refine x_getIv (v := nI (h + 1)) ho0 rfl rfl f_9_196 rfl (by decide) rfl ?_
  refine x_iconstN (b := 1) rfl rfl ?_
  refine x_isubN (a := h + 1) (b := 1) (by omega) rfl rfl ?_
  refine x_putI rfl rfl f_9_196 rfl rfl (by decide) rfl ?_
  exact x_retV rfl rfl rfl (by omega) rfl rfl
set_option maxHeartbeats 4000000 in
set_option maxRecDepth 20000 in
theorem c_roP_9T (hG : Gok G) (hd : 8 ≤ d) {row : List Nat} {al : List Int64} {s0 : RS} (hw0 : RdM row al s0 M) {h i k c : Nat} {tr : Int32} {L Y V : List Int64} {ov : Prop} (ho0 : M.1 (40, 0) 28 = nI (h + 1)) (hst0 : Stk h i L.length Y.length ov M) (hh : h < 12) (hpt0 : MPt k c tr L Y V i M) (hil : i < (pH s0).length) (hc8 : c ≤ 8) (hY6 : Y.length ≤ 6) (hVY : V.length = Y.length) (hk : k = 9) (hov : ¬ ov) (hle : L.length < c) : CQ G mX9_readOn d [.ref (ga G (40, 0))] M (onMDi h s0 i) (PPk row al h s0 i k c tr L Y V) vNo (rpk row al h [] Y s0) := by
  have hS0 : EqF (onMDi h s0 i) M M := EqF.rf
  have hp0 : Pre s0 s0 := Pre.rf
  have hA0 := hw0.2.1.1
  have hL6 := hw0.2.2.2.2.2.2.1
  have hi40 := hw0.2.2.2.1.2.2.1
  subst hk
  unfold rpk
  refine q_of hG okX9_readOn (by decide +kernel) rfl (Nat.le_of_ble_eq_true rfl) ?_
  refine x_aload_n rfl rfl rfl ?_
  refine x_getIv (v := nI (h + 1)) ho0 rfl rfl f_9_196 rfl (by decide) rfl ?_
  refine x_iconstN (b := 1) rfl rfl ?_
  refine x_isubN (a := h + 1) (b := 1) (by omega) rfl rfl ?_
  refine x_istore_n rfl rfl rfl rfl ?_
  refine x_aload_n rfl rfl rfl ?_
  refine x_getR0 rfl rfl f_9_66 rfl (by decide) rfl rfl ?_
  refine x_iload_n rfl rfl rfl ?_
  refine x_ialdv (a := h) (v := nI i) hst0.1 rfl rfl rfl (by decide) (by omega) (by decide) ?_
  refine x_istore_n rfl rfl rfl rfl ?_
  refine x_aload_n rfl rfl rfl ?_
  refine x_getR0 rfl rfl f_9_69 rfl (by decide) rfl rfl ?_
  refine x_iload_n rfl rfl rfl ?_
  refine x_ialdv (a := h) (v := nI (L.length)) hst0.2.1 rfl rfl rfl (by decide) (by omega) (by decide) ?_
  refine x_aload_n rfl rfl rfl ?_
  refine x_getR0 rfl rfl f_9_33 rfl (by decide) rfl rfl ?_
  refine x_iload_n rfl rfl rfl ?_
  refine x_ialdv (a := i) (v := nI c) hpt0.2.1 rfl rfl rfl (by decide) (by omega) (by decide) ?_
  refine x_icmpN_ge (by omega) (by omega) rfl rfl (fun hc1 => absurd hc1 (by omega)) (fun hc1 => ?_)
  refine x_iconstN (b := 1) rfl rfl ?_
  refine x_goto rfl rfl ?_
  refine x_istore_n rfl rfl rfl rfl ?_
  refine x_aload_n rfl rfl rfl ?_
  refine x_getR0 rfl rfl f_9_75 rfl (by decide) rfl rfl ?_
  refine x_iload_n rfl rfl rfl ?_
  refine x_zaldv (a := h) (v := bI (ov)) hst0.2.2.2 rfl rfl rfl (by decide) (by omega) (by decide) ?_
  refine x_ifB_ne rfl rfl (fun hc2 => absurd hc2 hov) (fun hc2 => ?_)
  refine x_aload_n rfl rfl rfl ?_
  refine x_getR0 rfl rfl f_9_27 rfl (by decide) rfl rfl ?_
  refine x_iload_n rfl rfl rfl ?_
  refine x_ialdv (a := i) (v := nI 9) hpt0.1 rfl rfl rfl (by decide) (by omega) (by decide) ?_
  refine x_bipush (v := nI 9) rfl rfl (by decide +kernel) ?_
  refine x_icmpN_eq (by omega) (by omega) rfl rfl (fun hc3 => ?_) (fun hc3 => absurd hc3 (by omega))
  refine x_iconstN (b := 1) rfl rfl ?_
  refine x_goto rfl rfl ?_
  refine x_istore rfl rfl rfl rfl ?_
  refine x_iload rfl rfl rfl ?_
  refine x_if_eq rfl rfl (fun hc4 => absurd hc4 (by decide +kernel)) (fun _ => ?_)
  refine x_aload_n rfl rfl rfl ?_
  refine x_getIv (v := nI (s0.1)) hw0.1.1 rfl rfl f_9_242 rfl (by decide) rfl ?_
  refine x_istore rfl rfl rfl rfl ?_
  refine x_aload_n rfl rfl rfl ?_
  refine q_call (d2 := 4) (c_mtakeString hG (Nat.le_refl 4) hw0) hS0 (fun _ _ z => onMDA z.1) rfl rfl v_9_267 rfl rfl (by decide) rfl rfl (Nat.le_of_ble_eq_true rfl) (by omega) (fun b1 s1 M1 e1 hq1 hE1 hS1 => ?_) (fun f1 b1 M1 e1 hf1 hl1 hS1 => ?_)
  · have hw1 := hq1
    have hz1 := (rStr_2 e1).1
    have hph1 : pH s1 = pH s0 := by unfold pH; rw [hz1]
    have hphl1 : (pH s1).length = (pH s0).length := by rw [hph1]
    have hp1 : Pre s0 s1 := Pre.of2 hz1
    have ho1 := (hE1 (40, 0) 28 (by simp [onMA])).1.trans ho0
    have hst1 := hst0.eq hE1 (fun r h1 h2 => by unfold onMA; simp; omega)
    have hpt1 := hpt0.eqA hE1
    dsimp only
    refine x_lstore rfl rfl rfl rfl ?_
    refine x_aload_n rfl rfl rfl ?_
    refine x_callVi (d2 := 0) (c_mgoesT hG hw1.1.2.1) rfl rfl v_9_238 rfl rfl (by decide) rfl rfl (Nat.le_of_ble_eq_true rfl) (by omega) (by omega) ?_
    refine x_if_ne rfl rfl (fun _ => ?_) (fun hc5 => absurd hc5 (by decide +kernel))
    refine x_lload rfl rfl rfl ?_
    refine x_lconst (v := 0) rfl rfl (by decide +kernel) ?_
    refine x_lc_ne rfl rfl rfl rfl (fun hc6 => ?_) (fun hc6 => ?_)
    · refine x_aload_n rfl rfl rfl ?_
      refine x_iload_n rfl rfl rfl ?_
      refine x_lload rfl rfl rfl ?_
      refine x_callVi (d2 := 0) (c_misMemberK hG b1 (i := i) (kd := 9) (by omega) hpt1.1 (by decide) (by decide)) rfl rfl v_9_165 rfl rfl (by decide) rfl rfl (Nat.le_of_ble_eq_true rfl) (by omega) (by omega) ?_
      refine x_if_ne rfl rfl (fun hc7 => absurd hc7 (by decide +kernel)) (fun _ => ?_)
      refine x_aload_n rfl rfl rfl ?_
      refine x_iload_n rfl rfl rfl ?_
      refine x_lload rfl rfl rfl ?_
      refine x_callVi (d2 := 0) (c_mpairAt hG b1 (i := i) (kl := Y.length) (by omega) hY6 hpt1.2.2.2.1) rfl rfl v_9_169 rfl rfl (by decide) rfl rfl (Nat.le_of_ble_eq_true rfl) (by omega) (by omega) ?_
      refine x_iconst (v := -1) rfl rfl (by decide +kernel) ?_
      refine x_icmp_ne rfl rfl (fun hc8 => ?_) (fun hc8 => ?_)
      · refine x_aload_n rfl rfl rfl ?_
        refine x_iload rfl rfl rfl ?_
        refine x_callVv (d2 := 0) (c_mstopT hG (nI (s0.1)) hw1.1.2.1) rfl rfl v_9_245 rfl rfl (by decide) rfl rfl (Nat.le_of_ble_eq_true rfl) (by omega) (by omega) ?_
        exact q_flV none (f := s0.1) (by rw [if_neg hc6, if_pos (Or.inr (Or.inl (Classical.not_not.mp (fun z => hc8 ((ixv_m1 hpt1.2.2.2.2.1 hY6).mpr z)))))]) (hS1.ui (by unfold onMDi onMD; simp; try omega)) (by first | rfl | simp [ui, ul]) (by omega) rfl rfl rfl
      · refine x_aload_n rfl rfl rfl ?_
        refine x_getR0 rfl rfl f_9_42 rfl (by decide) rfl rfl ?_
        refine x_iload_n rfl rfl rfl ?_
        refine x_ialdv (a := i) (v := nI (Y.length)) hpt1.2.2.2.1 rfl rfl rfl (by decide) (by omega) (by decide) ?_
        refine x_bipush (v := nI 6) rfl rfl (by decide +kernel) ?_
        refine x_icmpN_ne (by omega) (by omega) rfl rfl (fun hc9 => ?_) (fun hc9 => ?_)
        · rw [if_neg hc6, if_neg (fun z => z.elim (by omega) (fun z => z.elim ((ixv_m1 hpt1.2.2.2.2.1 hY6).mp hc8) (by simp)))]
          refine x_aload_n rfl rfl rfl ?_
          refine x_getR0 rfl rfl f_9_45 rfl (by decide) rfl rfl ?_
          refine x_bipush (v := nI 6) rfl rfl (by decide +kernel) ?_
          refine x_iload_n rfl rfl rfl ?_
          refine x_imulN (a := 6) (b := i) rfl rfl ?_
          refine x_aload_n rfl rfl rfl ?_
          refine x_getR0 rfl rfl f_9_42 rfl (by decide) rfl rfl ?_
          refine x_iload_n rfl rfl rfl ?_
          refine x_ialdv (a := i) (v := nI (Y.length)) hpt1.2.2.2.1 rfl rfl rfl (by decide) (by omega) (by decide) ?_
          refine x_iaddN (a := 6 * i) (b := Y.length) rfl rfl ?_
          refine x_lload rfl rfl rfl ?_
          refine x_last (a := (6 * i) + Y.length) rfl rfl rfl (by decide) (by omega) (by decide) ?_
          refine x_aload_n rfl rfl rfl ?_
          refine x_getR0 rfl rfl f_9_48 rfl (by decide) rfl rfl ?_
          refine x_bipush (v := nI 6) rfl rfl (by decide +kernel) ?_
          refine x_iload_n rfl rfl rfl ?_
          refine x_imulN (a := 6) (b := i) rfl rfl ?_
          refine x_aload_n rfl rfl rfl ?_
          refine x_getR0 rfl rfl f_9_42 rfl (by decide) rfl rfl ?_
          refine x_iload_n rfl rfl rfl ?_
          refine x_ialdv (a := i) (v := nI (Y.length)) (by first | exact hpt1.2.2.2.1 | (rw [← hpt1.2.2.2.1]; rfl) | simp [ui, ul, hpt1.2.2.2.1]) rfl rfl rfl (by decide) (by omega) (by decide) ?_
          refine x_iaddN (a := 6 * i) (b := Y.length) rfl rfl ?_
          refine x_lconst (v := 0) rfl rfl (by decide +kernel) ?_
          refine x_last (a := (6 * i) + Y.length) rfl rfl rfl (by decide) (by omega) (by decide) ?_
          refine x_aload_n rfl rfl rfl ?_
          refine x_getR0 rfl rfl f_9_42 rfl (by decide) rfl rfl ?_
          refine x_iload_n rfl rfl rfl ?_
          refine x_dup2 rfl rfl rfl rfl ?_
          refine x_ialdv (a := i) (v := nI (Y.length)) (by first | exact hpt1.2.2.2.1 | (rw [← hpt1.2.2.2.1]; rfl) | simp [ui, ul, hpt1.2.2.2.1]) rfl rfl rfl (by decide) (by omega) (by decide) ?_
          refine x_iconstN (b := 1) rfl rfl ?_
          refine x_iaddN (a := Y.length) (b := 1) rfl rfl ?_
          refine x_iast (a := i) rfl rfl rfl (by decide) (by omega) (by decide) ?_
          refine x_aload_n rfl rfl rfl ?_
          refine x_getR0 rfl rfl f_9_72 rfl (by decide) rfl rfl ?_
          refine x_iload_n rfl rfl rfl ?_
          refine x_dup2 rfl rfl rfl rfl ?_
          refine x_ialdv (a := h) (v := nI (Y.length)) (by first | exact hst1.2.2.1 | (rw [← hst1.2.2.1]; rfl) | simp [ui, ul, hst1.2.2.1]) rfl rfl rfl (by decide) (by omega) (by decide) ?_
          refine x_iconstN (b := 1) rfl rfl ?_
          refine x_iaddN (a := Y.length) (b := 1) rfl rfl ?_
          refine x_iast (a := h) rfl rfl rfl (by decide) (by omega) (by decide) ?_
          refine x_aload_n rfl rfl rfl ?_
          refine q_call (d2 := 7) (((c_mtakeValue hG (Nat.le_refl 7) (s0 := s1) (hw1.eqO (((((EqF.rf.ul (by simp [onO])).ul (by simp [onO])).ui (by simp [onO])).ui (by simp [onO])))) (h := h + 1) (by omega) (by simpa [ui, ul] using ho1)).onn (on := onMD (h + 1) s0) (fun _ _ z => onMD_pre hp1 (Nat.le_refl _) z))) ((((hS1.ul (by unfold onMDi onMD; simp; try omega)).ul (by unfold onMDi onMD; simp; try omega)).ui (by unfold onMDi onMD; simp; try omega)).ui (by unfold onMDi onMD; simp; try omega)) (fun _ _ z => onMD_pre Pre.rf (Nat.le_succ h) z.1) rfl rfl v_9_280 rfl rfl (by decide) rfl rfl (Nat.le_of_ble_eq_true rfl) (by omega) (fun b2 s2 M2 e2 hq2 hE2 hS2 => ?_) (fun f2 b2 M2 e2 hf2 hl2 hS2 => ?_)
          · have hw2 := hq2.1
            have hstx : Stk h i L.length (Y.length + 1) ov (ui (ui (ul (ul M1 (52, 0) ((6 * i) + Y.length) b1) (53, 0) ((6 * i) + Y.length) 0) (51, 0) i (nI (Y.length + 1))) (61, 0) h (nI (Y.length + 1))) := ⟨by simpa [ui, ul] using hst1.1, by simpa [ui, ul] using hst1.2.1, by simp [ui], by simpa [ui, ul] using hst1.2.2.2⟩
            have hst2 := hstx.eq hE2 (fun r h1 h2 => by unfold onMD; simp; omega)
            have hpt2 := (hpt1.aK (e := b1) (w := 0) (h := h) (b := Y.length + 1) hVY).eqD hE2 hil (by omega) (by simp; omega) (by omega)
            refine x_aload_n rfl rfl rfl ?_
            refine x_callVi (d2 := 0) (c_mgoesT hG hw2.1.2.1) rfl rfl v_9_238 rfl rfl (by decide) rfl rfl (Nat.le_of_ble_eq_true rfl) (by omega) (by omega) ?_
            refine x_if_eq rfl rfl (fun hc10 => absurd hc10 (by decide +kernel)) (fun _ => ?_)
            refine x_aload_n rfl rfl rfl ?_
            refine x_iload_n rfl rfl rfl ?_
            refine x_iconstN (b := 0) rfl rfl ?_
            refine x_callVv (d2 := 0) (c_mgiveP hG (h := h) (i := i) (b := Y.length) hh (by omega) (by omega) hst2.1 hst2.2.2.1 hq2.2.1) rfl rfl v_9_283 rfl rfl (by decide) rfl rfl (Nat.le_of_ble_eq_true rfl) (by omega) (by omega) ?_
            refine x_goto rfl rfl ?_
            exact q_retV (b := some (b1, b2)) (s := s2) rfl (hS2.ul (by unfold onMDi onMD; simp; try omega)) ⟨by have z := pit_gen (i := i) (L := L) (Y := Y ++ [b1]) (V := V ++ [b2.1]) (ov := False) hq2 hp1 hphl1 (EqF.rf.ul (j := 6 * i + V.length) (by simp; try omega)) hil (by rw [List.length_append]; exact ⟨hst2.1, hst2.2.1, hst2.2.2.1, hst2.2.2.2.trans (bI_iff ⟨fun z => hov z, fun z => z.elim⟩)⟩) (hpt2.aV (v := b2.1)); rw [hVY] at z; exact z, by omega⟩ rfl rfl rfl
          · refine x_aload_n rfl rfl rfl ?_
            refine x_callVi (d2 := 0) (c_mgoesF hG (f := f2) hf2 (by omega)) rfl rfl v_9_238 rfl rfl (by decide) rfl rfl (Nat.le_of_ble_eq_true rfl) (by omega) (by omega) ?_
            refine x_if_eq rfl rfl (fun _ => ?_) (fun hc11 => absurd hc11 (by decide +kernel))
            refine x_goto rfl rfl ?_
            exact q_flV none (f := f2) (rfl) hS2 hf2 (by omega) rfl rfl rfl
        · refine x_aload_n rfl rfl rfl ?_
          refine x_iload rfl rfl rfl ?_
          refine x_callVv (d2 := 0) (c_mstopT hG (nI (s0.1)) hw1.1.2.1) rfl rfl v_9_245 rfl rfl (by decide) rfl rfl (Nat.le_of_ble_eq_true rfl) (by omega) (by omega) ?_
          exact q_flV none (f := s0.1) (by rw [if_neg hc6, if_pos (Or.inl (by omega))]) (hS1.ui (by unfold onMDi onMD; simp; try omega)) (by first | rfl | simp [ui, ul]) (by omega) rfl rfl rfl
    · refine x_aload_n rfl rfl rfl ?_
      refine x_getR0 rfl rfl f_9_75 rfl (by decide) rfl rfl ?_
      refine x_iload_n rfl rfl rfl ?_
      refine x_iconstN (b := 1) rfl rfl ?_
      refine x_zast (a := h) rfl rfl rfl (by decide) (by omega) (by decide) (by first | exact Or.inl rfl | exact Or.inr rfl | exact bI_01 _ | assumption) ?_
      exact q_retV (b := none) (s := s1) (by rw [if_pos hc6]) (hS1.ui (by unfold onMDi onMD; simp; try omega)) ⟨hw1.eqO (EqF.rf.ui (by simp [onO])), hp1, hph1, by simpa [ui] using ho1, ⟨by simpa [ui] using hst1.1, by simpa [ui] using hst1.2.1, by simpa [ui] using hst1.2.2.1, by simp [ui]; exact (bI_t trivial).symm⟩, hpt1.eqM (on := fun k _ => k.1 ≠ 62) (EqF.rf.ui (by simp)) (fun r h1 => by simp; omega) (fun j _ => by simp) (fun r h1 j _ => by simp; omega)⟩ rfl rfl rfl
  · refine x_lstore rfl rfl rfl rfl ?_
    refine x_aload_n rfl rfl rfl ?_
    refine x_callVi (d2 := 0) (c_mgoesF hG (f := f1) hf1 (by omega)) rfl rfl v_9_238 rfl rfl (by decide) rfl rfl (Nat.le_of_ble_eq_true rfl) (by omega) (by omega) ?_
    refine x_if_ne rfl rfl (fun hc12 => absurd hc12 (by decide +kernel)) (fun _ => ?_)
    exact q_flV none (f := f1) (rfl) hS1 hf1 (by omega) rfl rfl rfl
set_option maxHeartbeats 4000000 in
set_option maxRecDepth 20000 in
theorem c_roP_9F (hG : Gok G) (hd : 8 ≤ d) {row : List Nat} {al : List Int64} {s0 : RS} (hw0 : RdM row al s0 M) {h i k c : Nat} {tr : Int32} {L Y V : List Int64} {ov : Prop} (ho0 : M.1 (40, 0) 28 = nI (h + 1)) (hst0 : Stk h i L.length Y.length ov M) (hh : h < 12) (hpt0 : MPt k c tr L Y V i M) (hil : i < (pH s0).length) (hc8 : c ≤ 8) (hY6 : Y.length ≤ 6) (hVY : V.length = Y.length) (hk : k = 9) (hov : ¬ ov) (hle : L.length = c) : CQ G mX9_readOn d [.ref (ga G (40, 0))] M (onMDi h s0 i) (PPk row al h s0 i k c tr L Y V) vNo (rpk row al h [] Y s0) := by
  have hS0 : EqF (onMDi h s0 i) M M := EqF.rf
  have hp0 : Pre s0 s0 := Pre.rf
  have hA0 := hw0.2.1.1
  have hL6 := hw0.2.2.2.2.2.2.1
  have hi40 := hw0.2.2.2.1.2.2.1
  subst hk
  unfold rpk
  refine q_of hG okX9_readOn (by decide +kernel) rfl (Nat.le_of_ble_eq_true rfl) ?_
  refine x_aload_n rfl rfl rfl ?_
  refine x_getIv (v := nI (h + 1)) ho0 rfl rfl f_9_196 rfl (by decide) rfl ?_
  refine x_iconstN (b := 1) rfl rfl ?_
  refine x_isubN (a := h + 1) (b := 1) (by omega) rfl rfl ?_
  refine x_istore_n rfl rfl rfl rfl ?_
  refine x_aload_n rfl rfl rfl ?_
  refine x_getR0 rfl rfl f_9_66 rfl (by decide) rfl rfl ?_
  refine x_iload_n rfl rfl rfl ?_
  refine x_ialdv (a := h) (v := nI i) hst0.1 rfl rfl rfl (by decide) (by omega) (by decide) ?_
  refine x_istore_n rfl rfl rfl rfl ?_
  refine x_aload_n rfl rfl rfl ?_
  refine x_getR0 rfl rfl f_9_69 rfl (by decide) rfl rfl ?_
  refine x_iload_n rfl rfl rfl ?_
  refine x_ialdv (a := h) (v := nI (L.length)) hst0.2.1 rfl rfl rfl (by decide) (by omega) (by decide) ?_
  refine x_aload_n rfl rfl rfl ?_
  refine x_getR0 rfl rfl f_9_33 rfl (by decide) rfl rfl ?_
  refine x_iload_n rfl rfl rfl ?_
  refine x_ialdv (a := i) (v := nI c) hpt0.2.1 rfl rfl rfl (by decide) (by omega) (by decide) ?_
  refine x_icmpN_ge (by omega) (by omega) rfl rfl (fun hc1 => ?_) (fun hc1 => absurd hc1 (by omega))
  refine x_iconstN (b := 0) rfl rfl ?_
  refine x_istore_n rfl rfl rfl rfl ?_
  refine x_aload_n rfl rfl rfl ?_
  refine x_getR0 rfl rfl f_9_75 rfl (by decide) rfl rfl ?_
  refine x_iload_n rfl rfl rfl ?_
  refine x_zaldv (a := h) (v := bI (ov)) hst0.2.2.2 rfl rfl rfl (by decide) (by omega) (by decide) ?_
  refine x_ifB_ne rfl rfl (fun hc2 => absurd hc2 hov) (fun hc2 => ?_)
  refine x_aload_n rfl rfl rfl ?_
  refine x_getR0 rfl rfl f_9_27 rfl (by decide) rfl rfl ?_
  refine x_iload_n rfl rfl rfl ?_
  refine x_ialdv (a := i) (v := nI 9) hpt0.1 rfl rfl rfl (by decide) (by omega) (by decide) ?_
  refine x_bipush (v := nI 9) rfl rfl (by decide +kernel) ?_
  refine x_icmpN_eq (by omega) (by omega) rfl rfl (fun hc3 => ?_) (fun hc3 => absurd hc3 (by omega))
  refine x_iconstN (b := 1) rfl rfl ?_
  refine x_goto rfl rfl ?_
  refine x_istore rfl rfl rfl rfl ?_
  refine x_iload rfl rfl rfl ?_
  refine x_if_eq rfl rfl (fun hc4 => absurd hc4 (by decide +kernel)) (fun _ => ?_)
  refine x_aload_n rfl rfl rfl ?_
  refine x_getIv (v := nI (s0.1)) hw0.1.1 rfl rfl f_9_242 rfl (by decide) rfl ?_
  refine x_istore rfl rfl rfl rfl ?_
  refine x_aload_n rfl rfl rfl ?_
  refine q_call (d2 := 4) (c_mtakeString hG (Nat.le_refl 4) hw0) hS0 (fun _ _ z => onMDA z.1) rfl rfl v_9_267 rfl rfl (by decide) rfl rfl (Nat.le_of_ble_eq_true rfl) (by omega) (fun b1 s1 M1 e1 hq1 hE1 hS1 => ?_) (fun f1 b1 M1 e1 hf1 hl1 hS1 => ?_)
  · have hw1 := hq1
    have hz1 := (rStr_2 e1).1
    have hph1 : pH s1 = pH s0 := by unfold pH; rw [hz1]
    have hphl1 : (pH s1).length = (pH s0).length := by rw [hph1]
    have hp1 : Pre s0 s1 := Pre.of2 hz1
    have ho1 := (hE1 (40, 0) 28 (by simp [onMA])).1.trans ho0
    have hst1 := hst0.eq hE1 (fun r h1 h2 => by unfold onMA; simp; omega)
    have hpt1 := hpt0.eqA hE1
    dsimp only
    refine x_lstore rfl rfl rfl rfl ?_
    refine x_aload_n rfl rfl rfl ?_
    refine x_callVi (d2 := 0) (c_mgoesT hG hw1.1.2.1) rfl rfl v_9_238 rfl rfl (by decide) rfl rfl (Nat.le_of_ble_eq_true rfl) (by omega) (by omega) ?_
    refine x_if_ne rfl rfl (fun _ => ?_) (fun hc5 => absurd hc5 (by decide +kernel))
    refine x_lload rfl rfl rfl ?_
    refine x_lconst (v := 0) rfl rfl (by decide +kernel) ?_
    refine x_lc_ne rfl rfl rfl rfl (fun hc6 => ?_) (fun hc6 => ?_)
    · refine x_aload_n rfl rfl rfl ?_
      refine x_iload_n rfl rfl rfl ?_
      refine x_lload rfl rfl rfl ?_
      refine x_callVi (d2 := 0) (c_misMemberK hG b1 (i := i) (kd := 9) (by omega) hpt1.1 (by decide) (by decide)) rfl rfl v_9_165 rfl rfl (by decide) rfl rfl (Nat.le_of_ble_eq_true rfl) (by omega) (by omega) ?_
      refine x_if_ne rfl rfl (fun hc7 => absurd hc7 (by decide +kernel)) (fun _ => ?_)
      refine x_aload_n rfl rfl rfl ?_
      refine x_iload_n rfl rfl rfl ?_
      refine x_lload rfl rfl rfl ?_
      refine x_callVi (d2 := 0) (c_mpairAt hG b1 (i := i) (kl := Y.length) (by omega) hY6 hpt1.2.2.2.1) rfl rfl v_9_169 rfl rfl (by decide) rfl rfl (Nat.le_of_ble_eq_true rfl) (by omega) (by omega) ?_
      refine x_iconst (v := -1) rfl rfl (by decide +kernel) ?_
      refine x_icmp_ne rfl rfl (fun hc8 => ?_) (fun hc8 => ?_)
      · refine x_aload_n rfl rfl rfl ?_
        refine x_iload rfl rfl rfl ?_
        refine x_callVv (d2 := 0) (c_mstopT hG (nI (s0.1)) hw1.1.2.1) rfl rfl v_9_245 rfl rfl (by decide) rfl rfl (Nat.le_of_ble_eq_true rfl) (by omega) (by omega) ?_
        exact q_flV none (f := s0.1) (by rw [if_neg hc6, if_pos (Or.inr (Or.inl (Classical.not_not.mp (fun z => hc8 ((ixv_m1 hpt1.2.2.2.2.1 hY6).mpr z)))))]) (hS1.ui (by unfold onMDi onMD; simp; try omega)) (by first | rfl | simp [ui, ul]) (by omega) rfl rfl rfl
      · refine x_aload_n rfl rfl rfl ?_
        refine x_getR0 rfl rfl f_9_42 rfl (by decide) rfl rfl ?_
        refine x_iload_n rfl rfl rfl ?_
        refine x_ialdv (a := i) (v := nI (Y.length)) hpt1.2.2.2.1 rfl rfl rfl (by decide) (by omega) (by decide) ?_
        refine x_bipush (v := nI 6) rfl rfl (by decide +kernel) ?_
        refine x_icmpN_ne (by omega) (by omega) rfl rfl (fun hc9 => ?_) (fun hc9 => ?_)
        · rw [if_neg hc6, if_neg (fun z => z.elim (by omega) (fun z => z.elim ((ixv_m1 hpt1.2.2.2.2.1 hY6).mp hc8) (by simp)))]
          refine x_aload_n rfl rfl rfl ?_
          refine x_getR0 rfl rfl f_9_45 rfl (by decide) rfl rfl ?_
          refine x_bipush (v := nI 6) rfl rfl (by decide +kernel) ?_
          refine x_iload_n rfl rfl rfl ?_
          refine x_imulN (a := 6) (b := i) rfl rfl ?_
          refine x_aload_n rfl rfl rfl ?_
          refine x_getR0 rfl rfl f_9_42 rfl (by decide) rfl rfl ?_
          refine x_iload_n rfl rfl rfl ?_
          refine x_ialdv (a := i) (v := nI (Y.length)) hpt1.2.2.2.1 rfl rfl rfl (by decide) (by omega) (by decide) ?_
          refine x_iaddN (a := 6 * i) (b := Y.length) rfl rfl ?_
          refine x_lload rfl rfl rfl ?_
          refine x_last (a := (6 * i) + Y.length) rfl rfl rfl (by decide) (by omega) (by decide) ?_
          refine x_aload_n rfl rfl rfl ?_
          refine x_getR0 rfl rfl f_9_48 rfl (by decide) rfl rfl ?_
          refine x_bipush (v := nI 6) rfl rfl (by decide +kernel) ?_
          refine x_iload_n rfl rfl rfl ?_
          refine x_imulN (a := 6) (b := i) rfl rfl ?_
          refine x_aload_n rfl rfl rfl ?_
          refine x_getR0 rfl rfl f_9_42 rfl (by decide) rfl rfl ?_
          refine x_iload_n rfl rfl rfl ?_
          refine x_ialdv (a := i) (v := nI (Y.length)) (by first | exact hpt1.2.2.2.1 | (rw [← hpt1.2.2.2.1]; rfl) | simp [ui, ul, hpt1.2.2.2.1]) rfl rfl rfl (by decide) (by omega) (by decide) ?_
          refine x_iaddN (a := 6 * i) (b := Y.length) rfl rfl ?_
          refine x_lconst (v := 0) rfl rfl (by decide +kernel) ?_
          refine x_last (a := (6 * i) + Y.length) rfl rfl rfl (by decide) (by omega) (by decide) ?_
          refine x_aload_n rfl rfl rfl ?_
          refine x_getR0 rfl rfl f_9_42 rfl (by decide) rfl rfl ?_
          refine x_iload_n rfl rfl rfl ?_
          refine x_dup2 rfl rfl rfl rfl ?_
          refine x_ialdv (a := i) (v := nI (Y.length)) (by first | exact hpt1.2.2.2.1 | (rw [← hpt1.2.2.2.1]; rfl) | simp [ui, ul, hpt1.2.2.2.1]) rfl rfl rfl (by decide) (by omega) (by decide) ?_
          refine x_iconstN (b := 1) rfl rfl ?_
          refine x_iaddN (a := Y.length) (b := 1) rfl rfl ?_
          refine x_iast (a := i) rfl rfl rfl (by decide) (by omega) (by decide) ?_
          refine x_aload_n rfl rfl rfl ?_
          refine x_getR0 rfl rfl f_9_72 rfl (by decide) rfl rfl ?_
          refine x_iload_n rfl rfl rfl ?_
          refine x_dup2 rfl rfl rfl rfl ?_
          refine x_ialdv (a := h) (v := nI (Y.length)) (by first | exact hst1.2.2.1 | (rw [← hst1.2.2.1]; rfl) | simp [ui, ul, hst1.2.2.1]) rfl rfl rfl (by decide) (by omega) (by decide) ?_
          refine x_iconstN (b := 1) rfl rfl ?_
          refine x_iaddN (a := Y.length) (b := 1) rfl rfl ?_
          refine x_iast (a := h) rfl rfl rfl (by decide) (by omega) (by decide) ?_
          refine x_aload_n rfl rfl rfl ?_
          refine q_call (d2 := 7) (((c_mtakeValue hG (Nat.le_refl 7) (s0 := s1) (hw1.eqO (((((EqF.rf.ul (by simp [onO])).ul (by simp [onO])).ui (by simp [onO])).ui (by simp [onO])))) (h := h + 1) (by omega) (by simpa [ui, ul] using ho1)).onn (on := onMD (h + 1) s0) (fun _ _ z => onMD_pre hp1 (Nat.le_refl _) z))) ((((hS1.ul (by unfold onMDi onMD; simp; try omega)).ul (by unfold onMDi onMD; simp; try omega)).ui (by unfold onMDi onMD; simp; try omega)).ui (by unfold onMDi onMD; simp; try omega)) (fun _ _ z => onMD_pre Pre.rf (Nat.le_succ h) z.1) rfl rfl v_9_280 rfl rfl (by decide) rfl rfl (Nat.le_of_ble_eq_true rfl) (by omega) (fun b2 s2 M2 e2 hq2 hE2 hS2 => ?_) (fun f2 b2 M2 e2 hf2 hl2 hS2 => ?_)
          · have hw2 := hq2.1
            have hstx : Stk h i L.length (Y.length + 1) ov (ui (ui (ul (ul M1 (52, 0) ((6 * i) + Y.length) b1) (53, 0) ((6 * i) + Y.length) 0) (51, 0) i (nI (Y.length + 1))) (61, 0) h (nI (Y.length + 1))) := ⟨by simpa [ui, ul] using hst1.1, by simpa [ui, ul] using hst1.2.1, by simp [ui], by simpa [ui, ul] using hst1.2.2.2⟩
            have hst2 := hstx.eq hE2 (fun r h1 h2 => by unfold onMD; simp; omega)
            have hpt2 := (hpt1.aK (e := b1) (w := 0) (h := h) (b := Y.length + 1) hVY).eqD hE2 hil (by omega) (by simp; omega) (by omega)
            refine x_aload_n rfl rfl rfl ?_
            refine x_callVi (d2 := 0) (c_mgoesT hG hw2.1.2.1) rfl rfl v_9_238 rfl rfl (by decide) rfl rfl (Nat.le_of_ble_eq_true rfl) (by omega) (by omega) ?_
            refine x_if_eq rfl rfl (fun hc10 => absurd hc10 (by decide +kernel)) (fun _ => ?_)
            refine x_aload_n rfl rfl rfl ?_
            refine x_iload_n rfl rfl rfl ?_
            refine x_iconstN (b := 0) rfl rfl ?_
            refine x_callVv (d2 := 0) (c_mgiveP hG (h := h) (i := i) (b := Y.length) hh (by omega) (by omega) hst2.1 hst2.2.2.1 hq2.2.1) rfl rfl v_9_283 rfl rfl (by decide) rfl rfl (Nat.le_of_ble_eq_true rfl) (by omega) (by omega) ?_
            refine x_goto rfl rfl ?_
            exact q_retV (b := some (b1, b2)) (s := s2) rfl (hS2.ul (by unfold onMDi onMD; simp; try omega)) ⟨by have z := pit_gen (i := i) (L := L) (Y := Y ++ [b1]) (V := V ++ [b2.1]) (ov := False) hq2 hp1 hphl1 (EqF.rf.ul (j := 6 * i + V.length) (by simp; try omega)) hil (by rw [List.length_append]; exact ⟨hst2.1, hst2.2.1, hst2.2.2.1, hst2.2.2.2.trans (bI_iff ⟨fun z => hov z, fun z => z.elim⟩)⟩) (hpt2.aV (v := b2.1)); rw [hVY] at z; exact z, by omega⟩ rfl rfl rfl
          · refine x_aload_n rfl rfl rfl ?_
            refine x_callVi (d2 := 0) (c_mgoesF hG (f := f2) hf2 (by omega)) rfl rfl v_9_238 rfl rfl (by decide) rfl rfl (Nat.le_of_ble_eq_true rfl) (by omega) (by omega) ?_
            refine x_if_eq rfl rfl (fun _ => ?_) (fun hc11 => absurd hc11 (by decide +kernel))
            refine x_goto rfl rfl ?_
            exact q_flV none (f := f2) (rfl) hS2 hf2 (by omega) rfl rfl rfl
        · refine x_aload_n rfl rfl rfl ?_
          refine x_iload rfl rfl rfl ?_
          refine x_callVv (d2 := 0) (c_mstopT hG (nI (s0.1)) hw1.1.2.1) rfl rfl v_9_245 rfl rfl (by decide) rfl rfl (Nat.le_of_ble_eq_true rfl) (by omega) (by omega) ?_
          exact q_flV none (f := s0.1) (by rw [if_neg hc6, if_pos (Or.inl (by omega))]) (hS1.ui (by unfold onMDi onMD; simp; try omega)) (by first | rfl | simp [ui, ul]) (by omega) rfl rfl rfl
    · refine x_aload_n rfl rfl rfl ?_
      refine x_getR0 rfl rfl f_9_75 rfl (by decide) rfl rfl ?_
      refine x_iload_n rfl rfl rfl ?_
      refine x_iconstN (b := 1) rfl rfl ?_
      refine x_zast (a := h) rfl rfl rfl (by decide) (by omega) (by decide) (by first | exact Or.inl rfl | exact Or.inr rfl | exact bI_01 _ | assumption) ?_
      exact q_retV (b := none) (s := s1) (by rw [if_pos hc6]) (hS1.ui (by unfold onMDi onMD; simp; try omega)) ⟨hw1.eqO (EqF.rf.ui (by simp [onO])), hp1, hph1, by simpa [ui] using ho1, ⟨by simpa [ui] using hst1.1, by simpa [ui] using hst1.2.1, by simpa [ui] using hst1.2.2.1, by simp [ui]; exact (bI_t trivial).symm⟩, hpt1.eqM (on := fun k _ => k.1 ≠ 62) (EqF.rf.ui (by simp)) (fun r h1 => by simp; omega) (fun j _ => by simp) (fun r h1 j _ => by simp; omega)⟩ rfl rfl rfl
  · refine x_lstore rfl rfl rfl rfl ?_
    refine x_aload_n rfl rfl rfl ?_
    refine x_callVi (d2 := 0) (c_mgoesF hG (f := f1) hf1 (by omega)) rfl rfl v_9_238 rfl rfl (by decide) rfl rfl (Nat.le_of_ble_eq_true rfl) (by omega) (by omega) ?_
    refine x_if_ne rfl rfl (fun hc12 => absurd hc12 (by decide +kernel)) (fun _ => ?_)
    exact q_flV none (f := f1) (rfl) hS1 hf1 (by omega) rfl rfl rfl
set_option maxHeartbeats 4000000 in
set_option maxRecDepth 20000 in
theorem c_roP_10 (hG : Gok G) (hd : 8 ≤ d) {row : List Nat} {al : List Int64} {s0 : RS} (hw0 : RdM row al s0 M) {h i k c : Nat} {tr : Int32} {L Y V : List Int64} {ov : Prop} (ho0 : M.1 (40, 0) 28 = nI (h + 1)) (hst0 : Stk h i L.length Y.length ov M) (hh : h < 12) (hpt0 : MPt k c tr L Y V i M) (hil : i < (pH s0).length) (hc8 : c ≤ 8) (hY6 : Y.length ≤ 6) (hVY : V.length = Y.length) (hk : k = 10) (hov : ¬ ov) (hle : L.length = c) {t : Nat} {y : Tr} (hyt : (pT s0)[t]? = some y) (htr : tr = nI t) : CQ G mX9_readOn d [.ref (ga G (40, 0))] M (onMDi h s0 i) (PPk row al h s0 i k c tr L Y V) vNo (rpk row al h (rM y) Y s0) := by
  have hS0 : EqF (onMDi h s0 i) M M := EqF.rf
  have hp0 : Pre s0 s0 := Pre.rf
  have hA0 := hw0.2.1.1
  have hL6 := hw0.2.2.2.2.2.2.1
  have hi40 := hw0.2.2.2.1.2.2.1
  subst hk
  unfold rpk
  refine q_of hG okX9_readOn (by decide +kernel) rfl (Nat.le_of_ble_eq_true rfl) ?_
  refine x_aload_n rfl rfl rfl ?_
  refine x_getIv (v := nI (h + 1)) ho0 rfl rfl f_9_196 rfl (by decide) rfl ?_
  refine x_iconstN (b := 1) rfl rfl ?_
  refine x_isubN (a := h + 1) (b := 1) (by omega) rfl rfl ?_
  refine x_istore_n rfl rfl rfl rfl ?_
  refine x_aload_n rfl rfl rfl ?_
  refine x_getR0 rfl rfl f_9_66 rfl (by decide) rfl rfl ?_
  refine x_iload_n rfl rfl rfl ?_
  refine x_ialdv (a := h) (v := nI i) hst0.1 rfl rfl rfl (by decide) (by omega) (by decide) ?_
  refine x_istore_n rfl rfl rfl rfl ?_
  refine x_aload_n rfl rfl rfl ?_
  refine x_getR0 rfl rfl f_9_69 rfl (by decide) rfl rfl ?_
  refine x_iload_n rfl rfl rfl ?_
  refine x_ialdv (a := h) (v := nI (L.length)) hst0.2.1 rfl rfl rfl (by decide) (by omega) (by decide) ?_
  refine x_aload_n rfl rfl rfl ?_
  refine x_getR0 rfl rfl f_9_33 rfl (by decide) rfl rfl ?_
  refine x_iload_n rfl rfl rfl ?_
  refine x_ialdv (a := i) (v := nI c) hpt0.2.1 rfl rfl rfl (by decide) (by omega) (by decide) ?_
  refine x_icmpN_ge (by omega) (by omega) rfl rfl (fun hc1 => ?_) (fun hc1 => absurd hc1 (by omega))
  refine x_iconstN (b := 0) rfl rfl ?_
  refine x_istore_n rfl rfl rfl rfl ?_
  refine x_aload_n rfl rfl rfl ?_
  refine x_getR0 rfl rfl f_9_75 rfl (by decide) rfl rfl ?_
  refine x_iload_n rfl rfl rfl ?_
  refine x_zaldv (a := h) (v := bI (ov)) hst0.2.2.2 rfl rfl rfl (by decide) (by omega) (by decide) ?_
  refine x_ifB_ne rfl rfl (fun hc2 => absurd hc2 hov) (fun hc2 => ?_)
  refine x_aload_n rfl rfl rfl ?_
  refine x_getR0 rfl rfl f_9_27 rfl (by decide) rfl rfl ?_
  refine x_iload_n rfl rfl rfl ?_
  refine x_ialdv (a := i) (v := nI 10) hpt0.1 rfl rfl rfl (by decide) (by omega) (by decide) ?_
  refine x_bipush (v := nI 9) rfl rfl (by decide +kernel) ?_
  refine x_icmpN_eq (by omega) (by omega) rfl rfl (fun hc3 => absurd hc3 (by omega)) (fun hc3 => ?_)
  refine x_iload_n rfl rfl rfl ?_
  refine x_if_ne rfl rfl (fun hc4 => absurd hc4 (by decide +kernel)) (fun _ => ?_)
  refine x_iconstN (b := 1) rfl rfl ?_
  refine x_goto rfl rfl ?_
  refine x_istore rfl rfl rfl rfl ?_
  refine x_iload rfl rfl rfl ?_
  refine x_if_eq rfl rfl (fun hc5 => absurd hc5 (by decide +kernel)) (fun _ => ?_)
  refine x_aload_n rfl rfl rfl ?_
  refine x_getIv (v := nI (s0.1)) hw0.1.1 rfl rfl f_9_242 rfl (by decide) rfl ?_
  refine x_istore rfl rfl rfl rfl ?_
  refine x_aload_n rfl rfl rfl ?_
  refine q_call (d2 := 4) (c_mtakeString hG (Nat.le_refl 4) hw0) hS0 (fun _ _ z => onMDA z.1) rfl rfl v_9_267 rfl rfl (by decide) rfl rfl (Nat.le_of_ble_eq_true rfl) (by omega) (fun b1 s1 M1 e1 hq1 hE1 hS1 => ?_) (fun f1 b1 M1 e1 hf1 hl1 hS1 => ?_)
  · have hw1 := hq1
    have hz1 := (rStr_2 e1).1
    have hph1 : pH s1 = pH s0 := by unfold pH; rw [hz1]
    have hphl1 : (pH s1).length = (pH s0).length := by rw [hph1]
    have hp1 : Pre s0 s1 := Pre.of2 hz1
    have ho1 := (hE1 (40, 0) 28 (by simp [onMA])).1.trans ho0
    have hst1 := hst0.eq hE1 (fun r h1 h2 => by unfold onMA; simp; omega)
    have hpt1 := hpt0.eqA hE1
    dsimp only
    refine x_lstore rfl rfl rfl rfl ?_
    refine x_aload_n rfl rfl rfl ?_
    refine x_callVi (d2 := 0) (c_mgoesT hG hw1.1.2.1) rfl rfl v_9_238 rfl rfl (by decide) rfl rfl (Nat.le_of_ble_eq_true rfl) (by omega) (by omega) ?_
    refine x_if_ne rfl rfl (fun _ => ?_) (fun hc6 => absurd hc6 (by decide +kernel))
    refine x_lload rfl rfl rfl ?_
    refine x_lconst (v := 0) rfl rfl (by decide +kernel) ?_
    refine x_lc_ne rfl rfl rfl rfl (fun hc7 => ?_) (fun hc7 => ?_)
    · refine x_aload_n rfl rfl rfl ?_
      refine x_iload_n rfl rfl rfl ?_
      refine x_lload rfl rfl rfl ?_
      have hyc := hw1.2.2.1.2.2.2.2.2.2.2.1 t y (hp1.Tat hyt)
      have hy12 := Nat.lt_of_lt_of_le (at_lt (hp1.Tat hyt)) hw1.2.2.2.1.2.1
      refine x_callVi (d2 := 0) (c_misMember hG b1 (i := i) (t := t) (m := (rM y).length) (by omega) (by omega) hyc.2.2.2.2 hpt1.1 (hpt1.2.2.1.trans htr) hyc.2.2.1) rfl rfl v_9_165 rfl rfl (by decide) rfl rfl (Nat.le_of_ble_eq_true rfl) (by omega) (by omega) ?_
      refine x_topI (v := bI (b1 ∈ rM y)) (bI_iff (LI_ex hyc.2.2.2.1)) ?_
      refine x_ifB_ne rfl rfl (fun hc8 => ?_) (fun hc8 => ?_)
      · refine x_aload_n rfl rfl rfl ?_
        refine x_iload rfl rfl rfl ?_
        refine x_callVv (d2 := 0) (c_mstopT hG (nI (s0.1)) hw1.1.2.1) rfl rfl v_9_245 rfl rfl (by decide) rfl rfl (Nat.le_of_ble_eq_true rfl) (by omega) (by omega) ?_
        exact q_flV none (f := s0.1) (by rw [if_neg hc7, if_pos (Or.inr (Or.inr hc8))]) (hS1.ui (by unfold onMDi onMD; simp; try omega)) (by first | rfl | simp [ui, ul]) (by omega) rfl rfl rfl
      · refine x_aload_n rfl rfl rfl ?_
        refine x_iload_n rfl rfl rfl ?_
        refine x_lload rfl rfl rfl ?_
        refine x_callVi (d2 := 0) (c_mpairAt hG b1 (i := i) (kl := Y.length) (by omega) hY6 hpt1.2.2.2.1) rfl rfl v_9_169 rfl rfl (by decide) rfl rfl (Nat.le_of_ble_eq_true rfl) (by omega) (by omega) ?_
        refine x_iconst (v := -1) rfl rfl (by decide +kernel) ?_
        refine x_icmp_ne rfl rfl (fun hc9 => ?_) (fun hc9 => ?_)
        · refine x_aload_n rfl rfl rfl ?_
          refine x_iload rfl rfl rfl ?_
          refine x_callVv (d2 := 0) (c_mstopT hG (nI (s0.1)) hw1.1.2.1) rfl rfl v_9_245 rfl rfl (by decide) rfl rfl (Nat.le_of_ble_eq_true rfl) (by omega) (by omega) ?_
          exact q_flV none (f := s0.1) (by rw [if_neg hc7, if_pos (Or.inr (Or.inl (Classical.not_not.mp (fun z => hc9 ((ixv_m1 hpt1.2.2.2.2.1 hY6).mpr z)))))]) (hS1.ui (by unfold onMDi onMD; simp; try omega)) (by first | rfl | simp [ui, ul]) (by omega) rfl rfl rfl
        · refine x_aload_n rfl rfl rfl ?_
          refine x_getR0 rfl rfl f_9_42 rfl (by decide) rfl rfl ?_
          refine x_iload_n rfl rfl rfl ?_
          refine x_ialdv (a := i) (v := nI (Y.length)) hpt1.2.2.2.1 rfl rfl rfl (by decide) (by omega) (by decide) ?_
          refine x_bipush (v := nI 6) rfl rfl (by decide +kernel) ?_
          refine x_icmpN_ne (by omega) (by omega) rfl rfl (fun hc10 => ?_) (fun hc10 => ?_)
          · rw [if_neg hc7, if_neg (fun z => z.elim (by omega) (fun z => z.elim ((ixv_m1 hpt1.2.2.2.2.1 hY6).mp hc9) hc8))]
            refine x_aload_n rfl rfl rfl ?_
            refine x_getR0 rfl rfl f_9_45 rfl (by decide) rfl rfl ?_
            refine x_bipush (v := nI 6) rfl rfl (by decide +kernel) ?_
            refine x_iload_n rfl rfl rfl ?_
            refine x_imulN (a := 6) (b := i) rfl rfl ?_
            refine x_aload_n rfl rfl rfl ?_
            refine x_getR0 rfl rfl f_9_42 rfl (by decide) rfl rfl ?_
            refine x_iload_n rfl rfl rfl ?_
            refine x_ialdv (a := i) (v := nI (Y.length)) hpt1.2.2.2.1 rfl rfl rfl (by decide) (by omega) (by decide) ?_
            refine x_iaddN (a := 6 * i) (b := Y.length) rfl rfl ?_
            refine x_lload rfl rfl rfl ?_
            refine x_last (a := (6 * i) + Y.length) rfl rfl rfl (by decide) (by omega) (by decide) ?_
            refine x_aload_n rfl rfl rfl ?_
            refine x_getR0 rfl rfl f_9_48 rfl (by decide) rfl rfl ?_
            refine x_bipush (v := nI 6) rfl rfl (by decide +kernel) ?_
            refine x_iload_n rfl rfl rfl ?_
            refine x_imulN (a := 6) (b := i) rfl rfl ?_
            refine x_aload_n rfl rfl rfl ?_
            refine x_getR0 rfl rfl f_9_42 rfl (by decide) rfl rfl ?_
            refine x_iload_n rfl rfl rfl ?_
            refine x_ialdv (a := i) (v := nI (Y.length)) (by first | exact hpt1.2.2.2.1 | (rw [← hpt1.2.2.2.1]; rfl) | simp [ui, ul, hpt1.2.2.2.1]) rfl rfl rfl (by decide) (by omega) (by decide) ?_
            refine x_iaddN (a := 6 * i) (b := Y.length) rfl rfl ?_
            refine x_lconst (v := 0) rfl rfl (by decide +kernel) ?_
            refine x_last (a := (6 * i) + Y.length) rfl rfl rfl (by decide) (by omega) (by decide) ?_
            refine x_aload_n rfl rfl rfl ?_
            refine x_getR0 rfl rfl f_9_42 rfl (by decide) rfl rfl ?_
            refine x_iload_n rfl rfl rfl ?_
            refine x_dup2 rfl rfl rfl rfl ?_
            refine x_ialdv (a := i) (v := nI (Y.length)) (by first | exact hpt1.2.2.2.1 | (rw [← hpt1.2.2.2.1]; rfl) | simp [ui, ul, hpt1.2.2.2.1]) rfl rfl rfl (by decide) (by omega) (by decide) ?_
            refine x_iconstN (b := 1) rfl rfl ?_
            refine x_iaddN (a := Y.length) (b := 1) rfl rfl ?_
            refine x_iast (a := i) rfl rfl rfl (by decide) (by omega) (by decide) ?_
            refine x_aload_n rfl rfl rfl ?_
            refine x_getR0 rfl rfl f_9_72 rfl (by decide) rfl rfl ?_
            refine x_iload_n rfl rfl rfl ?_
            refine x_dup2 rfl rfl rfl rfl ?_
            refine x_ialdv (a := h) (v := nI (Y.length)) (by first | exact hst1.2.2.1 | (rw [← hst1.2.2.1]; rfl) | simp [ui, ul, hst1.2.2.1]) rfl rfl rfl (by decide) (by omega) (by decide) ?_
            refine x_iconstN (b := 1) rfl rfl ?_
            refine x_iaddN (a := Y.length) (b := 1) rfl rfl ?_
            refine x_iast (a := h) rfl rfl rfl (by decide) (by omega) (by decide) ?_
            refine x_aload_n rfl rfl rfl ?_
            refine q_call (d2 := 7) (((c_mtakeValue hG (Nat.le_refl 7) (s0 := s1) (hw1.eqO (((((EqF.rf.ul (by simp [onO])).ul (by simp [onO])).ui (by simp [onO])).ui (by simp [onO])))) (h := h + 1) (by omega) (by simpa [ui, ul] using ho1)).onn (on := onMD (h + 1) s0) (fun _ _ z => onMD_pre hp1 (Nat.le_refl _) z))) ((((hS1.ul (by unfold onMDi onMD; simp; try omega)).ul (by unfold onMDi onMD; simp; try omega)).ui (by unfold onMDi onMD; simp; try omega)).ui (by unfold onMDi onMD; simp; try omega)) (fun _ _ z => onMD_pre Pre.rf (Nat.le_succ h) z.1) rfl rfl v_9_280 rfl rfl (by decide) rfl rfl (Nat.le_of_ble_eq_true rfl) (by omega) (fun b2 s2 M2 e2 hq2 hE2 hS2 => ?_) (fun f2 b2 M2 e2 hf2 hl2 hS2 => ?_)
            · have hw2 := hq2.1
              have hstx : Stk h i L.length (Y.length + 1) ov (ui (ui (ul (ul M1 (52, 0) ((6 * i) + Y.length) b1) (53, 0) ((6 * i) + Y.length) 0) (51, 0) i (nI (Y.length + 1))) (61, 0) h (nI (Y.length + 1))) := ⟨by simpa [ui, ul] using hst1.1, by simpa [ui, ul] using hst1.2.1, by simp [ui], by simpa [ui, ul] using hst1.2.2.2⟩
              have hst2 := hstx.eq hE2 (fun r h1 h2 => by unfold onMD; simp; omega)
              have hpt2 := (hpt1.aK (e := b1) (w := 0) (h := h) (b := Y.length + 1) hVY).eqD hE2 hil (by omega) (by simp; omega) (by omega)
              refine x_aload_n rfl rfl rfl ?_
              refine x_callVi (d2 := 0) (c_mgoesT hG hw2.1.2.1) rfl rfl v_9_238 rfl rfl (by decide) rfl rfl (Nat.le_of_ble_eq_true rfl) (by omega) (by omega) ?_
              refine x_if_eq rfl rfl (fun hc11 => absurd hc11 (by decide +kernel)) (fun _ => ?_)
              refine x_aload_n rfl rfl rfl ?_
              refine x_iload_n rfl rfl rfl ?_
              refine x_iconstN (b := 0) rfl rfl ?_
              refine x_callVv (d2 := 0) (c_mgiveP hG (h := h) (i := i) (b := Y.length) hh (by omega) (by omega) hst2.1 hst2.2.2.1 hq2.2.1) rfl rfl v_9_283 rfl rfl (by decide) rfl rfl (Nat.le_of_ble_eq_true rfl) (by omega) (by omega) ?_
              refine x_goto rfl rfl ?_
              exact q_retV (b := some (b1, b2)) (s := s2) rfl (hS2.ul (by unfold onMDi onMD; simp; try omega)) ⟨by have z := pit_gen (i := i) (L := L) (Y := Y ++ [b1]) (V := V ++ [b2.1]) (ov := False) hq2 hp1 hphl1 (EqF.rf.ul (j := 6 * i + V.length) (by simp; try omega)) hil (by rw [List.length_append]; exact ⟨hst2.1, hst2.2.1, hst2.2.2.1, hst2.2.2.2.trans (bI_iff ⟨fun z => hov z, fun z => z.elim⟩)⟩) (hpt2.aV (v := b2.1)); rw [hVY] at z; exact z, by omega⟩ rfl rfl rfl
            · refine x_aload_n rfl rfl rfl ?_
              refine x_callVi (d2 := 0) (c_mgoesF hG (f := f2) hf2 (by omega)) rfl rfl v_9_238 rfl rfl (by decide) rfl rfl (Nat.le_of_ble_eq_true rfl) (by omega) (by omega) ?_
              refine x_if_eq rfl rfl (fun _ => ?_) (fun hc12 => absurd hc12 (by decide +kernel))
              refine x_goto rfl rfl ?_
              exact q_flV none (f := f2) (rfl) hS2 hf2 (by omega) rfl rfl rfl
          · refine x_aload_n rfl rfl rfl ?_
            refine x_iload rfl rfl rfl ?_
            refine x_callVv (d2 := 0) (c_mstopT hG (nI (s0.1)) hw1.1.2.1) rfl rfl v_9_245 rfl rfl (by decide) rfl rfl (Nat.le_of_ble_eq_true rfl) (by omega) (by omega) ?_
            exact q_flV none (f := s0.1) (by rw [if_neg hc7, if_pos (Or.inl (by omega))]) (hS1.ui (by unfold onMDi onMD; simp; try omega)) (by first | rfl | simp [ui, ul]) (by omega) rfl rfl rfl
    · refine x_aload_n rfl rfl rfl ?_
      refine x_getR0 rfl rfl f_9_75 rfl (by decide) rfl rfl ?_
      refine x_iload_n rfl rfl rfl ?_
      refine x_iconstN (b := 1) rfl rfl ?_
      refine x_zast (a := h) rfl rfl rfl (by decide) (by omega) (by decide) (by first | exact Or.inl rfl | exact Or.inr rfl | exact bI_01 _ | assumption) ?_
      exact q_retV (b := none) (s := s1) (by rw [if_pos hc7]) (hS1.ui (by unfold onMDi onMD; simp; try omega)) ⟨hw1.eqO (EqF.rf.ui (by simp [onO])), hp1, hph1, by simpa [ui] using ho1, ⟨by simpa [ui] using hst1.1, by simpa [ui] using hst1.2.1, by simpa [ui] using hst1.2.2.1, by simp [ui]; exact (bI_t trivial).symm⟩, hpt1.eqM (on := fun k _ => k.1 ≠ 62) (EqF.rf.ui (by simp)) (fun r h1 => by simp; omega) (fun j _ => by simp) (fun r h1 j _ => by simp; omega)⟩ rfl rfl rfl
  · refine x_lstore rfl rfl rfl rfl ?_
    refine x_aload_n rfl rfl rfl ?_
    refine x_callVi (d2 := 0) (c_mgoesF hG (f := f1) hf1 (by omega)) rfl rfl v_9_238 rfl rfl (by decide) rfl rfl (Nat.le_of_ble_eq_true rfl) (by omega) (by omega) ?_
    refine x_if_ne rfl rfl (fun hc13 => absurd hc13 (by decide +kernel)) (fun _ => ?_)
    exact q_flV none (f := f1) (rfl) hS1 hf1 (by omega) rfl rfl rfl
end N5
