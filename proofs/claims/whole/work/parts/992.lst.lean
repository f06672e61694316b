/-! THE START: what is fixed, out of what holds at the law's entry; the making; the loop -/
theorem hq0 {G : Gd} {H : Heap} (h : Jb G 375 [] H) : HqE G M0 H := by
  refine ⟨fun k sp hs hc => ?_, h.2.2, by rw [h.1]; omega⟩
  have h1 := h.2.1 k sp hs hc (bix_lt (by rw [hs]; rfl) hc)
  rw [ev_none (show elk [] k = none from rfl)] at h1
  cases sp with
  | inl ci =>
    have h2 : t_OB (ga G k) ((gD G).1 ci) (nfl ci) ((gD G).2 ci) H (tgV G k) := h1
    exact h2.to fun j _ => by unfold tgV; rw [hs]
  | inr q =>
    have h2 : H[ga G k]? = some (arrV (gk G q.1) q.2 (tgV G k)) := h1
    show H[ga G k]? = some (arrV (gk G q.1) q.2 (fun j => cval G M0 k (aty q.1) j))
    rw [h2]
    exact congrArg some (arrV_to fun j _ => by unfold tgV; rw [hs])
def A0 : Ab := ([], [], [], [], [], -1)
theorem wf0 : wfA A0 := by
  refine ⟨?_, ?_, ?_, ?_, ?_, ?_⟩ <;> simp [A0, aT, aH, aA, aR]
theorem rc0 : RC A0 M0 := by
  refine ⟨⟨(fun k x h => by cases h), (fun t x h => by cases h), (fun i x h => by cases h), ⟨by decide +kernel, (fun k x h => by cases h)⟩, by decide +kernel, (fun k x h => by cases h), by decide, by decide, by decide, by decide, by decide⟩, by decide +kernel, by decide +kernel, by decide +kernel, by decide +kernel⟩
theorem rmM0 : RM A0 M0 := by
  refine ⟨⟨(fun k x h => by cases h), (fun t x h => by cases h), (fun i x h => by cases h), by decide +kernel, ?_, by decide +kernel, (fun k x h => by cases h), by decide, by decide, by decide, by decide, by decide⟩, by decide +kernel, by decide +kernel, by decide +kernel, by decide +kernel⟩
  intro k x h
  match k, h with
  | 0, h => cases h; rfl
  | k + 1, h => cases h
theorem kn_of {own idx ci : Nat} (h : NwL own idx ci) {q : vw_C} (hq : vwCl[ci]? = some q) : (∀ w ∈ u_ws q.1 q.2.1 q.2.2, w ∈ lw_tbl) ∧ Cond.instantiable q.1 q.2.2 ∈ lw_tbl := by
  obtain ⟨C, T, N, hcl, -, w2, -, hin, -⟩ := h
  cases Option.some.inj (hcl.symm.trans hq)
  exact ⟨hin, w2⟩
theorem kn_all {ci : Nat} {q : vw_C} (hq : vwCl[ci]? = some q) : (∀ w ∈ u_ws q.1 q.2.1 q.2.2, w ∈ lw_tbl) ∧ Cond.instantiable q.1 q.2.2 ∈ lw_tbl := by
  match ci, hq with
  | 0, hq => exact kn_of nw_8_15 hq
  | 1, hq => exact kn_of nw_8_50 hq
  | 2, hq => exact kn_of nw_8_41 hq
  | 3, hq => exact kn_of nw_8_12 hq
  | 4, hq => exact kn_of nw_8_9 hq
  | 5, hq => exact kn_of nw_4_21 hq
  | 6, hq => exact kn_of nw_4_15 hq
  | 7, hq => exact kn_of nw_8_32 hq
  | 8, hq => exact kn_of nw_10_8 hq
  | 9, hq => exact kn_of nw_10_56 hq
  | j + 10, hq =>
    have hl : vwCl.length = 10 := rfl
    rw [List.getElem?_eq_none (by omega)] at hq
    cases hq
theorem w_ao1 : Cond.arrayOver (.object "GraphCourier$Traits") ∈ lw_tbl := (List.mem_of_getElem? (i := 107) (by decide +kernel))
theorem w_ao2 : Cond.arrayOver (.object "GraphCourier$Thing") ∈ lw_tbl := (List.mem_of_getElem? (i := 109) (by decide +kernel))
theorem w_ls1 : Cond.laysStatic Bundle.tN "UNASSIGNED_STACK" Bundle.steD ∈ lw_tbl := (List.mem_of_getElem? (i := 558) (by decide +kernel))
theorem w_ls2 : Cond.laysStatic Bundle.tN "SUPPRESSED_SENTINEL" Bundle.listD ∈ lw_tbl := (List.mem_of_getElem? (i := 560) (by decide +kernel))
theorem w_int : Cond.initialized Bundle.tN ∈ lw_tbl := (List.mem_of_getElem? (i := 84) (by decide +kernel))
theorem g_start {s : State} {av : Array Value} (l : Launch) (hl : l.stackTraces = false) (hts : ∀ w ∈ lw_tbl, w.before av s = true) (hgv : (Jvm.Cond.and given_1 narrow_1).before av s = true) :
    ∃ G : Gd, Gok G ∧ Gbk G ∧ Nc G ∧ gl G = l ∧ gs G = s ∧ gH G = s.heap ∧ gb G = s.heap.size ∧ va_AO "GraphCourier$Traits" (gs G) ∧ va_AO "GraphCourier$Thing" (gs G) := by
  have hs := flat_of_before _ hgv
  have hk : ∀ ci : Nat, ∃ r : ClassId × (Nat → Nat), ∀ q : vw_C, vwCl[ci]? = some q → u_Kn s q.1 q.2.1 q.2.2 r.1 r.2 := by
    intro ci
    cases hq : vwCl[ci]? with
    | none => exact ⟨(0, fun _ => 0), fun q h => by cases h⟩
    | some q =>
      obtain ⟨h1, h2⟩ := kn_all hq
      obtain ⟨cC, iS, h3⟩ := u_known (args := av) (s := s) hts h1 (hts _ h2)
      exact ⟨(cC, iS), fun q' h => by cases h; exact h3⟩
  obtain ⟨a0, k0, c0, i1, i2, i3⟩ := Cond.arrayClass_spec (hts _ wa_int)
  obtain ⟨a1, k1, c1, j1, j2, j3⟩ := Cond.arrayClass_spec (hts _ wa_long)
  obtain ⟨a2, k2, c2, m1, m2, m3⟩ := Cond.arrayClass_spec (hts _ wa_boolean)
  obtain ⟨c3, a3, k3, n1, -, n2, n3, n4⟩ := Cond.arrayOver_spec (hts _ w_ao1)
  obtain ⟨c4, a4, k4, o1, -, o2, o3, o4⟩ := Cond.arrayOver_spec (hts _ w_ao2)
  obtain ⟨G, hGd⟩ : ∃ G : Gd, G = (l, (fun ci => (Classical.choose (hk ci)).1, fun ci => (Classical.choose (hk ci)).2), (fun t => match t with | 0 => a0 | 1 => a1 | 2 => a2 | 3 => a3 | _ => a4), (fun k => s.heap.size + bix k), s.heap.size, s.heap, s) := ⟨_, rfl⟩
  have gb9 : gb G = s.heap.size := by rw [hGd]; rfl
  have gs9 : gs G = s := by rw [hGd]; rfl
  have gH9 : gH G = s.heap := by rw [hGd]; rfl
  have ga9 : ∀ k, ga G k = s.heap.size + bix k := fun k => by rw [hGd]; rfl
  have hZ1 : vx_Zq Bundle.tN "UNASSIGNED_STACK" Bundle.steD (fun q => s.heap.size ≤ q) s s.heap := vx_Zqof (args := av) (hts _ w_ls1) (hts _ w_int) (hs _ (by decide +kernel)) (fun a h => by omega)
  have hZ2 : vx_Zq Bundle.tN "SUPPRESSED_SENTINEL" Bundle.listD (fun q => s.heap.size ≤ q) s s.heap := vx_Zqof (args := av) (hts _ w_ls2) (hts _ w_int) (hs _ (by decide +kernel)) (fun a h => by omega)
  refine ⟨G, ⟨?_, ?_, ?_, ?_, ?_, ?_, ?_, ?_⟩, ?_, ?_, by rw [hGd]; rfl, gs9, gH9, gb9, ?_, ?_⟩
  · intro w hw hok a' U hW
    rw [gs9] at hW
    exact okw_at hok (hts w hw) hW
  · rw [gs9]
    refine ⟨fun ci q hq => ?_, fun t q hq => ?_⟩
    · have h9 := Classical.choose_spec (hk ci) q hq
      rw [hGd]
      exact h9
    · have e0 : ∀ t, gk G t = (match t with | 0 => a0 | 1 => a1 | 2 => a2 | 3 => a3 | _ => a4) := fun t => by rw [hGd]; rfl
      unfold tysG at hq
      rw [e0, e0, e0, e0, e0] at hq
      match t, hq with
      | 0, hq => cases hq; exact ⟨fun n z => ⟨fun k h => (by cases h), k0, i2, c0, i3⟩, i1⟩
      | 1, hq => cases hq; exact ⟨fun n z => ⟨fun k h => (by cases h), k1, j2, c1, j3⟩, j1⟩
      | 2, hq => cases hq; exact ⟨fun n z => ⟨fun k h => (by cases h), k2, m2, c2, m3⟩, m1⟩
      | 3, hq => cases hq; exact ⟨fun n z => ⟨fun k h => (by cases h), k3, n2, c3, n3⟩, k3, c3, n2, n3, n1, n4⟩
      | 4, hq => cases hq; exact ⟨fun n z => ⟨fun k h => (by cases h), k4, o2, c4, o3⟩, k4, c4, o2, o3, o1, o4⟩
      | t + 5, hq => cases hq
  · intro k k' h1 h2 h3 h4 h5
    rw [ga9, ga9] at h5
    exact bix_inj h1 h2 h3 h4 (by omega)
  · intro k _ _
    rw [ga9, gb9]
    omega
  · rw [hGd]; exact hl
  · rw [gb9, gs9, gH9]; exact hZ1
  · rw [gb9, gs9, gH9]; exact hZ2
  · rw [gb9, gH9]
  · intro k
    rw [ga9, gb9]
  · intro c1 c2 h1 h2
    rw [gs9] at h1 h2 ⊢
    have h9 : (Cond.not (.castable "java/lang/IllegalStateException" "java/lang/IllegalArgumentException")).before av s = true := hs _ (by decide +kernel)
    have hv := Cond.holds_not_iff.mp h9
    have h1' : s.vm.findClass "java/lang/IllegalStateException" = some c1 := h1
    have h2' : s.vm.findClass "java/lang/IllegalArgumentException" = some c2 := h2
    simp only [Cond.value, h1', h2'] at hv
    exact Option.some.inj hv
  · rw [gs9]; exact va_AO.of (hts _ w_ao1)
  · rw [gs9]; exact va_AO.of (hts _ w_ao2)
set_option maxHeartbeats 2000000 in
set_option maxRecDepth 20000 in
theorem law_mk {G : Gd} {hp : Method → Code → Prop} {b L : Nat} {xs : Nat → Int32} (hG : Gok G) (hB : Gbk G) (hN : Nc G) (ha1 : va_AO "GraphCourier$Traits" (gs G)) (ha2 : va_AO "GraphCourier$Thing" (gs G)) (hS : Sx G b L xs) (hL : L ≤ 5120) :
    Fb G mL_h hp 70 2200 (Zl G) 0 0 [(0, .ref b)] [] (Jb G 0 []) := by
  have hE : ∀ n, Eok n [] := fun n k _ => rfl
  refine b_new (q := (0, 0)) (u := 1) hB rfl rfl nw_10_8 rfl (by decide) rfl (by decide) (by decide) (by decide) ?_
  refine b_dup rfl rfl rfl ?_
  refine b_callI (d2 := 5) (k2 := 940) (c_i8 hG hB ha1 ha2 (hE 1) rfl) rfl rfl i_10_55 rfl rfl (Nat.le_of_ble_eq_true rfl) (by decide) (by decide) ?_
  refine b_astore_n rfl rfl rfl rfl ?_
  refine b_new (q := (40, 0)) (u := 8) hB rfl rfl nw_10_56 rfl (by decide) rfl (by decide) (by decide) (by decide) ?_
  refine b_dup rfl rfl rfl ?_
  refine b_callI (d2 := 2) (k2 := 671) (c_i9 hG hB (hE 348) rfl) rfl rfl i_10_58 rfl rfl (Nat.le_of_ble_eq_true rfl) (by decide) (by decide) ?_
  refine b_astore_n rfl rfl rfl rfl ?_
  refine b_iconstN (b := 1) rfl rfl ?_
  refine b_newa (q := (70, 0)) (tt := 1) (L := 1) (u := 1) hB rfl (by decide) wa_long rfl rfl rfl (by decide) rfl rfl rfl (by decide) (by decide) (by decide) (by decide) ?_
  refine b_astore_n rfl rfl rfl rfl ?_
  refine b_to (fun H h => hq0 h) ?_
  refine b_iconstN (b := 0) rfl rfl ?_
  refine b_istore rfl rfl rfl rfl ?_
  exact law_loop hG hN hS hL (by decide) (by decide) 513 0 _ A0 M0 (by omega) (by decide) (by decide) wf0 rc0 rmM0
theorem whole_start {p : Program} {e : Env} {s : State} {m : MethodId} {below : List Frame} {meth : Method} {c : Code} (l : Launch) (hl : l.stackTraces = false) {b L : Nat} {xs : Nat → Int32} (hL : L ≤ 5120) (C0 : lw_At p s m meth c b L xs) : W p l e room_1 s m #[Value.ref b] below meth c s.heap [] 0 0 (lw_Z below #[Value.ref b] s) (entryFrame m ([Value.ref b] : List Value).toArray 8) := by
  obtain ⟨hx, hb, hr, hml, hown, hts, hX, hbl, hlk, hgv⟩ := C0
  obtain ⟨G, hG, hB, hN, g1, g2, g3, g4, ha1, ha2⟩ := g_start l hl hts hgv
  subst g1
  have hS : Sx G b L xs := ⟨by rw [g2, g3]; exact hX, by rw [g4]; exact hbl⟩
  have hC : Cx G mL_h 70 2200 p room_1 s m meth c := by
    refine ⟨hG, okL_h, hx, hb, hr, hlk, hml, hown, ?_, ?_, ?_, by decide, by decide, by decide, by decide⟩
    · rw [g2]; exact State.WarmedH.refl s
    · intro q _; rw [g3]
    · rw [g4]; exact Nat.le_refl _
  have hJ : Hb G (Jb G 0 []) s s.heap [] := by
    refine ⟨⟨by rw [g4]; rfl, fun k sp _ _ h => absurd h (Nat.not_lt_zero _), fun q _ => by rw [g3]⟩, Nat.le_refl _, fun z h => by cases h⟩
  rw [lg_entry_eq]
  have key := law_mk (hp := fun _ _ => True) hG hB hN ha1 ha2 hS hL p e room_1 s m #[Value.ref b] below meth c s.heap [] _ hC trivial hJ (lv_entry [Value.ref b] (n := 8) (Nat.le_of_ble_eq_true rfl))
  intro T hT X
  obtain ⟨t, a1, b1⟩ := key T hT X
  exact ⟨t, a1, b1 (by rw [g4]; exact Nat.le_refl _)⟩
