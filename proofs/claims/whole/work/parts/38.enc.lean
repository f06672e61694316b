theorem cp_3_15 : Cond.methodLink (cnm 3) 15 arraycopyName ∈ lw_tbl ∧ Cond.native arraycopyName ∈ lw_tbl ∧ Cond.static arraycopyName ∈ lw_tbl ∧ Cond.initialized "java/lang/System" ∈ lw_tbl := ⟨(List.mem_of_getElem? (i := 808) (by decide +kernel)), (List.mem_of_getElem? (i := 810) (by decide +kernel)), (List.mem_of_getElem? (i := 809) (by decide +kernel)), (List.mem_of_getElem? (i := 89) (by decide +kernel))⟩
def setR (A : Ab) (l : List Nat) : Ab := (A.1, A.2.1, A.2.2.1, A.2.2.2.1, l, A.2.2.2.2.2)
/-- behind an operation of the class: what is held, and nothing else has changed -/
def PC (M : Mm) (A : Ab) : Mm → Prop := fun M' => RC A M' ∧ Eqn (fun r => 40 ≤ r) M M'
def s00 : WS := ([], [], [], [])
section W6
variable {G : Gd} {d : Nat} {M : Mm} {A : Ab}
set_option maxHeartbeats 4000000 in
set_option maxRecDepth 20000 in
theorem c_wstart (hG : Gok G) (hd : 1 ≤ d) : Ct G mX7_start d [.ref (ga G (19, 0))] M (.inl none) (ui (ui (ui (ui M (20, 0) 1 (nI 0)) (22, 0) 1 (nI 0)) (24, 0) 1 (nI 0)) (19, 0) 5 (nI 0)) 0 := by
  refine ct_of hG okX7_start (by decide +kernel) rfl (Nat.le_of_ble_eq_true rfl) ?_
  refine x_aload_n rfl rfl rfl ?_
  refine x_getR0 rfl rfl f_7_14 rfl (by decide) rfl rfl ?_
  refine x_callVv (d2 := 0) (c_LL_empty hG (lk_20 (by decide))) rfl rfl v_7_34 rfl rfl (by decide) rfl rfl (Nat.le_of_ble_eq_true rfl) (by omega) (by omega) ?_
  refine x_aload_n rfl rfl rfl ?_
  refine x_getR0 rfl rfl f_7_20 rfl (by decide) rfl rfl ?_
  refine x_callVv (d2 := 0) (c_LL_empty hG (lk_22 (by decide))) rfl rfl v_7_34 rfl rfl (by decide) rfl rfl (Nat.le_of_ble_eq_true rfl) (by omega) (by omega) ?_
  refine x_aload_n rfl rfl rfl ?_
  refine x_getR0 rfl rfl f_7_23 rfl (by decide) rfl rfl ?_
  refine x_callVv (d2 := 0) (c_LL_empty hG (lk_24 (by decide))) rfl rfl v_7_34 rfl rfl (by decide) rfl rfl (Nat.le_of_ble_eq_true rfl) (by omega) (by omega) ?_
  refine x_aload_n rfl rfl rfl ?_
  refine x_iconstN (b := 0) rfl rfl ?_
  refine x_putI rfl rfl f_7_37 rfl rfl (by decide) rfl ?_
  exact x_retV rfl rfl rfl (by omega) rfl rfl
set_option maxHeartbeats 4000000 in
set_option maxRecDepth 20000 in
theorem c_become (hG : Gok G) (hd : 2 ≤ d) {n : Nat} (hn : n ≤ 600) : Ct G mX3_become d [.ref (ga G (15, 0)), .ref (ga G (26, 0)), .int (nI n)] M (.inl none) (ui (cpI M (26, 0) (16, 0) n) (15, 0) 1 (nI n)) 0 := by
  refine ct_of hG okX3_become (by decide +kernel) rfl (Nat.le_of_ble_eq_true rfl) ?_
  refine x_aload_n rfl rfl rfl ?_
  refine x_iconstN (b := 0) rfl rfl ?_
  refine x_aload_n rfl rfl rfl ?_
  refine x_getR0 rfl rfl f_3_9 rfl (by decide) rfl rfl ?_
  refine x_iconstN (b := 0) rfl rfl ?_
  refine x_iload_n rfl rfl rfl ?_
  refine x_copy (sz := n) rfl rfl cp_3_15 rfl (by decide) rfl (by decide) (by omega) (by omega) (by decide) (by decide) (Nat.le_of_ble_eq_true rfl) (by omega) ?_
  refine x_aload_n rfl rfl rfl ?_
  refine x_iload_n rfl rfl rfl ?_
  refine x_putI rfl rfl f_3_21 rfl rfl (by decide) rfl ?_
  exact x_retV rfl rfl rfl (by omega) rfl rfl
theorem wr_start : WrC s00 (ui (ui (ui (ui M (20, 0) 1 (nI 0)) (22, 0) 1 (nI 0)) (24, 0) 1 (nI 0)) (19, 0) 5 (nI 0)) := by
  have hN : ∀ f : Nat → Int32, LN f [] := fun f k x h => by cases h
  have hL : ∀ f : Nat → Int64, LI f [] := fun f k x h => by cases h
  have hD : ∀ n : Nat, Nd n [] := fun n => ⟨List.nodup_nil, fun i h => by cases h⟩
  refine ⟨?_, hN _, Nat.zero_le _, ⟨?_, hL _⟩, ⟨?_, hL _⟩, ⟨?_, hL _⟩, Nat.le_refl _, hD _, hD _⟩ <;> simp [ui, s00]
theorem ws_start : Eqn onW M (ui (ui (ui (ui M (20, 0) 1 (nI 0)) (22, 0) 1 (nI 0)) (24, 0) 1 (nI 0)) (19, 0) 5 (nI 0)) := (((Eqn.rf.ui (by unfold onW; omega)).ui (by unfold onW; omega)).ui (by unfold onW; omega)).ui (by unfold onW; omega)
set_option maxHeartbeats 4000000 in
set_option maxRecDepth 20000 in
theorem c_encodeX (hG : Gok G) (hd : 6 ≤ d) (hR : RC A M) (v : Int64) (hv : ¬ vOK A v) : Ct G mX8_encode d [.ref (ga G (0, 0)), .long (v)] M (.inr "java/lang/IllegalArgumentException") M 1 := by
  refine ct_of hG okX8_encode (by decide +kernel) rfl (Nat.le_of_ble_eq_true rfl) ?_
  refine x_aload_n rfl rfl rfl ?_
  refine x_getR0 rfl rfl f_8_20 rfl (by decide) rfl rfl ?_
  refine x_lload_n rfl rfl rfl ?_
  refine x_callVi (d2 := 1) (c_isValue (n := (aH A).length) (w := (aW A).length) hG (Nat.le_refl 1) v hR.2.2.2.1 hR.1.n40 hR.2.1 hR.1.nW) rfl rfl v_8_136 rfl rfl (by decide) rfl rfl (Nat.le_of_ble_eq_true rfl) (by omega) (by omega) ?_
  refine x_topI (v := bI (vOK A v)) rfl ?_
  refine x_ifB_ne rfl rfl (fun hc1 => absurd hc1 hv) (fun hc1 => ?_)
  exact x_throw rfl rfl rfl rfl rfl rfl rfl rfl th_8_89_91 (Nat.le_of_ble_eq_true rfl) (by omega) (by omega)
set_option maxHeartbeats 4000000 in
set_option maxRecDepth 20000 in
theorem c_encodeN (hG : Gok G) (hd : 62 ≤ d) (hwf : wfA A) (hR : RC A M) (v : Int64) (hv : vOK A v) (hr : wval A 12 v s00 = none) : Ce G mX8_encode d [.ref (ga G (0, 0)), .long v] M (.inr ISE) (PC M A) 1 := by
  have hcw := c_writeValue hG hwf 12 0 rfl 61 (Nat.le_refl _) v hv s00 (ui (ui (ui (ui M (20, 0) 1 (nI 0)) (22, 0) 1 (nI 0)) (24, 0) 1 (nI 0)) (19, 0) 5 (nI 0)) wr_start (hR.1.w ws_start)
  rw [hr] at hcw
  refine ce_of hG okX8_encode (by decide +kernel) rfl (Nat.le_of_ble_eq_true rfl) ?_
  refine x_aload_n rfl rfl rfl ?_
  refine x_getR0 rfl rfl f_8_20 rfl (by decide) rfl rfl ?_
  refine x_lload_n rfl rfl rfl ?_
  refine x_callVi (d2 := 1) (c_isValue (n := (aH A).length) (w := (aW A).length) hG (Nat.le_refl 1) v hR.2.2.2.1 hR.1.n40 hR.2.1 hR.1.nW) rfl rfl v_8_136 rfl rfl (by decide) rfl rfl (Nat.le_of_ble_eq_true rfl) (by omega) (by omega) ?_
  refine x_topI (v := bI (vOK A v)) rfl ?_
  refine x_ifB_ne rfl rfl (fun hc1 => ?_) (fun hc1 => absurd hv hc1)
  refine x_aload_n rfl rfl rfl ?_
  refine x_getR0 rfl rfl f_8_37 rfl (by decide) rfl rfl ?_
  refine x_callVv (d2 := 1) (c_wstart hG (Nat.le_refl 1)) rfl rfl v_8_171 rfl rfl (by decide) rfl rfl (Nat.le_of_ble_eq_true rfl) (by omega) (by omega) ?_
  refine x_aload_n rfl rfl rfl ?_
  refine x_getR0 rfl rfl f_8_37 rfl (by decide) rfl rfl ?_
  refine x_lload_n rfl rfl rfl ?_
  refine x_iconstN (b := 0) rfl rfl ?_
  exact x_throwVe (k2 := 1) (d2 := 61) hcw rfl rfl v_8_174 rfl rfl (by decide) rfl rfl (Nat.le_of_ble_eq_true rfl) (by omega) (by omega) (fun M2 h => ⟨hR.eqn (ws_start.tr h.1) (fun r _ _ => onW_lt (by omega)) (by unfold onW; omega), (ws_start.tr h.1).sub fun r hr9 => by unfold onW; omega⟩)
theorem enc_end {s1 : WS} {M2 : Mm} (hR : RC A M) (hw : WrC s1 M2) (hS : Eqn onW M M2) : PC M (setR A s1.1) (ui (cpI M2 (26, 0) (16, 0) s1.1.length) (15, 0) 1 (nI s1.1.length)) := by
  have hq : Eqn (fun r => onW r ∧ r ≠ 15 ∧ r ≠ 16) M (ui (cpI M2 (26, 0) (16, 0) s1.1.length) (15, 0) 1 (nI s1.1.length)) := by
    refine Eqn.ui (Eqn.tr (hS.sub fun r h => h.1) fun k hk j => ⟨if_neg fun e => hk.2.2 (by rw [e.1]), rfl⟩) (fun h => h.2.1 rfl)
  have o1 : ∀ r, r < 15 → onW r ∧ r ≠ 15 ∧ r ≠ 16 := fun r h => ⟨onW_lt (by omega), by omega, by omega⟩
  have o2 : ∀ r, 17 ≤ r → r < 19 → onW r ∧ r ≠ 15 ∧ r ≠ 16 := fun r h h2 => ⟨onW_lt h2, by omega, by omega⟩
  obtain ⟨⟨a, b, c, e, f, g, r1, r2, r3, r4, r5⟩, h3, h4, h5, hf⟩ := hR
  refine ⟨⟨⟨fun k x hx => (hq (2, 0) (o1 _ (by decide)) k).2.trans (a k x hx), fun t x hx => (b t x hx).eqn hq (o1 _ (by decide)) (o1 _ (by decide)) (o1 _ (by decide)),
    fun i x hx => (c i x hx).eqn hq (fun r _ h2 => o1 r (by omega)), e.eqn hq (o2 17 (by decide) (by decide)) (o2 18 (by decide) (by decide)), ?_, ?_, r1, r2, r3, r4, hw.2.2.1⟩, (hq (1, 0) (o1 _ (by decide)) 3).1.trans h3, (hq (1, 0) (o1 _ (by decide)) 4).1.trans h4, (hq (1, 0) (o1 _ (by decide)) 5).1.trans h5, (hq (27, 0) ⟨by unfold onW; omega, by decide, by decide⟩ 10).1.trans hf⟩, hq.sub fun r hr => ⟨by unfold onW; omega, by omega, by omega⟩⟩
  · simp [ui, setR, aR]
  · intro k x hx
    have hk : k < s1.1.length := at_lt hx
    rw [← hw.2.1 k x hx]
    simp [ui, cpI, hk]
set_option maxHeartbeats 4000000 in
set_option maxRecDepth 20000 in
theorem c_encodeS (hG : Gok G) (hd : 62 ≤ d) (hwf : wfA A) (hR : RC A M) (v : Int64) (hv : vOK A v) {s1 : WS} (hr : wval A 12 v s00 = some s1) : Ce G mX8_encode d [.ref (ga G (0, 0)), .long v] M (.inl (some (.int (nI s1.1.length)))) (PC M (setR A s1.1)) 0 := by
  have hcw := c_writeValue hG hwf 12 0 rfl 61 (Nat.le_refl _) v hv s00 (ui (ui (ui (ui M (20, 0) 1 (nI 0)) (22, 0) 1 (nI 0)) (24, 0) 1 (nI 0)) (19, 0) 5 (nI 0)) wr_start (hR.1.w ws_start)
  rw [hr] at hcw
  refine ce_of hG okX8_encode (by decide +kernel) rfl (Nat.le_of_ble_eq_true rfl) ?_
  refine x_aload_n rfl rfl rfl ?_
  refine x_getR0 rfl rfl f_8_20 rfl (by decide) rfl rfl ?_
  refine x_lload_n rfl rfl rfl ?_
  refine x_callVi (d2 := 1) (c_isValue (n := (aH A).length) (w := (aW A).length) hG (Nat.le_refl 1) v hR.2.2.2.1 hR.1.n40 hR.2.1 hR.1.nW) rfl rfl v_8_136 rfl rfl (by decide) rfl rfl (Nat.le_of_ble_eq_true rfl) (by omega) (by omega) ?_
  refine x_topI (v := bI (vOK A v)) rfl ?_
  refine x_ifB_ne rfl rfl (fun hc1 => ?_) (fun hc1 => absurd hv hc1)
  refine x_aload_n rfl rfl rfl ?_
  refine x_getR0 rfl rfl f_8_37 rfl (by decide) rfl rfl ?_
  refine x_callVv (d2 := 1) (c_wstart hG (Nat.le_refl 1)) rfl rfl v_8_171 rfl rfl (by decide) rfl rfl (Nat.le_of_ble_eq_true rfl) (by omega) (by omega) ?_
  refine x_aload_n rfl rfl rfl ?_
  refine x_getR0 rfl rfl f_8_37 rfl (by decide) rfl rfl ?_
  refine x_lload_n rfl rfl rfl ?_
  refine x_iconstN (b := 0) rfl rfl ?_
  refine x_callVe (k2 := 0) (d2 := 61) hcw rfl rfl v_8_174 rfl rfl (by decide) rfl rfl (Nat.le_of_ble_eq_true rfl) (by omega) (by omega) (fun M2 hM2 => ?_)
  have hw := hM2.2 s1 rfl
  have hS := ws_start.tr hM2.1
  refine x_aload_n rfl rfl rfl ?_
  refine x_getR0 rfl rfl f_8_24 rfl (by decide) rfl rfl ?_
  refine x_aload_n rfl rfl rfl ?_
  refine x_getR0 rfl rfl f_8_37 rfl (by decide) rfl rfl ?_
  refine x_getR0 rfl rfl f_8_178 rfl (by decide) rfl rfl ?_
  refine x_aload_n rfl rfl rfl ?_
  refine x_getR0 rfl rfl f_8_37 rfl (by decide) rfl rfl ?_
  refine x_getIv (v := nI (s1.1.length)) hw.1 rfl rfl f_8_182 rfl (by decide) rfl ?_
  refine x_callVv (d2 := 2) (c_become hG (Nat.le_refl 2) hw.2.2.1) rfl rfl v_8_183 rfl rfl (by decide) rfl rfl (Nat.le_of_ble_eq_true rfl) (by omega) (by omega) ?_
  refine x_aload_n rfl rfl rfl ?_
  refine x_getR0 rfl rfl f_8_24 rfl (by decide) rfl rfl ?_
  refine x_getIv (v := nI (s1.1.length)) (by simp [ui]) rfl rfl f_8_186 rfl (by decide) rfl ?_
  exact fr_e (x_retI rfl rfl rfl (by omega) rfl rfl) (enc_end hR hw hS)
end W6
