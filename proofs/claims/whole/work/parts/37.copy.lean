/-! System.arraycopy of ints, from the beginnings -/
def cpI (M : Mm) (q0 q1 : Ky) (n : Nat) : Mm := (fun a b => if a = q1 ∧ b < n then M.1 q0 b else M.1 a b, M.2)
theorem nI_nn {n : Nat} (h : n < 2 ^ 31) : ¬ nI n < 0 := by
  rw [Int32.lt_iff_toInt_lt, nI_toInt h]
  have : (0 : Int32).toInt = 0 := by decide +kernel
  omega
theorem Hq.cell {G : Gd} {M M1 : Mm} {s : State} {H H1 : Heap} {locs locs1 : List Loc} (hR : Hq G M s H locs) (hg : Gok G) {k : Ky} {sp : Nat ⊕ (Nat × Nat)} (hs : shp k.1 = some sp) (hc : k.2 < cnt k.1)
    (hm : ∀ k' : Ky, k' ≠ k → ∀ j, M1.1 k' j = M.1 k' j ∧ M1.2 k' j = M.2 k' j) (hq : ∀ q : Nat, q ≠ ga G k → H1[q]? = H[q]?) (hz : H1.size = H.size) (hk : cellR G M1 k sp H1) (hl : ∀ z ∈ locs1, z ∈ locs ∨ z.base = ga G k) : Hq G M1 s H1 locs1 := by
  have hb := hg.2.2.2.1 k (by rw [hs]; rfl) hc
  have ev : ∀ k' : Ky, k' ≠ k → ∀ (ty : FieldType) (j : Nat), cval G M1 k' ty j = cval G M k' ty j := by
    intro k' hne ty j
    unfold cval
    rw [(hm k' hne j).1, (hm k' hne j).2]
  refine ⟨⟨?_, fun q hlt => ?_, by rw [hz]; exact hR.1.2.2⟩, by rw [hz]; exact hR.2.1, fun z hzm => ?_⟩
  · intro k' sp' hs' hc'
    by_cases e : k' = k
    · subst e
      cases hs.symm.trans hs'
      exact hk
    · have h0 := hR.1.1 k' sp' hs' hc'
      have hne : ga G k' ≠ ga G k := fun z => e (hg.2.2.1 k' k (by rw [hs']; rfl) hc' (by rw [hs]; rfl) hc z)
      cases sp' with
      | inl ci =>
        have h1 : t_OB (ga G k') ((gD G).1 ci) (nfl ci) ((gD G).2 ci) H (fun j' => cval G M k' (ftyp ci j') j') := h0
        show t_OB (ga G k') ((gD G).1 ci) (nfl ci) ((gD G).2 ci) H1 (fun j' => cval G M1 k' (ftyp ci j') j')
        exact (h1.kept (hq _ hne)).to fun j' _ => (ev k' e _ _).symm
      | inr q =>
        have h1 : H[ga G k']? = some (arrV (gk G q.1) q.2 (fun j' => cval G M k' (aty q.1) j')) := h0
        show H1[ga G k']? = some (arrV (gk G q.1) q.2 (fun j' => cval G M1 k' (aty q.1) j'))
        rw [hq _ hne, h1]
        congr 2
        funext j'
        exact (ev k' e _ _).symm
  · rw [hq q (by omega)]
    exact hR.1.2.1 q hlt
  · rcases hl z hzm with h | h
    · exact hR.2.2 z h
    · rw [h]; exact hb
section XCP
variable {G : Gd} {y : Mt} {d kf : Nat} {Z : Zt} {k pc n t : Nat} {lv lv' : List (Nat × Value)} {st : List Value} {M M' : Mm}
set_option maxHeartbeats 4000000 in
theorem x_copy {q0 q1 : Ky} {L0 L1 sz idx : Nat} (hi : tget (yT y) pc = some (.invokestatic idx, n, t)) (hn : pc + 3 = n)
    (hl : Cond.methodLink (cnm (yC y)) idx arraycopyName ∈ lw_tbl ∧ Cond.native arraycopyName ∈ lw_tbl ∧ Cond.static arraycopyName ∈ lw_tbl ∧ Cond.initialized "java/lang/System" ∈ lw_tbl)
    (hs0 : shp q0.1 = some (.inr (0, L0))) (hc0 : q0.2 < cnt q0.1) (hs1 : shp q1.1 = some (.inr (0, L1))) (hc1 : q1.2 < cnt q1.1) (h0 : sz ≤ L0) (h1 : sz ≤ L1) (hL : L0 < 2 ^ 31) (hL1 : L1 < 2 ^ 31) (hW : (st.map fun v => v.category).sum ≤ 8) (hd : 2 ≤ d)
    (kk : Fr G y d kf Z k n lv st (cpI M q0 q1 sz)) : Fr G y d kf Z k pc lv (.int (nI sz) :: .int (nI 0) :: .ref (ga G q1) :: .int (nI 0) :: .ref (ga G q0) :: st) M := by
  intro p e R s m args below meth c H locs ls C hx hH hL9 T hT X
  obtain ⟨hg, hok, ha, hb, hret, hlk, hml, hown, hwm, hsa, hsb, hR1, hR2, hR3, hR4⟩ := id C
  have hd9 := (hok.get hi).1
  subst hn
  rw [Nat.add_sub_cancel_left, ← hb] at hd9
  have hz0 : (nI sz).toNatClampNeg = sz := nI_clamp (by omega)
  have hz1 : (nI 0).toNatClampNeg = 0 := nI_clamp (by omega)
  have g0 : H[ga G q0]? = some (arrV (gk G 0) L0 (fun j => .int (M.1 q0 j))) := hH.1.1 q0 _ hs0 hc0
  have g1 : H[ga G q1]? = some (arrV (gk G 0) L1 (fun j => .int (M.1 q1 j))) := hH.1.1 q1 _ hs1 hc1
  obtain ⟨-, k0, hk0, cm0, hkk0⟩ := (arrOk (t := 0) (by decide) hg hwm) L0 (fun j => .int (M.1 q0 j))
  obtain ⟨-, k1, hk1, cm1, hkk1⟩ := (arrOk (t := 0) (by decide) hg hwm) L1 (fun j => .int (M.1 q1 j))
  obtain ⟨vm', X', step⟩ := X.arraycopy ha hown (hg.1 _ hl.1 rfl args s hwm) (hg.1 _ hl.2.1 rfl args s hwm) (hg.1 _ hl.2.2.1 rfl args s hwm) (hg.1 _ hl.2.2.2 rfl args s hwm) (src := ga G q0) (dst := ga G q1) (cs := arrV (gk G 0) L0 (fun j => .int (M.1 q0 j))) (cd := arrV (gk G 0) L1 (fun j => .int (M.1 q1 j))) (srcPos := nI 0) (destPos := nI 0) (n := nI sz) (by rw [hT]; exact g0) (by rw [hT]; exact g1)
    (fun _ h => by cases h) (fun _ h => by cases h) (fun h => by cases h) (fun h => by cases h) hk0 hk1 hkk0 hkk1 (by simp [aty, refKind]) (nI_nn (by omega)) (nI_nn (by omega)) (nI_nn (by omega))
    (by rw [nI_toInt (by omega), nI_toInt (by omega), arrV_size]; omega) (by rw [nI_toInt (by omega), nI_toInt (by omega), arrV_size]; omega)
    (fun vm₁ _ i hi9 => by
      rw [hz0] at hi9
      rw [hz1]
      have e : (arrV (gk G 0) L0 (fun j => .int (M.1 q0 j))).slots.getD (0 + i) .null = .int (M.1 q0 (0 + i)) := by
        rw [Array.getD_eq_getD_getElem?, arrV_read _ _ (by omega)]
        rfl
      exact ⟨by rw [e]; rfl, by rw [e]; exact trivial⟩)
    (g := F0 m pc ls (.int (nI sz) :: .int (nI 0) :: .ref (ga G q1) :: .int (nI 0) :: .ref (ga G q0) :: st)) rfl (by rw [hml]; exact hL9.1) (rest := st) rfl hd9 (by omega)
    (by
      have : nativeFrameWords "java/lang/System" "arraycopy" 5 + 11 ≤ 56 := by decide +kernel
      show 2 * 0 + (st.map fun v => v.category).sum + _ ≤ _
      omega)
  have e1 : copied (arrV (gk G 0) L0 (fun j => .int (M.1 q0 j))) (arrV (gk G 0) L1 (fun j => .int (M.1 q1 j))) (nI 0) (nI 0) (nI sz) = arrV (gk G 0) L1 (fun j => .int (va_cpy (M.1 q0) (M.1 q1) (nI 0).toNatClampNeg (nI 0).toNatClampNeg (nI sz).toNatClampNeg j)) := va_copied (fun z => .int z) (gk G 0) (gk G 0) (M.1 q0) (M.1 q1) (by rw [hz0, hz1]; omega)
  rw [hz0, hz1] at e1
  rw [e1] at X' step
  have hlt : ga G q1 < H.size := (Array.getElem?_eq_some_iff.mp g1).1
  have hheap : ((T.setVm vm').setCell (ga G q1) (arrV (gk G 0) L1 (fun j => .int (va_cpy (M.1 q0) (M.1 q1) 0 0 sz j)))).heap = H.setIfInBounds (ga G q1) (arrV (gk G 0) L1 (fun j => .int (va_cpy (M.1 q0) (M.1 q1) 0 0 sz j))) := by rw [← hT]; rfl
  have oq : ∀ q : Nat, q ≠ ga G q1 → (H.setIfInBounds (ga G q1) (arrV (gk G 0) L1 (fun j => .int (va_cpy (M.1 q0) (M.1 q1) 0 0 sz j))))[q]? = H[q]? := fun q hq => by simp [Array.getElem?_setIfInBounds, Ne.symm hq]
  obtain ⟨t2, a1, b1⟩ := kk p e R s m args below meth c _ _ ls C hx (hH.cell (locs1 := _) hg hs1 hc1 (M1 := cpI M q0 q1 sz) (fun k' hne j => ⟨if_neg (fun z => hne z.1), rfl⟩) oq (by simp) (by
      show (H.setIfInBounds (ga G q1) _)[ga G q1]? = some (arrV (gk G 0) L1 (fun j => .int ((cpI M q0 q1 sz).1 q1 j)))
      rw [Array.getElem?_setIfInBounds, if_pos rfl, if_pos hlt]
      congr 2
      funext j
      simp [cpI, va_cpy]) (fun z hz => by
      rcases List.mem_append.mp hz with h | h
      · exact Or.inl h
      · obtain ⟨w, -, hw⟩ := List.mem_map.mp h
        rw [← hw]
        exact Or.inr rfl)) hL9 _ hheap X'
  exact ⟨t2, step t2 a1, b1⟩
end XCP
