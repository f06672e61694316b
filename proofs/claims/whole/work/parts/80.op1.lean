/-! THE OPERATIONS OF BOTH, over what is held -/
def OpR (G : Gd) (yc ym : Mt) (as : List Value) (A : Ab) (v : Option Value) (A' : Ab) : Prop := (∀ M, RC A M → Ce G yc 64 (.ref (ga G (0, 0)) :: as) M (.inl v) (PC M A') 0) ∧ ∀ M, RM A M → Ce G ym 16 (.ref (ga G (40, 0)) :: as) M (.inl v) (PMo M A' 0) 0
def OpX (G : Gd) (yc ym : Mt) (as : List Value) (A : Ab) (E : String) (v : Option Value) (th : Nat) (A' : Ab) : Prop := (∀ M, RC A M → Ce G yc 64 (.ref (ga G (0, 0)) :: as) M (.inr E) (PC M A') 1) ∧ ∀ M, RM A M → Ce G ym 16 (.ref (ga G (40, 0)) :: as) M (.inl v) (PMo M A' th) 0
theorem pc_rf {A : Ab} {M : Mm} (hR : RC A M) : PC M A M := ⟨hR, Eqn.rf⟩
theorem pm_t {A : Ab} {M : Mm} (hR : RM A M) (th : Nat) : PMo M A th (ui M (40, 0) 0 (nI th)) := ⟨hR.eq (EqF.rf.ui (by simp [onR])), by simp [ui], Eqn.rf.ui (by simp)⟩
theorem th_cases (n : Nat) (th : Int32) : (∃ i, i < n ∧ th = nI i) ∨ ∀ i, i < n → th ≠ nI i := by
  by_cases h : ∃ i, i < n ∧ th = nI i
  · exact Or.inl h
  · exact Or.inr fun i hi e => h ⟨i, hi, e⟩
theorem i_cases (i : Int32) : i < 0 ∨ ∃ j, j < 2 ^ 31 ∧ i = nI j := by
  by_cases h : i < 0
  · exact Or.inl h
  · exact Or.inr (nI_of h)
theorem by_item {c v : Int64} {b j : Nat} (hb : b < 256) (hj : j < 8) (ev : v = 16 * lN b + 4) (h : uN c / 2 ^ (8 * j) % 256 = uN (sh4 v)) : 16 * ((c.toUInt64 >>> ((nI (8 * j)).toInt64.toUInt64 &&& Int64.toUInt64 63)).toInt64 &&& 255) + 4 = v := by
  have e : ((c.toUInt64 >>> ((nI (8 * j)).toInt64.toUInt64 &&& Int64.toUInt64 63)).toInt64 &&& 255) = lN b := uN_inj (by rw [uN_bk hj, h, ev, by16 hb, uN_lN (by omega)])
  rw [e, ev]
section O1
variable {G : Gd} {A : Ab}
theorem op_things (hG : Gok G) : OpR G mX8_things mX9_things [] A (some (.int (nI (aH A).length))) A :=
  ⟨fun M hR => Ct.e (c_things hG hR.2.2.2.1 hR.1.n40) (pc_rf hR), fun M hR => Ct.e (c_mthings hG hR.2.2.2.1 hR.n40) (pm_t hR 0)⟩
theorem op_size (hG : Gok G) : OpR G mX8_size mX9_size [] A (some (.int (nI (aR A).length))) A :=
  ⟨fun M hR => Ct.e (c_size hG hR.1.2.2.2.2.1 hR.1.2.2.2.2.2.2.2.2.2.2) (pc_rf hR), fun M hR => Ct.e (c_msize hG hR.1.2.2.2.2.2.1 hR.1.2.2.2.2.2.2.2.2.2.2.2) (pm_t hR 0)⟩
theorem op_fault (hG : Gok G) : OpR G mX8_fault mX9_fault [] A (some (.int (aF A))) A :=
  ⟨fun M hR => by have h := c_fault (d := 64) (M := M) hG; rw [hR.2.2.2.2] at h; exact Ct.e h (pc_rf hR), fun M hR => by have h := c_mfault (d := 16) (M := M) hG; rw [hR.2.2.2.2] at h; exact Ct.e h (pm_t hR 0)⟩
theorem op_byteAt (hG : Gok G) (i : Int32) : ∃ x, OpR G mX8_byteAt mX9_byteAt [.int i] A (some (.int x)) A := by
  rcases i_cases i with h | ⟨j, hj, rfl⟩
  · exact ⟨-1, fun M hR => Ct.e (c_byteAtN hG h) (pc_rf hR), fun M hR => Ct.e (c_mbyteAtN hG h) (pm_t hR 0)⟩
  · by_cases hl : j < (aR A).length
    · refine ⟨nI ((aR A)[j]), fun M hR => ?_, fun M hR => ?_⟩
      · have h := c_byteAt (d := 64) hG hR.1.2.2.2.2.1 hR.1.2.2.2.2.2.2.2.2.2.2 hl
        rw [hR.1.2.2.2.2.2.1 j _ (List.getElem?_eq_getElem hl)] at h
        exact Ct.e h (pc_rf hR)
      · have h := c_mbyteAt (d := 16) hG hR.1.2.2.2.2.2.1 hR.1.2.2.2.2.2.2.2.2.2.2.2 hl
        rw [hR.1.2.2.2.2.2.2.1 j _ (List.getElem?_eq_getElem hl)] at h
        exact Ct.e h (pm_t hR 0)
    · exact ⟨-1, fun M hR => Ct.e (c_byteAtO hG hR.1.2.2.2.2.1 hR.1.2.2.2.2.2.2.2.2.2.2 (by omega) hj) (pc_rf hR), fun M hR => Ct.e (c_mbyteAtO hG hR.1.2.2.2.2.2.1 hR.1.2.2.2.2.2.2.2.2.2.2.2 (by omega) hj) (pm_t hR 0)⟩
theorem op_bits (hG : Gok G) (i : Int32) : ∃ x, OpR G mX8_bits mX9_bits [.int i] A (some (.long x)) A := by
  rcases i_cases i with h | ⟨j, hj, rfl⟩
  · exact ⟨0, fun M hR => Ct.e (c_bitsN hG h) (pc_rf hR), fun M hR => Ct.e (c_mbitsN hG h) (pm_t hR 0)⟩
  · by_cases hl : j < (aW A).length
    · refine ⟨(aW A)[j], fun M hR => ?_, fun M hR => ?_⟩
      · have h := c_bits (d := 64) hG hR.2.1 hR.1.nW hl
        rw [hR.1.1 j _ (List.getElem?_eq_getElem hl)] at h
        exact Ct.e h (pc_rf hR)
      · have h := c_mbits (d := 16) hG hR.2.1 hR.nW hl
        rw [hR.1.1 j _ (List.getElem?_eq_getElem hl)] at h
        exact Ct.e h (pm_t hR 0)
    · exact ⟨0, fun M hR => Ct.e (c_bitsO hG hR.2.1 hR.1.nW (by omega) hj) (pc_rf hR), fun M hR => Ct.e (c_mbitsO hG hR.2.1 hR.nW (by omega) hj) (pm_t hR 0)⟩
theorem op_kind (hG : Gok G) (th : Int32) : ∃ x, OpR G mX8_kind mX9_kind [.int th] A (some (.int x)) A := by
  rcases th_cases (aH A).length th with ⟨i, hi, rfl⟩ | ho
  · obtain ⟨x, hx⟩ : ∃ x, (aH A)[i]? = some x := ⟨_, List.getElem?_eq_getElem hi⟩
    exact ⟨nI (tK x), fun M hR => Ct.e (c_kind hG (by decide) hR.2.2.2.1 hR.1.n40 hi (hR.1.2.2.1 i x hx).1) (pc_rf hR), fun M hR => Ct.e (c_mkind hG (by decide) hR.2.2.2.1 hR.n40 hi (hR.1.2.2.1 i x hx).1) (pm_t hR 0)⟩
  · exact ⟨-1, fun M hR => Ct.e (c_kindO hG (by decide) hR.2.2.2.1 hR.1.n40 ho) (pc_rf hR), fun M hR => Ct.e (c_mkindO hG (by decide) hR.2.2.2.1 hR.n40 ho) (pm_t hR 0)⟩
theorem op_count (hG : Gok G) (th : Int32) : ∃ x, OpR G mX8_count mX9_count [.int th] A (some (.int x)) A := by
  rcases th_cases (aH A).length th with ⟨i, hi, rfl⟩ | ho
  · obtain ⟨x, hx⟩ : ∃ x, (aH A)[i]? = some x := ⟨_, List.getElem?_eq_getElem hi⟩
    exact ⟨nI (tL x).length, fun M hR => Ct.e (c_count hG (by decide) hR.2.2.2.1 hR.1.n40 hi (hR.1.2.2.1 i x hx).2.2.2.1.1) (pc_rf hR), fun M hR => Ct.e (c_mcount hG (by decide) hR.2.2.2.1 hR.n40 hi (hR.1.2.2.1 i x hx).2.1) (pm_t hR 0)⟩
  · exact ⟨-1, fun M hR => Ct.e (c_countO hG (by decide) hR.2.2.2.1 hR.1.n40 ho) (pc_rf hR), fun M hR => Ct.e (c_mcountO hG (by decide) hR.2.2.2.1 hR.n40 ho) (pm_t hR 0)⟩
theorem op_pairs (hG : Gok G) (th : Int32) : ∃ x, OpR G mX8_pairs mX9_pairs [.int th] A (some (.int x)) A := by
  rcases th_cases (aH A).length th with ⟨i, hi, rfl⟩ | ho
  · obtain ⟨x, hx⟩ : ∃ x, (aH A)[i]? = some x := ⟨_, List.getElem?_eq_getElem hi⟩
    exact ⟨nI (tY x).length, fun M hR => Ct.e (c_pairs hG (by decide) hR.2.2.2.1 hR.1.n40 hi (hR.1.2.2.1 i x hx).2.2.2.2.1.1) (pc_rf hR), fun M hR => Ct.e (c_mpairs hG (by decide) hR.2.2.2.1 hR.n40 hi (hR.1.2.2.1 i x hx).2.2.2.1) (pm_t hR 0)⟩
  · exact ⟨nI 0, fun M hR => Ct.e (c_pairsO hG (by decide) hR.2.2.2.1 hR.1.n40 ho) (pc_rf hR), fun M hR => Ct.e (c_mpairsO hG (by decide) hR.2.2.2.1 hR.n40 ho) (pm_t hR 0)⟩
theorem op_traitsOf (hG : Gok G) (th : Int32) : ∃ x, OpR G mX8_traitsOf mX9_traitsOf [.int th] A (some (.int x)) A := by
  rcases th_cases (aH A).length th with ⟨i, hi, rfl⟩ | ho
  · obtain ⟨x, hx⟩ : ∃ x, (aH A)[i]? = some x := ⟨_, List.getElem?_eq_getElem hi⟩
    refine ⟨trv x, fun M hR => ?_, fun M hR => ?_⟩
    · have h := c_traitsOf (d := 64) hG (by decide) hR.2.2.2.1 hR.1.n40 hi
      rw [(hR.1.2.2.1 i x hx).2.1] at h
      exact Ct.e h (pc_rf hR)
    · by_cases hk : tK x = 10
      · have h := c_mtraitsOf (d := 16) hG (by decide) hR.2.2.2.1 hR.n40 hi ((hR.1.2.2.1 i x hx).1.trans (by rw [hk]))
        rw [(hR.1.2.2.1 i x hx).2.2.1] at h
        exact Ct.e h (pm_t hR 0)
      · have h := c_mtraitsOfK (d := 16) hG (by decide) hR.2.2.2.1 hR.n40 hi (hR.1.2.2.1 i x hx).1 (hR.1.2.2.1 i x hx).2.2.2.2.2.2.2.2.2.2.2.2 hk
        rw [show trv x = -1 from if_neg hk]
        exact Ct.e h (pm_t hR 0)
  · exact ⟨-1, fun M hR => Ct.e (c_traitsOfO hG (by decide) hR.2.2.2.1 hR.1.n40 ho) (pc_rf hR), fun M hR => Ct.e (c_mtraitsOfO hG (by decide) hR.2.2.2.1 hR.n40 ho) (pm_t hR 0)⟩
theorem op_item (hG : Gok G) (hwf : wfA A) (th j : Int32) : ∃ x, OpR G mX8_item mX9_item [.int th, .int j] A (some (.long x)) A := by
  rcases th_cases (aH A).length th with ⟨i, hi, rfl⟩ | ho
  · obtain ⟨x, hx⟩ : ∃ x, (aH A)[i]? = some x := ⟨_, List.getElem?_eq_getElem hi⟩
    have hok := hwf.2.2.1 _ (at_mem hx)
    rcases i_cases j with hj | ⟨j, hj2, rfl⟩
    · refine ⟨-1, fun M hR => ?_, fun M hR => Ct.e (c_mitemN hG (by decide) hR.2.2.2.1 hR.n40 hi hj) (pm_t hR 0)⟩
      have ht := hR.1.2.2.1 i x hx
      by_cases h8 : tK x = 8
      · exact Ct.e (c_itemZN hG (by decide) hR.2.2.2.1 hR.1.n40 hi ht.2.2.2.1.1 ht.2.2.2.2.2.2.1 (ht.1.trans (by rw [h8])) hj) (pc_rf hR)
      · exact Ct.e (c_itemN hG (by decide) hR.2.2.2.1 hR.1.n40 hi ht.2.2.2.1.1 ht.2.2.2.2.2.2.1 ht.1 ht.2.2.2.2.2.2.2.2.2 h8 hj) (pc_rf hR)
    · by_cases h8 : tK x = 8
      · by_cases h0 : j = 0
        · subst h0
          refine ⟨tD x, fun M hR => ?_, fun M hR => ?_⟩
          · have h := c_itemD (d := 64) hG (by decide) hR.2.2.2.1 hR.1.n40 hi ((hR.1.2.2.1 i x hx).1.trans (by rw [h8]))
            rw [(hR.1.2.2.1 i x hx).2.2.1] at h
            exact Ct.e h (pc_rf hR)
          · have h := c_mitemD (d := 16) hG (by decide) hR.2.2.2.1 hR.n40 hi ((hR.1.2.2.1 i x hx).1.trans (by rw [h8]))
            rw [(hR.1.2.2.1 i x hx).2.2.2.2.2.2.2.1 h8] at h
            exact Ct.e h (pm_t hR 0)
        · have hl := hok.2.2.2.2.2.2.2.2.1 h8
          refine ⟨-1, fun M hR => ?_, fun M hR => Ct.e (c_mitemDO hG (by decide) hR.2.2.2.1 hR.n40 hi ((hR.1.2.2.1 i x hx).1.trans (by rw [h8])) (by omega) hj2) (pm_t hR 0)⟩
          have ht := hR.1.2.2.1 i x hx
          exact Ct.e (c_itemZO hG (by decide) hR.2.2.2.1 hR.1.n40 hi ht.2.2.2.1.1 ht.2.2.2.2.2.2.1 (ht.1.trans (by rw [h8])) (by rw [hl]; exact Nat.zero_le _) hj2 (by omega)) (pc_rf hR)
      · by_cases hl : j < (tL x).length
        · refine ⟨(tL x)[j]?.getD 0, fun M hR => ?_, fun M hR => ?_⟩
          · have ht := hR.1.2.2.1 i x hx
            have h := c_itemI (d := 64) hG (by decide) hR.2.2.2.1 hR.1.n40 hi ht.2.2.2.1.1 ht.2.2.2.2.2.2.1 ht.1 ht.2.2.2.2.2.2.2.2.2 h8 hl
            rw [ht.2.2.2.1.2.at hl] at h
            exact Ct.e h (pc_rf hR)
          · have ht := hR.1.2.2.1 i x hx
            have hl8 := ht.2.2.2.2.2.2.2.2.2.1
            by_cases h12 : tK x = 12
            · have h := c_mitemB (d := 16) hG (by decide) hR.2.2.2.1 hR.n40 hi (ht.1.trans (by rw [h12])) ht.2.1 hl8 hl
              obtain ⟨b, hb, eb⟩ := k12 hok h12 hl
              rw [by_item hb (by omega) eb (ht.2.2.2.2.2.2.2.2.1 h12 j _ (by rw [List.getElem?_eq_getElem hl]; rfl))] at h
              exact Ct.e h (pm_t hR 0)
            · have h := c_mitemI (d := 16) hG (by decide) hR.2.2.2.1 hR.n40 hi ht.1 ht.2.2.2.2.2.2.2.2.2.2.2.2 h8 h12 ht.2.1 hl8 hl
              rw [(ht.2.2.2.2.2.2.1 h12).at (k := j) hl] at h
              exact Ct.e h (pm_t hR 0)
        · refine ⟨-1, fun M hR => ?_, fun M hR => ?_⟩
          · have ht := hR.1.2.2.1 i x hx
            exact Ct.e (c_itemO hG (by decide) hR.2.2.2.1 hR.1.n40 hi ht.2.2.2.1.1 ht.2.2.2.2.2.2.1 ht.1 ht.2.2.2.2.2.2.2.2.2 h8 (by omega) hj2) (pc_rf hR)
          · have ht := hR.1.2.2.1 i x hx
            exact Ct.e (c_mitemO hG (by decide) hR.2.2.2.1 hR.n40 hi ht.1 ht.2.2.2.2.2.2.2.2.2.2.2.2 h8 ht.2.1 ht.2.2.2.2.2.2.2.2.2.1 (by omega) hj2) (pm_t hR 0)
  · exact ⟨-1, fun M hR => Ct.e (c_itemT hG (by decide) hR.2.2.2.1 hR.1.n40 ho j) (pc_rf hR), fun M hR => Ct.e (c_mitemT hG (by decide) hR.2.2.2.1 hR.n40 ho j) (pm_t hR 0)⟩
theorem op_pair (hG : Gok G) (th j : Int32) (kb : Prop) : ∃ x, OpR G mX8_pair mX9_pair [.int th, .int j, .int (bI kb)] A (some (.long x)) A := by
  have e01 : bI kb = nI 1 ∨ bI kb = nI 0 := by
    by_cases h : kb
    · exact Or.inl (bI_t h)
    · exact Or.inr (bI_f h)
  rcases th_cases (aH A).length th with ⟨i, hi, rfl⟩ | ho
  · obtain ⟨x, hx⟩ : ∃ x, (aH A)[i]? = some x := ⟨_, List.getElem?_eq_getElem hi⟩
    rcases i_cases j with hj | ⟨j, hj2, rfl⟩
    · rcases e01 with e | e <;> rw [e]
      · exact ⟨-1, fun M hR => Ct.e (c_pair1N hG (by decide) hR.2.2.2.1 hR.1.n40 hi (hR.1.2.2.1 i x hx).2.2.2.2.1.1 (hR.1.2.2.1 i x hx).2.2.2.2.2.2.2.1 hj) (pc_rf hR), fun M hR => Ct.e (c_mpairN hG (by decide) hR.2.2.2.1 hR.n40 hi _ hj) (pm_t hR 0)⟩
      · exact ⟨-1, fun M hR => Ct.e (c_pair0N hG (by decide) hR.2.2.2.1 hR.1.n40 hi (hR.1.2.2.1 i x hx).2.2.2.2.2.1.1 (by have h1 := (hR.1.2.2.1 i x hx).2.2.2.2.2.2.2.1; have h2 := (hR.1.2.2.1 i x hx).2.2.2.2.2.2.2.2.1; omega) hj) (pc_rf hR), fun M hR => Ct.e (c_mpairN hG (by decide) hR.2.2.2.1 hR.n40 hi _ hj) (pm_t hR 0)⟩
    · by_cases hl : j < (tY x).length
      · rcases e01 with e | e <;> rw [e]
        · refine ⟨(tY x)[j]?.getD 0, fun M hR => ?_, fun M hR => ?_⟩
          · have ht := hR.1.2.2.1 i x hx
            have h := c_pair1I (d := 64) hG (by decide) hR.2.2.2.1 hR.1.n40 hi ht.2.2.2.2.1.1 ht.2.2.2.2.2.2.2.1 hl
            rw [ht.2.2.2.2.1.2.at hl] at h
            exact Ct.e h (pc_rf hR)
          · have ht := hR.1.2.2.1 i x hx
            have h := c_mpair1 (d := 16) hG (by decide) hR.2.2.2.1 hR.n40 hi ht.2.2.2.1 ht.2.2.2.2.2.2.2.2.2.2.1 hl
            rw [ht.2.2.2.2.1.at (k := j) hl] at h
            exact Ct.e h (pm_t hR 0)
        · refine ⟨(tV x)[j]?.getD 0, fun M hR => ?_, fun M hR => ?_⟩
          · have ht := hR.1.2.2.1 i x hx
            have hv := ht.2.2.2.2.2.2.2.2.1
            have h := c_pair0I (d := 64) hG (by decide) hR.2.2.2.1 hR.1.n40 hi ht.2.2.2.2.2.1.1 (by have := ht.2.2.2.2.2.2.2.1; omega) (show j < (tV x).length by omega)
            rw [ht.2.2.2.2.2.1.2.at (show j < (tV x).length by omega)] at h
            exact Ct.e h (pc_rf hR)
          · have ht := hR.1.2.2.1 i x hx
            have hv := ht.2.2.2.2.2.2.2.2.2.2.2.1
            have h := c_mpair0 (d := 16) hG (by decide) hR.2.2.2.1 hR.n40 hi ht.2.2.2.1 ht.2.2.2.2.2.2.2.2.2.2.1 hl
            rw [ht.2.2.2.2.2.1.at (k := j) (show j < (tV x).length by omega)] at h
            exact Ct.e h (pm_t hR 0)
      · rcases e01 with e | e <;> rw [e]
        · exact ⟨-1, fun M hR => Ct.e (c_pair1O hG (by decide) hR.2.2.2.1 hR.1.n40 hi (hR.1.2.2.1 i x hx).2.2.2.2.1.1 (hR.1.2.2.1 i x hx).2.2.2.2.2.2.2.1 (by omega) hj2) (pc_rf hR), fun M hR => Ct.e (c_mpairO hG (by decide) hR.2.2.2.1 hR.n40 hi (hR.1.2.2.1 i x hx).2.2.2.1 (hR.1.2.2.1 i x hx).2.2.2.2.2.2.2.2.2.2.1 _ (by omega) hj2) (pm_t hR 0)⟩
        · exact ⟨-1, fun M hR => Ct.e (c_pair0O hG (by decide) hR.2.2.2.1 hR.1.n40 hi (hR.1.2.2.1 i x hx).2.2.2.2.2.1.1 (by have h1 := (hR.1.2.2.1 i x hx).2.2.2.2.2.2.2.1; have h2 := (hR.1.2.2.1 i x hx).2.2.2.2.2.2.2.2.1; omega) (by have h2 := (hR.1.2.2.1 i x hx).2.2.2.2.2.2.2.2.1; omega) hj2) (pc_rf hR), fun M hR => Ct.e (c_mpairO hG (by decide) hR.2.2.2.1 hR.n40 hi (hR.1.2.2.1 i x hx).2.2.2.1 (hR.1.2.2.1 i x hx).2.2.2.2.2.2.2.2.2.2.1 _ (by omega) hj2) (pm_t hR 0)⟩
  · exact ⟨-1, fun M hR => Ct.e (c_pairT hG (by decide) hR.2.2.2.1 hR.1.n40 ho j _) (pc_rf hR), fun M hR => Ct.e (c_mpairT hG (by decide) hR.2.2.2.1 hR.n40 ho j _) (pm_t hR 0)⟩
theorem op_same (hG : Gok G) (hwf : wfA A) (a b : Int64) : ∃ x, OpR G mX8_same mX9_same [.long a, .long b] A (some (.int x)) A :=
  ⟨bI (sameA A a b), fun M hR => c_same hG (by decide) hwf hR a b, fun M hR => c_msame hG (by decide) hwf hR a b⟩
end O1
