section O4
variable {G : Gd} {A : Ab}
theorem op_put (hG : Gok G) (hwf : wfA A) (hz : szA A) (th : Int32) (e v : Int64) : ∃ A', wfA A' ∧ ((∃ x, OpR G mX8_put mX9_put [.int th, .long e, .long v] A (some (.int x)) A') ∨ (∃ x, OpX G mX8_put mX9_put [.int th, .long e, .long v] A IAE (some (.int x)) 1 A') ∨ ∃ x, OpX G mX8_put mX9_put [.int th, .long e, .long v] A ISE (some (.int x)) 2 A') := by
  rcases th_cases (aH A).length th with ⟨i, hi, rfl⟩ | ho
  · obtain ⟨x, hx⟩ : ∃ x, (aH A)[i]? = some x := ⟨_, List.getElem?_eq_getElem hi⟩
    have hok := hwf.2.2.1 _ (at_mem hx)
    have hz2 := hz.2.1
    by_cases hk : tK x = 9
    · by_cases hp : isTx e ∧ e ≠ 0
      · obtain ⟨htx, he0⟩ := hp
        by_cases hv : vOK A v
        · by_cases hin : e ∈ tY x
          · obtain ⟨j, hj⟩ : ∃ j, (tY x)[j]? = some e := by
              obtain ⟨j, hj, e1⟩ := List.mem_iff_getElem.mp hin
              exact ⟨j, by rw [List.getElem?_eq_getElem hj, e1]⟩
            have hjl := at_lt hj
            refine ⟨setTh A i (thP x (tY x) ((tV x).set j v)), wf_set hwf (thOK_P hok (mem_set' hok.2.2.1 hv) hok.2.2.2.1 (by omega) (by omega) (fun h => absurd h (by omega)) hok.2.2.2.2.2.2.2.2.2), Or.inl ⟨nI (tY x).length, fun M hR => ?_, fun M hR => ?_⟩⟩
            · have ht := hR.1.2.2.1 i x hx
              have hvl := ht.2.2.2.2.2.2.2.2.1
              exact Ct.e (c_put9R hG (by decide) e v hR.2.2.2.1 hz.2.2.1 hR.2.1 hz.1 hi (ht.1.trans (by rw [hk])) ht.2.2.2.2.1.1 (ht.2.2.2.2.2.1.1.trans (by rw [hvl])) ht.2.2.2.2.2.2.2.1 ⟨htx, he0⟩ hv (fx_is ht.2.2.2.2.1.2 hok.2.2.2.2.2.2.2.2.2 hj) hjl) (rc_sH hR (EqF.rf.ul (by simp)) ((pt_sV ht.pt).th rfl ht.2.2.2.2.2.2.1 ht.2.2.2.2.2.2.2.1 (by rw [List.length_set]; exact hvl) ht.2.2.2.2.2.2.2.2.2))
            · have ht := hR.1.2.2.1 i x hx
              have hl6 := ht.2.2.2.2.2.2.2.2.2.2.1
              exact Ct.e (c_mput9R hG (by decide) e v hR.2.2.2.1 hz.2.2.1 hR.2.1 hz.1 hi (ht.1.trans (by rw [hk])) ht.2.2.2.1 hl6 ⟨he0, htx, hv⟩ (lxf_is ht.2.2.2.2.1 hok.2.2.2.2.2.2.2.2.2 hj) hjl) (rm_sH hR ((EqF.rf.ui (by simp)).ul (by unfold thc; simp; omega)) (by simp [ui, ul]) (mTh_R ht (by omega)))
          · by_cases hl : (tY x).length = 6
            · refine ⟨A, hwf, Or.inr (Or.inr ⟨nI 0, fun M hR => ?_, fun M hR => ?_⟩)⟩
              · have ht := hR.1.2.2.1 i x hx
                have hf := fx_no ht.2.2.2.2.1.2 hin
                rw [hl] at hf
                exact Ct.e (c_put9F hG (by decide) e v hR.2.2.2.1 hz.2.2.1 hR.2.1 hz.1 hi (ht.1.trans (by rw [hk])) (ht.2.2.2.2.1.1.trans (by rw [hl])) ⟨htx, he0⟩ hv hf) (pc_rf hR)
              · have ht := hR.1.2.2.1 i x hx
                have hf := lxf_no ht.2.2.2.2.1 hin
                rw [hl] at hf
                exact Ct.e (c_mput9F hG (by decide) e v hR.2.2.2.1 hz.2.2.1 hR.2.1 hz.1 hi (ht.1.trans (by rw [hk])) (ht.2.2.2.1.trans (by rw [hl])) ⟨he0, htx, hv⟩ hf) (pm_t hR 2)
            · refine ⟨setTh A i (thP x (tY x ++ [e]) (tV x ++ [v])), wf_set hwf (thOK_P hok (all_push hok.2.2.1 hv) (all_push hok.2.2.2.1 ⟨htx, he0⟩) (by omega) (by omega) (fun h => absurd h (by omega)) (nd_push hok.2.2.2.2.2.2.2.2.2 hin)), Or.inl ⟨nI ((tY x).length + 1), fun M hR => ?_, fun M hR => ?_⟩⟩
              · have ht := hR.1.2.2.1 i x hx
                have hvl := ht.2.2.2.2.2.2.2.2.1
                have hl6 : (tY x).length < 6 := by have := ht.2.2.2.2.2.2.2.1; omega
                have hp := (ht.pt.aY (e := e)).aV (e := v)
                rw [hvl] at hp
                exact Ct.e (c_put9A hG (by decide) e v hR.2.2.2.1 hz.2.2.1 hR.2.1 hz.1 hi (ht.1.trans (by rw [hk])) ht.2.2.2.2.1.1 (ht.2.2.2.2.2.1.1.trans (by rw [hvl])) hl6 ⟨htx, he0⟩ hv (fx_no ht.2.2.2.2.1.2 hin)) (rc_sH hR ((((EqF.rf.ul (by simp)).ui (by simp)).ul (by simp)).ui (by simp)) (hp.th rfl ht.2.2.2.2.2.2.1 (by simp; omega) (by simp [hvl]) ht.2.2.2.2.2.2.2.2.2))
              · have ht := hR.1.2.2.1 i x hx
                have hl6 : (tY x).length < 6 := by have := ht.2.2.2.2.2.2.2.2.2.2.1; omega
                exact Ct.e (c_mput9A hG (by decide) e v hR.2.2.2.1 hz.2.2.1 hR.2.1 hz.1 hi (ht.1.trans (by rw [hk])) ht.2.2.2.1 hl6 ⟨he0, htx, hv⟩ (lxf_no ht.2.2.2.2.1 hin)) (rm_sH hR ((((EqF.rf.ui (by simp)).ul (by unfold thc; simp; omega)).ui (by simp [thc])).ul (by unfold thc; simp; omega)) (by simp [ui, ul]) (mTh_A ht (by omega) hl6))
        · exact ⟨A, hwf, Or.inr (Or.inl ⟨nI 0, fun M hR => Ct.e (c_put9V hG (by decide) e v hR.2.2.2.1 hz.2.2.1 hR.2.1 hz.1 hi ((hR.1.2.2.1 i x hx).1.trans (by rw [hk])) ⟨htx, he0⟩ hv) (pc_rf hR), fun M hR => Ct.e (c_mput9X hG (by decide) e v hR.2.2.2.1 hz.2.2.1 hR.2.1 hz.1 hi ((hR.1.2.2.1 i x hx).1.trans (by rw [hk])) (fun z => hv z.2.2)) (pm_t hR 1)⟩)⟩
      · exact ⟨A, hwf, Or.inr (Or.inl ⟨nI 0, fun M hR => Ct.e (c_put9K hG (by decide) e v hR.2.2.2.1 hz.2.2.1 hR.2.1 hz.1 hi ((hR.1.2.2.1 i x hx).1.trans (by rw [hk])) hp) (pc_rf hR), fun M hR => Ct.e (c_mput9X hG (by decide) e v hR.2.2.2.1 hz.2.2.1 hR.2.1 hz.1 hi ((hR.1.2.2.1 i x hx).1.trans (by rw [hk])) (fun z => hp ⟨z.2.1, z.1⟩)) (pm_t hR 1)⟩)⟩
    · by_cases hk10 : tK x = 10
      · have hk := hk10
        obtain ⟨y, hy, hyl, hyd, hnmY⟩ := hok.2.2.2.2.1 hk
        have hy3 : (rM y).length ≤ 3 := (hwf.1 y (at_mem hy)).2.1
        have htl := at_lt hy
        have htr : trv x = nI (tT x) := if_pos hk
        by_cases hp : (isTx e ∧ e ≠ 0) ∧ rD y = true ∧ ¬ e ∈ rM y
        · obtain ⟨⟨htx, he0⟩, hdy, hnm⟩ := hp
          by_cases hv : vOK A v
          · by_cases hin : e ∈ tY x
            · obtain ⟨j, hj⟩ : ∃ j, (tY x)[j]? = some e := by
                obtain ⟨j, hj, e1⟩ := List.mem_iff_getElem.mp hin
                exact ⟨j, by rw [List.getElem?_eq_getElem hj, e1]⟩
              have hjl := at_lt hj
              refine ⟨setTh A i (thP x (tY x) ((tV x).set j v)), wf_set hwf (thOK_P hok (mem_set' hok.2.2.1 hv) hok.2.2.2.1 (by omega) (by omega) (fun _ y2 hy2 => by rw [hy] at hy2; cases hy2; exact ⟨fun z => absurd hdy (by rw [z]; decide), hnmY⟩) hok.2.2.2.2.2.2.2.2.2), Or.inl ⟨nI (tY x).length, fun M hR => ?_, fun M hR => ?_⟩⟩
              · have ht := hR.1.2.2.1 i x hx
                have hvl := ht.2.2.2.2.2.2.2.2.1
                exact Ct.e (c_put10R hG (by decide) e v hR.2.2.2.1 hz.2.2.1 hR.2.1 hz.1 hi (ht.1.trans (by rw [hk])) (t := tT x) (m := (rM y).length) (by omega) (rD y = true) (ht.2.1.trans htr) (hR.1.2.1 _ y hy).2.1 (hR.1.2.1 _ y hy).2.2.1.1 hy3 ht.2.2.2.2.1.1 (ht.2.2.2.2.2.1.1.trans (by rw [hvl])) ht.2.2.2.2.2.2.2.1 ⟨⟨htx, he0⟩, hdy, fx_no (hR.1.2.1 _ y hy).2.2.1.2 hnm⟩ hv (fx_is ht.2.2.2.2.1.2 hok.2.2.2.2.2.2.2.2.2 hj) hjl) (rc_sH hR (EqF.rf.ul (by simp)) ((pt_sV ht.pt).th rfl ht.2.2.2.2.2.2.1 ht.2.2.2.2.2.2.2.1 (by rw [List.length_set]; exact hvl) ht.2.2.2.2.2.2.2.2.2))
              · have ht := hR.1.2.2.1 i x hx
                have hl6 := ht.2.2.2.2.2.2.2.2.2.2.1
                exact Ct.e (c_mput10R hG (by decide) e v hR.2.2.2.1 hz.2.2.1 hR.2.1 hz.1 hi (ht.1.trans (by rw [hk])) (t := tT x) (m := (rM y).length) (by omega) (rD y = true) (ht.2.2.1.trans htr) (hR.1.2.1 _ y hy).2.1 (hR.1.2.1 _ y hy).2.2.1 hy3 ht.2.2.2.1 hl6 ⟨hdy, he0, htx, hv, fun z => hnm ((LI_ex (hR.1.2.1 _ y hy).2.2.2.1).mp z)⟩ (lxf_is ht.2.2.2.2.1 hok.2.2.2.2.2.2.2.2.2 hj) hjl) (rm_sH hR ((EqF.rf.ui (by simp)).ul (by unfold thc; simp; omega)) (by simp [ui, ul]) (mTh_R ht (by omega)))
            · by_cases hl : (tY x).length = 6
              · refine ⟨A, hwf, Or.inr (Or.inr ⟨nI 0, fun M hR => ?_, fun M hR => ?_⟩)⟩
                · have ht := hR.1.2.2.1 i x hx
                  have hf := fx_no ht.2.2.2.2.1.2 hin
                  rw [hl] at hf
                  exact Ct.e (c_put10F hG (by decide) e v hR.2.2.2.1 hz.2.2.1 hR.2.1 hz.1 hi (ht.1.trans (by rw [hk])) (t := tT x) (m := (rM y).length) (by omega) (rD y = true) (ht.2.1.trans htr) (hR.1.2.1 _ y hy).2.1 (hR.1.2.1 _ y hy).2.2.1.1 hy3 (ht.2.2.2.2.1.1.trans (by rw [hl])) ⟨⟨htx, he0⟩, hdy, fx_no (hR.1.2.1 _ y hy).2.2.1.2 hnm⟩ hv hf) (pc_rf hR)
                · have ht := hR.1.2.2.1 i x hx
                  have hf := lxf_no ht.2.2.2.2.1 hin
                  rw [hl] at hf
                  exact Ct.e (c_mput10F hG (by decide) e v hR.2.2.2.1 hz.2.2.1 hR.2.1 hz.1 hi (ht.1.trans (by rw [hk])) (t := tT x) (m := (rM y).length) (by omega) (rD y = true) (ht.2.2.1.trans htr) (hR.1.2.1 _ y hy).2.1 (hR.1.2.1 _ y hy).2.2.1 hy3 (ht.2.2.2.1.trans (by rw [hl])) ⟨hdy, he0, htx, hv, fun z => hnm ((LI_ex (hR.1.2.1 _ y hy).2.2.2.1).mp z)⟩ hf) (pm_t hR 2)
              · refine ⟨setTh A i (thP x (tY x ++ [e]) (tV x ++ [v])), wf_set hwf (thOK_P hok (all_push hok.2.2.1 hv) (all_push hok.2.2.2.1 ⟨htx, he0⟩) (by omega) (by omega) (fun _ y2 hy2 => by rw [hy] at hy2; cases hy2; exact ⟨fun z => absurd hdy (by rw [z]; decide), all_push hnmY hnm⟩) (nd_push hok.2.2.2.2.2.2.2.2.2 hin)), Or.inl ⟨nI ((tY x).length + 1), fun M hR => ?_, fun M hR => ?_⟩⟩
                · have ht := hR.1.2.2.1 i x hx
                  have hvl := ht.2.2.2.2.2.2.2.2.1
                  have hl6 : (tY x).length < 6 := by have := ht.2.2.2.2.2.2.2.1; omega
                  have hp := (ht.pt.aY (e := e)).aV (e := v)
                  rw [hvl] at hp
                  exact Ct.e (c_put10A hG (by decide) e v hR.2.2.2.1 hz.2.2.1 hR.2.1 hz.1 hi (ht.1.trans (by rw [hk])) (t := tT x) (m := (rM y).length) (by omega) (rD y = true) (ht.2.1.trans htr) (hR.1.2.1 _ y hy).2.1 (hR.1.2.1 _ y hy).2.2.1.1 hy3 ht.2.2.2.2.1.1 (ht.2.2.2.2.2.1.1.trans (by rw [hvl])) hl6 ⟨⟨htx, he0⟩, hdy, fx_no (hR.1.2.1 _ y hy).2.2.1.2 hnm⟩ hv (fx_no ht.2.2.2.2.1.2 hin)) (rc_sH hR ((((EqF.rf.ul (by simp)).ui (by simp)).ul (by simp)).ui (by simp)) (hp.th rfl ht.2.2.2.2.2.2.1 (by simp; omega) (by simp [hvl]) ht.2.2.2.2.2.2.2.2.2))
                · have ht := hR.1.2.2.1 i x hx
                  have hl6 : (tY x).length < 6 := by have := ht.2.2.2.2.2.2.2.2.2.2.1; omega
                  exact Ct.e (c_mput10A hG (by decide) e v hR.2.2.2.1 hz.2.2.1 hR.2.1 hz.1 hi (ht.1.trans (by rw [hk])) (t := tT x) (m := (rM y).length) (by omega) (rD y = true) (ht.2.2.1.trans htr) (hR.1.2.1 _ y hy).2.1 (hR.1.2.1 _ y hy).2.2.1 hy3 ht.2.2.2.1 hl6 ⟨hdy, he0, htx, hv, fun z => hnm ((LI_ex (hR.1.2.1 _ y hy).2.2.2.1).mp z)⟩ (lxf_no ht.2.2.2.2.1 hin)) (rm_sH hR ((((EqF.rf.ui (by simp)).ul (by unfold thc; simp; omega)).ui (by simp [thc])).ul (by unfold thc; simp; omega)) (by simp [ui, ul]) (mTh_A ht (by omega) hl6))
          · exact ⟨A, hwf, Or.inr (Or.inl ⟨nI 0, fun M hR => Ct.e (c_put10V hG (by decide) e v hR.2.2.2.1 hz.2.2.1 hR.2.1 hz.1 hi ((hR.1.2.2.1 i x hx).1.trans (by rw [hk])) (t := tT x) (m := (rM y).length) (by omega) (rD y = true) ((hR.1.2.2.1 i x hx).2.1.trans htr) (hR.1.2.1 _ y hy).2.1 (hR.1.2.1 _ y hy).2.2.1.1 hy3 ⟨⟨htx, he0⟩, hdy, fx_no (hR.1.2.1 _ y hy).2.2.1.2 hnm⟩ hv) (pc_rf hR), fun M hR => Ct.e (c_mput10X hG (by decide) e v hR.2.2.2.1 hz.2.2.1 hR.2.1 hz.1 hi ((hR.1.2.2.1 i x hx).1.trans (by rw [hk])) (t := tT x) (m := (rM y).length) (by omega) (rD y = true) ((hR.1.2.2.1 i x hx).2.2.1.trans htr) (hR.1.2.1 _ y hy).2.1 (hR.1.2.1 _ y hy).2.2.1 hy3 (fun z => hv z.2.2.2.1)) (pm_t hR 1)⟩)⟩
        · exact ⟨A, hwf, Or.inr (Or.inl ⟨nI 0, fun M hR => Ct.e (c_put10K hG (by decide) e v hR.2.2.2.1 hz.2.2.1 hR.2.1 hz.1 hi ((hR.1.2.2.1 i x hx).1.trans (by rw [hk])) (t := tT x) (m := (rM y).length) (by omega) (rD y = true) ((hR.1.2.2.1 i x hx).2.1.trans htr) (hR.1.2.1 _ y hy).2.1 (hR.1.2.1 _ y hy).2.2.1.1 hy3 (fun z => hp ⟨z.1, z.2.1, fun w => (fx_has (hR.1.2.1 _ y hy).2.2.1.2).mpr w z.2.2⟩)) (pc_rf hR), fun M hR => Ct.e (c_mput10X hG (by decide) e v hR.2.2.2.1 hz.2.2.1 hR.2.1 hz.1 hi ((hR.1.2.2.1 i x hx).1.trans (by rw [hk])) (t := tT x) (m := (rM y).length) (by omega) (rD y = true) ((hR.1.2.2.1 i x hx).2.2.1.trans htr) (hR.1.2.1 _ y hy).2.1 (hR.1.2.1 _ y hy).2.2.1 hy3 (fun z => hp ⟨⟨z.2.2.1, z.2.1⟩, z.1, fun w => z.2.2.2.2 ((LI_ex (hR.1.2.1 _ y hy).2.2.2.1).mpr w)⟩)) (pm_t hR 1)⟩)⟩
      · exact ⟨A, hwf, Or.inr (Or.inl ⟨nI 0, fun M hR => Ct.e (c_putK hG (by decide) e v hR.2.2.2.1 hz.2.2.1 hi (hR.1.2.2.1 i x hx).1 (hR.1.2.2.1 i x hx).2.2.2.2.2.2.2.2.2 hk hk10) (pc_rf hR), fun M hR => Ct.e (c_mputK hG (by decide) e v hR.2.2.2.1 hz.2.2.1 hi (hR.1.2.2.1 i x hx).1 (hR.1.2.2.1 i x hx).2.2.2.2.2.2.2.2.2.2.2.2 hk hk10) (pm_t hR 1)⟩)⟩
  · exact ⟨A, hwf, Or.inr (Or.inl ⟨nI 0, fun M hR => Ct.e (c_putT hG (by decide) e v hR.2.2.2.1 hz.2.2.1 ho) (pc_rf hR), fun M hR => Ct.e (c_mputT hG (by decide) e v hR.2.2.2.1 hz.2.2.1 ho) (pm_t hR 1)⟩)⟩
theorem op_allow (hG : Gok G) (hwf : wfA A) (hz : szA A) (n : Int64) : ∃ A', wfA A' ∧ ∃ x, OpR G mX8_allow mX9_allow [.long n] A (some (.int x)) A' := by
  have hz4 := hz.2.2.2.1
  have hin : ∀ {M : Mm}, RM A M → ((∃ j, j < (aA A).length + 1 ∧ M.2 (54, 0) j = n) ↔ n ∈ 0 :: aA A) := fun hR => by have z := LI_ex (e := n) hR.1.2.2.2.2.1; rw [List.length_cons] at z; exact z
  by_cases h : isTx n ∧ n ≠ 0 ∧ ¬ n ∈ aA A ∧ (aA A).length < 6
  · obtain ⟨h1, h2, h3, h4⟩ := h
    exact ⟨addAl A n, wf_al hwf ⟨h1, h2⟩ h3, nI 1, fun M hR => Ct.e (c_allow hG (by decide) n hR.1.2.2.2.1.1 hz4 h1 h2 (fx_no hR.1.2.2.2.1.2 h3) h4) (rc_aA hR h4), fun M hR => Ct.e (c_mallow hG (by decide) n hR.1.2.2.2.1 (by omega) h1 (fun z => (List.mem_cons.mp ((hin hR).mp z)).elim h2 h3) (by omega)) (rm_aA hR h4)⟩
  · refine ⟨A, hwf, nI 0, fun M hR => Ct.e (c_allowX hG (by decide) n hR.1.2.2.2.1.1 hz4 (fun z => h ⟨z.1, z.2.1, fun w => (fx_has hR.1.2.2.2.1.2).mpr w z.2.2.1, z.2.2.2⟩)) (pc_rf hR), fun M hR => Ct.e (c_mallowX hG (by decide) n hR.1.2.2.2.1 (by omega) (fun z => h ⟨z.1, fun w => z.2.1 ((hin hR).mpr (by rw [w]; exact List.mem_cons_self)), fun w => z.2.1 ((hin hR).mpr (List.mem_cons_of_mem _ w)), by have := z.2.2; omega⟩)) (pm_t hR 0)⟩
theorem op_cut (hG : Gok G) (hwf : wfA A) (hz : szA A) (i : Int32) : ∃ A', wfA A' ∧ ∃ x, OpR G mX8_cut mX9_cut [.int i] A (some (.int x)) A' := by
  have hz5 := hz.2.2.2.2
  rcases i_cases i with h | ⟨j, hj, rfl⟩
  · exact ⟨A, hwf, nI 0, fun M hR => Ct.e (c_cutN hG h) (pc_rf hR), fun M hR => Ct.e (c_mcutN hG h) (pm_t hR 0)⟩
  · by_cases hl : j ≤ (aR A).length
    · have e1 : ((aR A).take j).length = j := by rw [List.length_take]; omega
      have e2 : ∀ {f : Nat → Int32}, LN f (aR A) → LN f ((aR A).take j) := fun {f} h k x hx => h k x (by
        have hk := at_lt hx
        rw [e1] at hk
        rwa [List.getElem?_take_of_lt hk] at hx)
      exact ⟨setR A ((aR A).take j), wf_row hwf (fun b hb => hwf.2.2.2.2.2 b (List.mem_of_mem_take hb)), nI 1, fun M hR => Ct.e (c_cut hG hR.1.2.2.2.2.1 hz5 hl) (rc_row hR (by omega) (EqF.rf.ui (by simp)) (by rw [e1]; simp [ui]) (e2 hR.1.2.2.2.2.2.1)), fun M hR => Ct.e (c_mcut hG hR.1.2.2.2.2.2.1 hz5 hl) (rm_row hR (by omega) ((EqF.rf.ui (by simp)).ui (by simp)) (by simp [ui]) (by rw [e1]; simp [ui]) (e2 hR.1.2.2.2.2.2.2.1))⟩
    · exact ⟨A, hwf, nI 0, fun M hR => Ct.e (c_cutO hG hR.1.2.2.2.2.1 hz5 (by omega) hj) (pc_rf hR), fun M hR => Ct.e (c_mcutO hG hR.1.2.2.2.2.2.1 hz5 (by omega) hj) (pm_t hR 0)⟩
theorem LN.set {f g : Nat → Int32} {l : List Nat} {c e : Nat} (h : LN f l) (hg : ∀ k, k < l.length → ¬ k = c → g k = f k) (he : g c = nI e) : LN g (l.set c e) := by
  intro k x hx
  rcases set_at hx with ⟨q, h1⟩ | ⟨rfl, rfl, -⟩
  · rw [hg k (at_lt h1) q]; exact h k x h1
  · exact he
theorem op_alter (hG : Gok G) (hwf : wfA A) (hz : szA A) (i b : Int32) : ∃ A', wfA A' ∧ ∃ x, OpR G mX8_alter mX9_alter [.int i, .int b] A (some (.int x)) A' := by
  have hz5 := hz.2.2.2.2
  rcases i_cases i with h | ⟨j, hj, rfl⟩
  · exact ⟨A, hwf, nI 0, fun M hR => Ct.e (c_alterI hG h) (pc_rf hR), fun M hR => Ct.e (c_malterI hG h) (pm_t hR 0)⟩
  · by_cases hl : j ≤ (aR A).length
    · by_cases h6 : j < 600
      · rcases i_cases b with hb | ⟨x, hx, rfl⟩
        · exact ⟨A, hwf, nI 0, fun M hR => Ct.e (c_alterB hG hR.1.2.2.2.2.1 hz5 hl h6 hb) (pc_rf hR), fun M hR => Ct.e (c_malterB hG hR.1.2.2.2.2.2.1 hz5 hl h6 hb) (pm_t hR 0)⟩
        · by_cases hx5 : x ≤ 255
          · by_cases he : j = (aR A).length
            · subst he
              have e1 : (aR A ++ [x]).length = (aR A).length + 1 := by simp
              refine ⟨setR A (aR A ++ [x]), wf_row hwf (fun b hb => ?_), nI 1, fun M hR => Ct.e (c_alter hG (by decide) hR.1.2.2.2.2.1 hz5 hl h6 hx5) (rc_row hR (by omega) ((EqF.rf.ui (by simp)).ui (by simp)) (by rw [e1, show max (aR A).length ((aR A).length + 1) = (aR A).length + 1 by omega]; simp [ui]) (hR.1.2.2.2.2.2.1.push (fun k hk => by have hne : k ≠ (aR A).length := Nat.ne_of_lt hk; simp [ui, hne]) (by simp [ui]))), fun M hR => Ct.e (c_malterE hG hR.1.2.2.2.2.2.1 hz5 h6 hx5) (rm_row hR (by omega) (((EqF.rf.ui (by simp)).ui (by simp)).ui (by simp)) (by simp [ui]) (by rw [e1]; simp [ui]) (hR.1.2.2.2.2.2.2.1.push (fun k hk => by have hne : k ≠ (aR A).length := Nat.ne_of_lt hk; simp [ui, hne]) (by simp [ui])))⟩
              rcases List.mem_append.mp hb with h9 | h9
              · exact hwf.2.2.2.2.2 b h9
              · rw [List.mem_singleton.mp h9]; omega
            · have hlt : j < (aR A).length := by omega
              have e1 : ((aR A).set j x).length = (aR A).length := List.length_set
              refine ⟨setR A ((aR A).set j x), wf_row hwf (fun b hb => ?_), nI 1, fun M hR => Ct.e (c_alter hG (by decide) hR.1.2.2.2.2.1 hz5 hl h6 hx5) (rc_row hR (by omega) ((EqF.rf.ui (by simp)).ui (by simp)) (by rw [e1, show max (aR A).length (j + 1) = (aR A).length by omega]; simp [ui]) (hR.1.2.2.2.2.2.1.set (fun k _ hk => by simp [ui, hk]) (by simp [ui]))), fun M hR => Ct.e (c_malter hG hR.1.2.2.2.2.2.1 hz5 hlt hx5) (rm_row hR (by omega) (((EqF.rf.ui (by simp)).ui (by simp)).ui (by simp)) (by simp [ui]) (by rw [e1]; simp [ui]) (hR.1.2.2.2.2.2.2.1.set (fun k _ hk => by simp [ui, hk]) (by simp [ui])))⟩
              rcases List.mem_or_eq_of_mem_set hb with h9 | h9
              · exact hwf.2.2.2.2.2 b h9
              · rw [h9]; omega
          · exact ⟨A, hwf, nI 0, fun M hR => Ct.e (c_alterC hG hR.1.2.2.2.2.1 hz5 hl h6 (by omega) hx) (pc_rf hR), fun M hR => Ct.e (c_malterC hG hR.1.2.2.2.2.2.1 hz5 hl h6 (by omega) hx) (pm_t hR 0)⟩
      · have e6 : j = 600 := by omega
        subst e6
        exact ⟨A, hwf, nI 0, fun M hR => Ct.e (c_alterF hG hR.1.2.2.2.2.1 hz5 hl) (pc_rf hR), fun M hR => Ct.e (c_malterF hG hR.1.2.2.2.2.2.1 hz5 hl) (pm_t hR 0)⟩
    · exact ⟨A, hwf, nI 0, fun M hR => Ct.e (c_alterO hG hR.1.2.2.2.2.1 hz5 (by omega) hj) (pc_rf hR), fun M hR => Ct.e (c_malterO hG hR.1.2.2.2.2.2.1 hz5 (by omega) hj) (pm_t hR 0)⟩
theorem op_clear (hG : Gok G) (hwf : wfA A) : wfA (clrA A) ∧ OpR G mX8_clear mX9_clear [] A none (clrA A) := ⟨wf_clr hwf, fun M hR => Ct.e (c_clear hG (by decide)) (rc_clr hR), fun M hR => Ct.e (c_mclear hG) (rm_clr hR)⟩
end O4
