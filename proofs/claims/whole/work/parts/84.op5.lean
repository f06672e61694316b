theorem fx_hit {f : Nat → Int64} {e : Int64} {p : Nat} : ∀ (n i : Nat), fx f e i n = some p → f p = e
  | 0, i, h => by cases h
  | n + 1, i, h => by
    unfold fx at h
    by_cases hf : f i = e
    · rw [if_pos hf] at h; cases h; exact hf
    · rw [if_neg hf] at h; exact fx_hit n _ h
theorem lxf_hit {f : Nat → Int64} {e : Int64} {p : Nat} : ∀ (n k : Nat) (r : Option Nat), lxf f e r k n = some p → r = some p ∨ f p = e
  | 0, k, r, h => Or.inl h
  | n + 1, k, r, h => by
    rw [lxf_s] at h
    rcases lxf_hit n (k + 1) _ h with h1 | h1
    · by_cases hf : f k = e
      · rw [if_pos hf] at h1; cases h1; exact Or.inr hf
      · rw [if_neg hf] at h1; exact Or.inl h1
    · exact Or.inr h1
theorem fx_is {f : Nat → Int64} {l : List Int64} {e : Int64} {j : Nat} (h : LI f l) (hn : l.Nodup) (hj : l[j]? = some e) : fx f e 0 l.length = some j := by
  cases hq : fx f e 0 l.length with
  | none => exact absurd ((fx_has h).mpr (at_mem hj)) (by rw [hq]; simp)
  | some p =>
    have hp := fx_lt hq
    have h1 := fx_hit _ _ hq
    have hpl : p < l.length := by omega
    rw [h p _ (List.getElem?_eq_getElem hpl)] at h1
    rw [(List.getElem?_inj hpl hn).mp (by rw [hj, List.getElem?_eq_getElem hpl, h1])]
theorem fx_no {f : Nat → Int64} {l : List Int64} {e : Int64} (h : LI f l) (hj : ¬ e ∈ l) : fx f e 0 l.length = none := by
  cases hq : fx f e 0 l.length with
  | none => rfl
  | some p => exact absurd ((fx_has h).mp (by rw [hq]; simp)) hj
theorem lxf_is {f : Nat → Int64} {l : List Int64} {e : Int64} {j : Nat} (h : LI f l) (hn : l.Nodup) (hj : l[j]? = some e) : lxf f e none 0 l.length = some j := by
  have hjl := at_lt hj
  cases hq : lxf f e none 0 l.length with
  | none => exact absurd (h j e hj) (((lxf_n _ _ _).mp hq).2 j (Nat.zero_le _) (by omega))
  | some p =>
    have hpl : p < l.length := by
      rcases lxf_lt _ _ _ hq with z | z
      · cases z
      · omega
    have h1 : f p = e := by
      rcases lxf_hit _ _ _ hq with z | z
      · cases z
      · exact z
    rw [h p _ (List.getElem?_eq_getElem hpl)] at h1
    rw [(List.getElem?_inj hpl hn).mp (by rw [hj, List.getElem?_eq_getElem hpl, h1])]
theorem lxf_no {f : Nat → Int64} {l : List Int64} {e : Int64} (h : LI f l) (hj : ¬ e ∈ l) : lxf f e none 0 l.length = none := (lxf_n _ _ _).mpr ⟨rfl, fun j _ h2 he => hj ((LI_ex h).mp ⟨j, by omega, he⟩)⟩
theorem LI.set {f g : Nat → Int64} {l : List Int64} {c : Nat} {e : Int64} (h : LI f l) (hg : ∀ k, k < l.length → ¬ k = c → g k = f k) (he : g c = e) : LI g (l.set c e) := by
  intro k x hx
  rcases set_at hx with ⟨q, h1⟩ | ⟨rfl, rfl, -⟩
  · rw [hg k (at_lt h1) q]; exact h k x h1
  · exact he
def thL (x : Th) (L : List Int64) : Th := (tK x, tD x, tT x, L, tY x, tV x)
def thP (x : Th) (Y V : List Int64) : Th := (tK x, tD x, tT x, tL x, Y, V)
theorem cTh.pt {x : Th} {M : Mm} {i : Nat} (h : cTh x M i) : Pt (tK x) (trv x) (tD x) (tL x) (tY x) (tV x) i M := ⟨h.1, h.2.1, h.2.2.1, h.2.2.2.1, h.2.2.2.2.1, h.2.2.2.2.2.1⟩
theorem pt_sV {k : Nat} {tr : Int32} {b e : Int64} {L Y V : List Int64} {i c : Nat} {M : Mm} (h : Pt k tr b L Y V i M) : Pt k tr b L Y (V.set c e) i (ul M (14, i) c e) := by
  obtain ⟨h1, h2, h3, h4, h5, h6⟩ := h
  have hS : EqF (fun k _ => k.1 ≠ 14) M (ul M (14, i) c e) := EqF.rf.ul (by simp)
  exact ⟨(hS _ _ (by simp)).1.trans h1, (hS _ _ (by simp)).1.trans h2, (hS _ _ (by simp)).2.trans h3, h4.eqF hS (by simp) (fun j => by simp), h5.eqF hS (by simp) (fun j => by simp), ⟨by rw [List.length_set]; exact (hS _ _ (by simp)).1.trans h6.1, h6.2.set (fun k _ hk => by simp [ul, hk]) (by simp [ul])⟩⟩
section U3
variable {M : Mm} {x : Th} {i : Nat} {v e : Int64}
theorem mTh_L (h : mTh x M i) (h12 : ¬ tK x = 12) (hl : (tL x).length < 8) : mTh (thL x (tL x ++ [v])) (ui (ul (ui M (40, 0) 0 (nI 0)) (50, 0) ((8 * i) + (tL x).length) v) (48, 0) i (nI ((tL x).length + 1))) i := by
  have hS : EqF (fun k j => ¬ (k.1 = 40 ∧ j = 0) ∧ k.1 ≠ 50 ∧ k.1 ≠ 48) M (ui (ul (ui M (40, 0) 0 (nI 0)) (50, 0) ((8 * i) + (tL x).length) v) (48, 0) i (nI ((tL x).length + 1))) := ((EqF.rf.ui (by simp)).ul (by simp)).ui (by simp)
  obtain ⟨a, b, c, e, f, g, p, q, r, l1, l2, l3, l4⟩ := h
  refine ⟨(hS _ _ (by simp)).1.trans a, ?_, (hS _ _ (by simp)).1.trans c, (hS _ _ (by simp)).1.trans e, f.to fun k => (hS _ _ (by simp)).2, g.to fun k => (hS _ _ (by simp)).2, fun _ => ?_, fun hk => (hS _ _ (by simp)).2.trans (q hk), fun hk => absurd hk h12, ?_, l2, l3, l4⟩
  · show _ = nI (tL x ++ [v]).length
    simp [ui]
  · exact (p h12).push (fun k hk => by simp [ui, ul]; omega) (by simp [ui, ul])
  · show (tL x ++ [v]).length ≤ 8
    simp; omega
theorem mTh_S {j : Nat} (h : mTh x M i) (h12 : ¬ tK x = 12) : mTh (thL x ((tL x).set j v)) (ul (ui M (40, 0) 0 (nI 0)) (50, 0) ((8 * i) + j) v) i := by
  have hS : EqF (fun k j => ¬ (k.1 = 40 ∧ j = 0) ∧ k.1 ≠ 50) M (ul (ui M (40, 0) 0 (nI 0)) (50, 0) ((8 * i) + j) v) := (EqF.rf.ui (by simp)).ul (by simp)
  obtain ⟨a, b, c, e, f, g, p, q, r, l1, l2, l3, l4⟩ := h
  refine ⟨(hS _ _ (by simp)).1.trans a, ?_, (hS _ _ (by simp)).1.trans c, (hS _ _ (by simp)).1.trans e, f.to fun k => (hS _ _ (by simp)).2, g.to fun k => (hS _ _ (by simp)).2, fun _ => ?_, fun hk => (hS _ _ (by simp)).2.trans (q hk), fun hk => absurd hk h12, ?_, l2, l3, l4⟩
  · show _ = nI ((tL x).set j v).length
    rw [List.length_set]; exact (hS _ _ (by simp)).1.trans b
  · exact (p h12).set (fun k _ hk => by simp [ui, ul, hk]) (by simp [ul])
  · show ((tL x).set j v).length ≤ 8
    rw [List.length_set]; exact l1
theorem mTh_R {j : Nat} (h : mTh x M i) (h12 : ¬ tK x = 12) : mTh (thP x (tY x) ((tV x).set j v)) (ul (ui M (40, 0) 0 (nI 0)) (53, 0) ((6 * i) + j) v) i := by
  have hS : EqF (fun k j => ¬ (k.1 = 40 ∧ j = 0) ∧ k.1 ≠ 53) M (ul (ui M (40, 0) 0 (nI 0)) (53, 0) ((6 * i) + j) v) := (EqF.rf.ui (by simp)).ul (by simp)
  obtain ⟨a, b, c, e, f, g, p, q, r, l1, l2, l3, l4⟩ := h
  refine ⟨(hS _ _ (by simp)).1.trans a, (hS _ _ (by simp)).1.trans b, (hS _ _ (by simp)).1.trans c, (hS _ _ (by simp)).1.trans e, f.to fun k => (hS _ _ (by simp)).2, ?_, fun _ => (p h12).to fun k => (hS _ _ (by simp)).2, fun hk => (hS _ _ (by simp)).2.trans (q hk), fun hk => absurd hk h12, l1, l2, ?_, l4⟩
  · exact g.set (fun k _ hk => by simp [ui, ul, hk]) (by simp [ul])
  · show ((tV x).set j v).length = _
    rw [List.length_set]; exact l3
theorem mTh_A (h : mTh x M i) (h12 : ¬ tK x = 12) (hl : (tY x).length < 6) : mTh (thP x (tY x ++ [e]) (tV x ++ [v])) (ul (ui (ul (ui M (40, 0) 0 (nI 0)) (52, 0) ((6 * i) + (tY x).length) e) (51, 0) i (nI ((tY x).length + 1))) (53, 0) ((6 * i) + (tY x).length) v) i := by
  have hS : EqF (fun k j => ¬ (k.1 = 40 ∧ j = 0) ∧ k.1 ≠ 51 ∧ k.1 ≠ 52 ∧ k.1 ≠ 53) M (ul (ui (ul (ui M (40, 0) 0 (nI 0)) (52, 0) ((6 * i) + (tY x).length) e) (51, 0) i (nI ((tY x).length + 1))) (53, 0) ((6 * i) + (tY x).length) v) := (((EqF.rf.ui (by simp)).ul (by simp)).ui (by simp)).ul (by simp)
  obtain ⟨a, b, c, e1, f, g, p, q, r, l1, l2, l3, l4⟩ := h
  refine ⟨(hS _ _ (by simp)).1.trans a, (hS _ _ (by simp)).1.trans b, (hS _ _ (by simp)).1.trans c, ?_, ?_, ?_, fun _ => (p h12).to fun k => (hS _ _ (by simp)).2, fun hk => (hS _ _ (by simp)).2.trans (q hk), fun hk => absurd hk h12, l1, ?_, ?_, l4⟩
  · show _ = nI (tY x ++ [e]).length
    simp [ui, ul]
  · exact f.push (fun k hk => by simp [ui, ul]; omega) (by simp [ui, ul])
  · exact g.push (fun k hk => by simp [ui, ul]; omega) (by rw [l3]; simp [ul])
  · show (tY x ++ [e]).length ≤ 6
    simp; omega
  · show (tV x ++ [v]).length = (tY x ++ [e]).length
    simp [l3]
end U3
section O3
variable {G : Gd} {A : Ab}
theorem thOK_L {x : Th} {L : List Int64} (h : thOK A x) (hL : ∀ v ∈ L, vOK A v) (h12 : ¬ tK x = 12) (h8 : ¬ tK x = 8) (hl : tK x = 10 → L.length = (tL x).length) : thOK A (thL x L) := by
  obtain ⟨a, b, c, e, f, g, p, q, r, s⟩ := h
  exact ⟨a, hL, c, e, fun hk => by obtain ⟨y, h1, h2, h3⟩ := f hk; exact ⟨y, h1, (hl hk).trans h2, h3⟩, fun hk => absurd hk h12, p, q, fun hk => absurd hk h8, s⟩
theorem thOK_P {x : Th} {Y V : List Int64} (h : thOK A x) (hV : ∀ v ∈ V, vOK A v) (hY : ∀ k ∈ Y, isTx k ∧ ¬ k = 0) (h12 : ¬ tK x = 12) (h8 : ¬ tK x = 8) (h10 : tK x = 10 → ∀ y, (aT A)[tT x]? = some y → (rD y = false → Y = []) ∧ ∀ k ∈ Y, ¬ k ∈ rM y) (hn : Y.Nodup) : thOK A (thP x Y V) := by
  obtain ⟨a, b, c, e, f, g, p, q, r, s⟩ := h
  exact ⟨a, b, hV, hY, fun hk => by obtain ⟨y, h1, h2, h3⟩ := f hk; exact ⟨y, h1, h2, h10 hk y h1⟩, fun hk => absurd hk h12, p, fun hk => hk.elim (fun h => absurd h h8) (fun h => absurd h h12), r, hn⟩
theorem mem_set' {l : List Int64} {j : Nat} {v : Int64} {P : Int64 → Prop} (h : ∀ e ∈ l, P e) (hv : P v) : ∀ e ∈ l.set j v, P e := fun e he => by
  rcases List.mem_or_eq_of_mem_set he with h9 | h9
  · exact h e h9
  · rw [h9]; exact hv
theorem op_append (hG : Gok G) (hwf : wfA A) (hz : szA A) (th : Int32) (v : Int64) : ∃ A', wfA A' ∧ ((∃ x, OpR G mX8_append mX9_append [.int th, .long v] A (some (.int x)) A') ∨ (∃ x, OpX G mX8_append mX9_append [.int th, .long v] A IAE (some (.int x)) 1 A') ∨ ∃ x, OpX G mX8_append mX9_append [.int th, .long v] A ISE (some (.int x)) 2 A') := by
  rcases th_cases (aH A).length th with ⟨i, hi, rfl⟩ | ho
  · obtain ⟨x, hx⟩ : ∃ x, (aH A)[i]? = some x := ⟨_, List.getElem?_eq_getElem hi⟩
    have hok := hwf.2.2.1 _ (at_mem hx)
    by_cases hk : tK x = 9
    · by_cases hv : vOK A v
      · by_cases hl : (tL x).length = 8
        · exact ⟨A, hwf, Or.inr (Or.inr ⟨nI 0, fun M hR => Ct.e (c_appendF hG (by decide) v hR.2.2.2.1 hz.2.2.1 hR.2.1 hz.1 hi ((hR.1.2.2.1 i x hx).2.2.2.1.1.trans (by rw [hl])) ((hR.1.2.2.1 i x hx).1.trans (by rw [hk])) hv) (pc_rf hR), fun M hR => Ct.e (c_mappendF hG (by decide) v hR.2.2.2.1 hz.2.2.1 hR.2.1 hz.1 hi ((hR.1.2.2.1 i x hx).2.1.trans (by rw [hl])) ((hR.1.2.2.1 i x hx).1.trans (by rw [hk])) hv) (pm_t hR 2)⟩)⟩
        · refine ⟨setTh A i (thL x (tL x ++ [v])), wf_set hwf (thOK_L hok (all_push hok.2.1 hv) (by omega) (by omega) (fun h => by omega)), Or.inl ⟨nI ((tL x).length + 1), fun M hR => ?_, fun M hR => ?_⟩⟩
          · have ht := hR.1.2.2.1 i x hx
            have hl8 : (tL x).length < 8 := by have := ht.2.2.2.2.2.2.1; omega
            exact Ct.e (c_append hG (by decide) v hR.2.2.2.1 hz.2.2.1 hR.2.1 hz.1 hi ht.2.2.2.1.1 hl8 (ht.1.trans (by rw [hk])) hv) (rc_sH hR ((EqF.rf.ul (by simp)).ui (by simp)) ((ht.pt.aL (e := v)).th rfl (by simp; omega) ht.2.2.2.2.2.2.2.1 ht.2.2.2.2.2.2.2.2.1 ht.2.2.2.2.2.2.2.2.2))
          · have ht := hR.1.2.2.1 i x hx
            have hl8 : (tL x).length < 8 := by have := ht.2.2.2.2.2.2.2.2.2.1; omega
            exact Ct.e (c_mappend hG (by decide) v hR.2.2.2.1 hz.2.2.1 hR.2.1 hz.1 hi ht.2.1 hl8 (ht.1.trans (by rw [hk])) hv) (rm_sH hR (((EqF.rf.ui (by simp)).ul (by unfold thc; simp; omega)).ui (by simp [thc])) (by simp [ui, ul]) (mTh_L ht (by omega) hl8))
      · exact ⟨A, hwf, Or.inr (Or.inl ⟨nI 0, fun M hR => Ct.e (c_appendV hG (by decide) v hR.2.2.2.1 hz.2.2.1 hR.2.1 hz.1 hi ((hR.1.2.2.1 i x hx).1.trans (by rw [hk])) hv) (pc_rf hR), fun M hR => Ct.e (c_mappendV hG (by decide) v hR.2.2.2.1 hz.2.2.1 hR.2.1 hz.1 hi ((hR.1.2.2.1 i x hx).1.trans (by rw [hk])) hv) (pm_t hR 1)⟩)⟩
    · exact ⟨A, hwf, Or.inr (Or.inl ⟨nI 0, fun M hR => Ct.e (c_appendK hG (by decide) v hR.2.2.2.1 hz.2.2.1 hi (hR.1.2.2.1 i x hx).1 (hR.1.2.2.1 i x hx).2.2.2.2.2.2.2.2.2 hk) (pc_rf hR), fun M hR => Ct.e (c_mappendK hG (by decide) v hR.2.2.2.1 hz.2.2.1 hi (hR.1.2.2.1 i x hx).1 (hR.1.2.2.1 i x hx).2.2.2.2.2.2.2.2.2.2.2.2 hk) (pm_t hR 1)⟩)⟩
  · exact ⟨A, hwf, Or.inr (Or.inl ⟨nI 0, fun M hR => Ct.e (c_appendT hG (by decide) v hR.2.2.2.1 hz.2.2.1 ho) (pc_rf hR), fun M hR => Ct.e (c_mappendT hG (by decide) v hR.2.2.2.1 hz.2.2.1 ho) (pm_t hR 1)⟩)⟩
theorem op_set (hG : Gok G) (hwf : wfA A) (hz : szA A) (th j : Int32) (v : Int64) : ∃ A', wfA A' ∧ (OpR G mX8_set mX9_set [.int th, .int j, .long v] A none A' ∨ OpX G mX8_set mX9_set [.int th, .int j, .long v] A IAE none 1 A') := by
  rcases th_cases (aH A).length th with ⟨i, hi, rfl⟩ | ho
  · obtain ⟨x, hx⟩ : ∃ x, (aH A)[i]? = some x := ⟨_, List.getElem?_eq_getElem hi⟩
    have hok := hwf.2.2.1 _ (at_mem hx)
    by_cases hk9 : tK x = 9
    · rcases i_cases j with hj | ⟨j, hj2, rfl⟩
      · exact ⟨A, hwf, Or.inr ⟨fun M hR => Ct.e (c_set9N hG (by decide) v hR.2.2.2.1 hz.2.2.1 hi ((hR.1.2.2.1 i x hx).1.trans (by rw [hk9])) hj) (pc_rf hR), fun M hR => Ct.e (c_mset9N hG (by decide) v hR.2.2.2.1 hz.2.2.1 hi ((hR.1.2.2.1 i x hx).1.trans (by rw [hk9])) hj) (pm_t hR 1)⟩⟩
      · by_cases hl : j < (tL x).length
        · by_cases hv : vOK A v
          · refine ⟨setTh A i (thL x ((tL x).set j v)), wf_set hwf (thOK_L hok (mem_set' hok.2.1 hv) (by omega) (by omega) (fun h => List.length_set)), Or.inl ⟨fun M hR => ?_, fun M hR => ?_⟩⟩
            · have ht := hR.1.2.2.1 i x hx
              exact Ct.e (c_set9 hG (by decide) v hR.2.2.2.1 hz.2.2.1 hR.2.1 hz.1 hi ht.2.2.2.1.1 ht.2.2.2.2.2.2.1 (ht.1.trans (by rw [hk9])) hl hv) (rc_sH hR (EqF.rf.ul (by simp)) ((ht.pt.sL (e := v) hl).th rfl (by rw [List.length_set]; exact ht.2.2.2.2.2.2.1) ht.2.2.2.2.2.2.2.1 ht.2.2.2.2.2.2.2.2.1 ht.2.2.2.2.2.2.2.2.2))
            · have ht := hR.1.2.2.1 i x hx
              have hl8 := ht.2.2.2.2.2.2.2.2.2.1
              exact Ct.e (c_mset9 hG (by decide) v hR.2.2.2.1 hz.2.2.1 hR.2.1 hz.1 hi ht.2.1 hl8 (ht.1.trans (by rw [hk9])) hl hv) (rm_sH hR ((EqF.rf.ui (by simp)).ul (by unfold thc; simp; omega)) (by simp [ui, ul]) (mTh_S ht (by omega)))
          · exact ⟨A, hwf, Or.inr ⟨fun M hR => Ct.e (c_set9V hG (by decide) v hR.2.2.2.1 hz.2.2.1 hR.2.1 hz.1 hi (hR.1.2.2.1 i x hx).2.2.2.1.1 (hR.1.2.2.1 i x hx).2.2.2.2.2.2.1 ((hR.1.2.2.1 i x hx).1.trans (by rw [hk9])) hl hv) (pc_rf hR), fun M hR => Ct.e (c_mset9V hG (by decide) v hR.2.2.2.1 hz.2.2.1 hR.2.1 hz.1 hi (hR.1.2.2.1 i x hx).2.1 (hR.1.2.2.1 i x hx).2.2.2.2.2.2.2.2.2.1 ((hR.1.2.2.1 i x hx).1.trans (by rw [hk9])) hl hv) (pm_t hR 1)⟩⟩
        · exact ⟨A, hwf, Or.inr ⟨fun M hR => Ct.e (c_set9O hG (by decide) v hR.2.2.2.1 hz.2.2.1 hi (hR.1.2.2.1 i x hx).2.2.2.1.1 (hR.1.2.2.1 i x hx).2.2.2.2.2.2.1 ((hR.1.2.2.1 i x hx).1.trans (by rw [hk9])) (by omega) hj2) (pc_rf hR), fun M hR => Ct.e (c_mset9O hG (by decide) v hR.2.2.2.1 hz.2.2.1 hi (hR.1.2.2.1 i x hx).2.1 (hR.1.2.2.1 i x hx).2.2.2.2.2.2.2.2.2.1 ((hR.1.2.2.1 i x hx).1.trans (by rw [hk9])) (by omega) hj2) (pm_t hR 1)⟩⟩
    · by_cases hk10 : tK x = 10
      · rcases i_cases j with hj | ⟨j, hj2, rfl⟩
        · exact ⟨A, hwf, Or.inr ⟨fun M hR => Ct.e (c_set10N hG (by decide) v hR.2.2.2.1 hz.2.2.1 hi ((hR.1.2.2.1 i x hx).1.trans (by rw [hk10])) hj) (pc_rf hR), fun M hR => Ct.e (c_mset10N hG (by decide) v hR.2.2.2.1 hz.2.2.1 hi ((hR.1.2.2.1 i x hx).1.trans (by rw [hk10])) hj) (pm_t hR 1)⟩⟩
        · by_cases hl : j < (tL x).length
          · by_cases hv : vOK A v
            · refine ⟨setTh A i (thL x ((tL x).set j v)), wf_set hwf (thOK_L hok (mem_set' hok.2.1 hv) (by omega) (by omega) (fun h => List.length_set)), Or.inl ⟨fun M hR => ?_, fun M hR => ?_⟩⟩
              · have ht := hR.1.2.2.1 i x hx
                exact Ct.e (c_set10 hG (by decide) v hR.2.2.2.1 hz.2.2.1 hR.2.1 hz.1 hi ht.2.2.2.1.1 ht.2.2.2.2.2.2.1 (ht.1.trans (by rw [hk10])) hl hv) (rc_sH hR (EqF.rf.ul (by simp)) ((ht.pt.sL (e := v) hl).th rfl (by rw [List.length_set]; exact ht.2.2.2.2.2.2.1) ht.2.2.2.2.2.2.2.1 ht.2.2.2.2.2.2.2.2.1 ht.2.2.2.2.2.2.2.2.2))
              · have ht := hR.1.2.2.1 i x hx
                have hl8 := ht.2.2.2.2.2.2.2.2.2.1
                exact Ct.e (c_mset10 hG (by decide) v hR.2.2.2.1 hz.2.2.1 hR.2.1 hz.1 hi ht.2.1 hl8 (ht.1.trans (by rw [hk10])) hl hv) (rm_sH hR ((EqF.rf.ui (by simp)).ul (by unfold thc; simp; omega)) (by simp [ui, ul]) (mTh_S ht (by omega)))
            · exact ⟨A, hwf, Or.inr ⟨fun M hR => Ct.e (c_set10V hG (by decide) v hR.2.2.2.1 hz.2.2.1 hR.2.1 hz.1 hi (hR.1.2.2.1 i x hx).2.2.2.1.1 (hR.1.2.2.1 i x hx).2.2.2.2.2.2.1 ((hR.1.2.2.1 i x hx).1.trans (by rw [hk10])) hl hv) (pc_rf hR), fun M hR => Ct.e (c_mset10V hG (by decide) v hR.2.2.2.1 hz.2.2.1 hR.2.1 hz.1 hi (hR.1.2.2.1 i x hx).2.1 (hR.1.2.2.1 i x hx).2.2.2.2.2.2.2.2.2.1 ((hR.1.2.2.1 i x hx).1.trans (by rw [hk10])) hl hv) (pm_t hR 1)⟩⟩
          · exact ⟨A, hwf, Or.inr ⟨fun M hR => Ct.e (c_set10O hG (by decide) v hR.2.2.2.1 hz.2.2.1 hi (hR.1.2.2.1 i x hx).2.2.2.1.1 (hR.1.2.2.1 i x hx).2.2.2.2.2.2.1 ((hR.1.2.2.1 i x hx).1.trans (by rw [hk10])) (by omega) hj2) (pc_rf hR), fun M hR => Ct.e (c_mset10O hG (by decide) v hR.2.2.2.1 hz.2.2.1 hi (hR.1.2.2.1 i x hx).2.1 (hR.1.2.2.1 i x hx).2.2.2.2.2.2.2.2.2.1 ((hR.1.2.2.1 i x hx).1.trans (by rw [hk10])) (by omega) hj2) (pm_t hR 1)⟩⟩
      · exact ⟨A, hwf, Or.inr ⟨fun M hR => Ct.e (c_setK hG (by decide) v hR.2.2.2.1 hz.2.2.1 hi (hR.1.2.2.1 i x hx).1 (hR.1.2.2.1 i x hx).2.2.2.2.2.2.2.2.2 hk9 hk10 j) (pc_rf hR), fun M hR => Ct.e (c_msetK hG (by decide) v hR.2.2.2.1 hz.2.2.1 hi (hR.1.2.2.1 i x hx).1 (hR.1.2.2.1 i x hx).2.2.2.2.2.2.2.2.2.2.2.2 hk9 hk10 j) (pm_t hR 1)⟩⟩
  · exact ⟨A, hwf, Or.inr ⟨fun M hR => Ct.e (c_setT hG (by decide) v hR.2.2.2.1 hz.2.2.1 ho j) (pc_rf hR), fun M hR => Ct.e (c_msetT hG (by decide) v hR.2.2.2.1 hz.2.2.1 ho j) (pm_t hR 1)⟩⟩
end O3
