/-! how what is held changes -/
def addWd (A : Ab) (b : Int64) : Ab := (aW A ++ [b], A.2)
def addTh (A : Ab) (x : Th) : Ab := (A.1, A.2.1, aH A ++ [x], A.2.2.2)
def setTh (A : Ab) (i : Nat) (x : Th) : Ab := (A.1, A.2.1, (aH A).set i x, A.2.2.2)
def addTr (A : Ab) (x : Tr) : Ab := (A.1, aT A ++ [x], A.2.2)
def addAl (A : Ab) (n : Int64) : Ab := (A.1, A.2.1, A.2.2.1, aA A ++ [n], A.2.2.2.2)
def clrA (A : Ab) : Ab := ([], [], [], A.2.2.2)
theorem app_at {α : Type} {l : List α} {x y : α} {i : Nat} (h : (l ++ [x])[i]? = some y) : (i < l.length ∧ l[i]? = some y) ∨ (i = l.length ∧ y = x) := by
  rcases Nat.lt_trichotomy i l.length with q | q | q
  · rw [List.getElem?_append_left q] at h; exact Or.inl ⟨q, h⟩
  · rw [q, List.getElem?_append_right (Nat.le_refl _), Nat.sub_self] at h
    cases h; exact Or.inr ⟨q, rfl⟩
  · rw [List.getElem?_append_right (by omega), List.getElem?_eq_none (by simp; omega)] at h
    cases h
theorem set_at {α : Type} {l : List α} {x y : α} {i j : Nat} (h : (l.set i x)[j]? = some y) : (¬ j = i ∧ l[j]? = some y) ∨ (j = i ∧ y = x ∧ i < l.length) := by
  by_cases e : j = i
  · subst e
    have hl := at_lt h
    rw [List.length_set] at hl
    rw [List.getElem?_set_self hl] at h
    cases h; exact Or.inr ⟨rfl, rfl, hl⟩
  · rw [List.getElem?_set_ne (fun q => e q.symm)] at h
    exact Or.inl ⟨e, h⟩
/-! what stays well made -/
theorem isV_mono {w w' n n' : Nat} {v : Int64} (hw : w ≤ w') (hn : n ≤ n') (hw' : w' ≤ 40) (hn' : n' ≤ 40) (h : isV w n v) : isV w' n' v := by
  by_cases h4 : uN v % 16 = 4
  · exact (isV_4 h4).mpr ((isV_4 h4).mp h)
  by_cases h5 : uN v % 16 = 5
  · have := (isV_5 h5).mp h
    exact (isV_5 h5).mpr ⟨this.1, Int64.lt_of_lt_of_le this.2 ((lN_le (by omega) (by omega)).mpr hw)⟩
  by_cases h6 : uN v % 16 = 6
  · exact (isV_6 h6).mpr ((isV_6 h6).mp h)
  by_cases h7 : uN v % 16 = 7
  · have := (isV_7 h7).mp h
    exact (isV_7 h7).mpr ⟨this.1, Int64.lt_of_lt_of_le this.2 ((lN_le (by omega) (by omega)).mpr hn)⟩
  exact (isV_O h4 h5 h6 h7).mpr ((isV_O h4 h5 h6 h7).mp h)
theorem thOK.mono {A A' : Ab} {x : Th} (h : thOK A x) (hw : (aW A).length ≤ (aW A').length) (hn : (aH A).length ≤ (aH A').length) (hw' : (aW A').length ≤ 40) (hn' : (aH A').length ≤ 40) (hT : ∀ (t : Nat) (y : Tr), (aT A)[t]? = some y → (aT A')[t]? = some y) : thOK A' x := by
  obtain ⟨a, b, c, e, f, g⟩ := h
  exact ⟨a, fun v hv => isV_mono hw hn hw' hn' (b v hv), fun v hv => isV_mono hw hn hw' hn' (c v hv), e, fun hk => by obtain ⟨y, h1, h2⟩ := f hk; exact ⟨y, hT _ _ h1, h2⟩, g⟩
theorem wf_wd {A : Ab} {b : Int64} (h : wfA A) (hl : (aW A).length < 40) (hn : (aH A).length ≤ 40) : wfA (addWd A b) := by
  have hw : (aW (addWd A b)).length = (aW A).length + 1 := by show (aW A ++ [b]).length = _; simp
  exact ⟨h.1, h.2.1, fun x hx => (h.2.2.1 x hx).mono (by omega) (Nat.le_refl _) (by omega) hn (fun t y z => z), h.2.2.2⟩
theorem wf_th {A : Ab} {x : Th} (h : wfA A) (hl : (aH A).length < 40) (hn : (aW A).length ≤ 40) (hx : thOK (addTh A x) x) : wfA (addTh A x) := by
  have hw : (aH (addTh A x)).length = (aH A).length + 1 := by show (aH A ++ [x]).length = _; simp
  refine ⟨h.1, h.2.1, fun y hy => ?_, h.2.2.2⟩
  rcases List.mem_append.mp (show y ∈ aH A ++ [x] from hy) with h9 | h9
  · exact (h.2.2.1 y h9).mono (Nat.le_refl _) (by omega) hn (by omega) (fun t y z => z)
  · rw [List.mem_singleton.mp h9]; exact hx
theorem wf_set {A : Ab} {i : Nat} {x : Th} (h : wfA A) (hx : thOK A x) : wfA (setTh A i x) := by
  have hw : (aH (setTh A i x)).length = (aH A).length := List.length_set
  have hm : ∀ {y : Th}, thOK A y → thOK (setTh A i x) y := fun {y} hy => by
    obtain ⟨a, b, c, e⟩ := hy
    refine ⟨a, fun v hv => ?_, fun v hv => ?_, e⟩
    · show isV _ (aH (setTh A i x)).length v; rw [hw]; exact b v hv
    · show isV _ (aH (setTh A i x)).length v; rw [hw]; exact c v hv
  refine ⟨h.1, h.2.1, fun y hy => ?_, h.2.2.2⟩
  rcases List.mem_or_eq_of_mem_set (show y ∈ (aH A).set i x from hy) with h9 | h9
  · exact hm (h.2.2.1 y h9)
  · rw [h9]; exact hm hx
theorem wf_tr {A : Ab} {x : Tr} (h : wfA A) (hx : trOK x) (hn : ¬ x ∈ aT A) : wfA (addTr A x) := by
  refine ⟨fun y hy => ?_, ?_, fun y hy => ?_, h.2.2.2⟩
  · rcases List.mem_append.mp (show y ∈ aT A ++ [x] from hy) with h9 | h9
    · exact h.1 y h9
    · rw [List.mem_singleton.mp h9]; exact hx
  · show (aT A ++ [x]).Nodup
    rw [List.nodup_append]
    exact ⟨h.2.1, by simp, fun y hy z hz e => by simp at hz; rw [hz] at e; exact hn (e ▸ hy)⟩
  · obtain ⟨a, b, c, e, f, g⟩ := h.2.2.1 y hy
    exact ⟨a, b, c, e, fun hk => by obtain ⟨y, h1, h2⟩ := f hk; exact ⟨y, by show (aT A ++ [x])[_]? = _; rw [List.getElem?_append_left (at_lt h1)]; exact h1, h2⟩, g⟩
theorem wf_al {A : Ab} {n : Int64} (h : wfA A) (hx : isTx n ∧ ¬ n = 0) (hn : ¬ n ∈ aA A) : wfA (addAl A n) := by
  refine ⟨h.1, h.2.1, h.2.2.1, fun y hy => ?_, ?_, h.2.2.2.2.2⟩
  · rcases List.mem_append.mp (show y ∈ aA A ++ [n] from hy) with h9 | h9
    · exact h.2.2.2.1 y h9
    · rw [List.mem_singleton.mp h9]; exact hx
  · exact nd_push h.2.2.2.2.1 hn
theorem wf_row {A : Ab} {l : List Nat} (h : wfA A) (hl : ∀ b ∈ l, b < 256) : wfA (setR A l) := ⟨h.1, h.2.1, h.2.2.1, h.2.2.2.1, h.2.2.2.2.1, hl⟩
theorem wf_flt {A : Ab} {f : Int32} (h : wfA A) : wfA (setF A f) := h
theorem wf_clr {A : Ab} (h : wfA A) : wfA (clrA A) := ⟨(fun x hx => by cases hx), List.nodup_nil, (fun x hx => by cases hx), h.2.2.2⟩
/-! the class's memory -/
section U1
variable {A : Ab} {M M' : Mm}
theorem rc_aW {b : Int64} (hR : RC A M) (hl : (aW A).length < 40) : PC M (addWd A b) (ui (ul M (2, 0) (aW A).length b) (1, 0) 3 (nI ((aW A).length + 1))) := by
  have hS : EqF (fun k j => k.1 ≠ 2 ∧ ¬ (k.1 = 1 ∧ j = 3)) M (ui (ul M (2, 0) (aW A).length b) (1, 0) 3 (nI ((aW A).length + 1))) := (EqF.rf.ul (by simp)).ui (by simp)
  obtain ⟨⟨a, b1, c, e, f, g, r1, r2, r3, r4, r5⟩, h3, h4, h5, hf⟩ := hR
  refine ⟨⟨⟨?_, fun t x hx => (b1 t x hx).eqF hS (fun r h1 h2 j => by simp; omega), fun i x hx => (c i x hx).eqF hS (fun r h1 h2 j => by simp; omega), e.eqF hS (by simp) (fun j => by simp), (hS _ _ (by simp)).1.trans f, g.to fun k => (hS _ _ (by simp)).1, ?_, r2, r3, r4, r5⟩, ?_, (hS _ _ (by simp)).1.trans h4, (hS _ _ (by simp)).1.trans h5, (hS _ _ (by simp)).1.trans hf⟩, fun k hk j => hS k j (by omega)⟩
  · exact a.push (fun k hk => by have hne : k ≠ (aW A).length := Nat.ne_of_lt hk; simp [ui, ul, hne]) (by simp [ui, ul])
  · show (aW A ++ [b]).length ≤ 40
    simp; omega
  · show _ = nI (aW A ++ [b]).length
    simp [ui]
theorem rc_aH {x : Th} (hR : RC A M) (hl : (aH A).length < 40) (hS : EqF (fun k j => ¬ (8 ≤ k.1 ∧ k.1 ≤ 14 ∧ k.2 = (aH A).length) ∧ ¬ (k.1 = 1 ∧ j = 5)) M M') (h9 : M'.1 (1, 0) 5 = nI ((aH A).length + 1)) (hx : cTh x M' (aH A).length) : PC M (addTh A x) M' := by
  obtain ⟨⟨a, b1, c, e, f, g, r1, r2, r3, r4, r5⟩, h3, h4, h5, hf⟩ := hR
  refine ⟨⟨⟨a.to fun k => (hS _ _ (by simp)).2, fun t x hx => (b1 t x hx).eqF hS (fun r h1 h2 j => by simp; omega), fun i y hy => ?_, e.eqF hS (by simp) (fun j => by simp), (hS _ _ (by simp)).1.trans f, g.to fun k => (hS _ _ (by simp)).1, r1, r2, ?_, r4, r5⟩, (hS _ _ (by simp)).1.trans h3, (hS _ _ (by simp)).1.trans h4, ?_, (hS _ _ (by simp)).1.trans hf⟩, fun k hk j => hS k j (by omega)⟩
  · rcases app_at (show (aH A ++ [x])[i]? = some y from hy) with ⟨q, h1⟩ | ⟨rfl, rfl⟩
    · exact (c i y h1).eqF hS (fun r h1 h2 j => by simp; omega)
    · exact hx
  · show (aH A ++ [x]).length ≤ 40
    simp; omega
  · show _ = nI (aH A ++ [x]).length
    rw [h9]; simp
theorem rc_sH {x : Th} {i : Nat} (hR : RC A M) (hS : EqF (fun k _ => ¬ (8 ≤ k.1 ∧ k.1 ≤ 14 ∧ k.2 = i)) M M') (hx : cTh x M' i) : PC M (setTh A i x) M' := by
  obtain ⟨⟨a, b1, c, e, f, g, r1, r2, r3, r4, r5⟩, h3, h4, h5, hf⟩ := hR
  have hlen : (aH (setTh A i x)).length = (aH A).length := List.length_set
  refine ⟨⟨⟨a.to fun k => (hS _ _ (by simp)).2, fun t x hx => (b1 t x hx).eqF hS (fun r h1 h2 j => by simp; omega), fun j y hy => ?_, e.eqF hS (by simp) (fun j => by simp), (hS _ _ (by simp)).1.trans f, g.to fun k => (hS _ _ (by simp)).1, r1, r2, by rw [hlen]; exact r3, r4, r5⟩, (hS _ _ (by simp)).1.trans h3, (hS _ _ (by simp)).1.trans h4, by rw [hlen]; exact (hS _ _ (by simp)).1.trans h5, (hS _ _ (by simp)).1.trans hf⟩, fun k hk j => hS k j (by omega)⟩
  rcases set_at (show ((aH A).set i x)[j]? = some y from hy) with ⟨q, h1⟩ | ⟨rfl, rfl, -⟩
  · exact (c j y h1).eqF hS (fun r h1 h2 j' => by simp; omega)
  · exact hx
theorem rc_aT {x : Tr} (hR : RC A M) (hl : (aT A).length < 12) (hS : EqF (fun k j => ¬ (5 ≤ k.1 ∧ k.1 ≤ 7 ∧ k.2 = (aT A).length) ∧ ¬ (k.1 = 1 ∧ j = 4)) M M') (h9 : M'.1 (1, 0) 4 = nI ((aT A).length + 1)) (hx : cTr x M' (aT A).length) : PC M (addTr A x) M' := by
  obtain ⟨⟨a, b1, c, e, f, g, r1, r2, r3, r4, r5⟩, h3, h4, h5, hf⟩ := hR
  refine ⟨⟨⟨a.to fun k => (hS _ _ (by simp)).2, fun t y hy => ?_, fun i y hy => (c i y hy).eqF hS (fun r h1 h2 j => by simp; omega), e.eqF hS (by simp) (fun j => by simp), (hS _ _ (by simp)).1.trans f, g.to fun k => (hS _ _ (by simp)).1, r1, ?_, r3, r4, r5⟩, (hS _ _ (by simp)).1.trans h3, ?_, (hS _ _ (by simp)).1.trans h5, (hS _ _ (by simp)).1.trans hf⟩, fun k hk j => hS k j (by omega)⟩
  · rcases app_at (show (aT A ++ [x])[t]? = some y from hy) with ⟨q, h1⟩ | ⟨rfl, rfl⟩
    · exact (b1 t y h1).eqF hS (fun r h1 h2 j => by simp; omega)
    · exact hx
  · show (aT A ++ [x]).length ≤ 12
    simp; omega
  · show _ = nI (aT A ++ [x]).length
    rw [h9]; simp
/-- a draft of traits is not there yet -/
theorem rc_dr (hR : RC A M) (hS : EqF (fun k j => ¬ (5 ≤ k.1 ∧ k.1 ≤ 7 ∧ k.2 = (aT A).length)) M M') : PC M A M' := by
  obtain ⟨⟨a, b1, c, e, f, g, r1, r2, r3, r4, r5⟩, h3, h4, h5, hf⟩ := hR
  exact ⟨⟨⟨a.to fun k => (hS _ _ (by simp)).2, fun t y hy => (b1 t y hy).eqF hS (fun r h1 h2 j => by have := at_lt hy; simp; omega), fun i y hy => (c i y hy).eqF hS (fun r h1 h2 j => by simp; omega), e.eqF hS (by simp) (fun j => by simp), (hS _ _ (by simp)).1.trans f, g.to fun k => (hS _ _ (by simp)).1, r1, r2, r3, r4, r5⟩, (hS _ _ (by simp)).1.trans h3, (hS _ _ (by simp)).1.trans h4, (hS _ _ (by simp)).1.trans h5, (hS _ _ (by simp)).1.trans hf⟩, fun k hk j => hS k j (by omega)⟩
theorem rc_aA {n : Int64} (hR : RC A M) (hl : (aA A).length < 6) : PC M (addAl A n) (ui (ul M (18, 0) (aA A).length n) (17, 0) 1 (nI ((aA A).length + 1))) := by
  have hS : EqF (fun k j => k.1 ≠ 17 ∧ k.1 ≠ 18) M (ui (ul M (18, 0) (aA A).length n) (17, 0) 1 (nI ((aA A).length + 1))) := (EqF.rf.ul (by simp)).ui (by simp)
  obtain ⟨⟨a, b1, c, e, f, g, r1, r2, r3, r4, r5⟩, h3, h4, h5, hf⟩ := hR
  refine ⟨⟨⟨a.to fun k => (hS _ _ (by simp)).2, fun t x hx => (b1 t x hx).eqF hS (fun r h1 h2 j => by simp; omega), fun i x hx => (c i x hx).eqF hS (fun r h1 h2 j => by simp; omega), ⟨?_, ?_⟩, (hS _ _ (by simp)).1.trans f, g.to fun k => (hS _ _ (by simp)).1, r1, r2, r3, ?_, r5⟩, (hS _ _ (by simp)).1.trans h3, (hS _ _ (by simp)).1.trans h4, (hS _ _ (by simp)).1.trans h5, (hS _ _ (by simp)).1.trans hf⟩, fun k hk j => hS k j (by omega)⟩
  · show _ = nI (aA A ++ [n]).length
    simp [ui]
  · exact e.2.push (fun k hk => by have hne : k ≠ (aA A).length := Nat.ne_of_lt hk; simp [ui, ul, hne]) (by simp [ui, ul])
  · show (aA A ++ [n]).length ≤ 6
    simp; omega
theorem rc_row {l : List Nat} (hR : RC A M) (hl : l.length ≤ 600) (hS : EqF (fun k _ => k.1 ≠ 15 ∧ k.1 ≠ 16) M M') (h1 : M'.1 (15, 0) 1 = nI l.length) (h2 : LN (M'.1 (16, 0)) l) : PC M (setR A l) M' := by
  obtain ⟨⟨a, b1, c, e, f, g, r1, r2, r3, r4, r5⟩, h3, h4, h5, hf⟩ := hR
  exact ⟨⟨⟨a.to fun k => (hS _ _ (by simp)).2, fun t x hx => (b1 t x hx).eqF hS (fun r h1 h2 j => by simp; omega), fun i x hx => (c i x hx).eqF hS (fun r h1 h2 j => by simp; omega), e.eqF hS (by simp) (fun j => by simp), h1, h2, r1, r2, r3, r4, hl⟩, (hS _ _ (by simp)).1.trans h3, (hS _ _ (by simp)).1.trans h4, (hS _ _ (by simp)).1.trans h5, (hS _ _ (by simp)).1.trans hf⟩, fun k hk j => hS k j (by omega)⟩
theorem rc_clr (hR : RC A M) : PC M (clrA A) (ui (ui (ui M (1, 0) 3 (nI 0)) (1, 0) 4 (nI 0)) (1, 0) 5 (nI 0)) := by
  have hS : EqF (fun k j => k.1 ≠ 1) M (ui (ui (ui M (1, 0) 3 (nI 0)) (1, 0) 4 (nI 0)) (1, 0) 5 (nI 0)) := ((EqF.rf.ui (by simp)).ui (by simp)).ui (by simp)
  obtain ⟨⟨a, b1, c, e, f, g, r1, r2, r3, r4, r5⟩, h3, h4, h5, hf⟩ := hR
  exact ⟨⟨⟨LI_nil _, (fun t x hx => by cases hx), (fun t x hx => by cases hx), e.eqF hS (by simp) (fun j => by simp), (hS _ _ (by simp)).1.trans f, g.to fun k => (hS _ _ (by simp)).1, Nat.zero_le _, Nat.zero_le _, Nat.zero_le _, r4, r5⟩, by simp [ui, clrA, aW], by simp [ui, clrA, aT], by simp [ui, clrA, aH], (hS _ _ (by simp)).1.trans hf⟩, fun k hk j => hS k j (by omega)⟩
end U1
