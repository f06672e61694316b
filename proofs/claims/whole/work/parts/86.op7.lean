/-! what is written is bytes -/
def By (k : Nat) (s : WS) : Prop := (∀ b ∈ s.1, b < 256) ∧ s.2.1.length + s.2.2.1.length + s.2.2.2.length + k ≤ s.1.length + 1 ∧ s.1.length ≤ 600
theorem By.le {k k' : Nat} {s : WS} (h : By k s) (hk : k' ≤ k) : By k' s := ⟨h.1, by have := h.2.1; omega, h.2.2⟩
theorem bd_some {α β : Type} {r : Option α} {f : α → Option β} {b : β} (h : r.bind f = some b) : ∃ a, r = some a ∧ f a = some b := by
  cases r with
  | none => cases h
  | some a => exact ⟨a, rfl, h⟩
theorem wb_by {b k : Nat} {s s1 : WS} (h : wb b s = some s1) (hb : b < 256) (hs : By k s) : By (k + 1) s1 := by
  unfold wb at h
  split at h
  · rename_i hl
    cases h
    refine ⟨fun c hc => ?_, ?_, ?_⟩
    · rcases List.mem_append.mp hc with h9 | h9
      · exact hs.1 c h9
      · rw [List.mem_singleton.mp h9]; exact hb
    · have := hs.2.1
      show s.2.1.length + s.2.2.1.length + s.2.2.2.length + (k + 1) ≤ (s.1 ++ [b]).length + 1
      rw [List.length_append]; simp; omega
    · show (s.1 ++ [b]).length ≤ 600
      rw [List.length_append]; simp; omega
  · cases h
theorem wbs_by : ∀ {l : List Nat} {k : Nat} {s s1 : WS}, wbs l s = some s1 → (∀ b ∈ l, b < 256) → By k s → By (k + l.length) s1
  | [], k, s, s1, h, _, hs => by cases h; exact hs
  | b :: l, k, s, s1, h, hb, hs => by
    obtain ⟨s2, h1, h2⟩ := bd_some (show (wb b s).bind (wbs l) = some s1 from h)
    have h3 := wbs_by h2 (fun c hc => hb c (List.mem_cons_of_mem _ hc)) (wb_by h1 (hb b List.mem_cons_self) hs)
    rw [List.length_cons]
    exact h3.le (by omega)
theorem numB_by {n : Nat} (h : n < 536870912) : (∀ b ∈ numB n, b < 256) ∧ 1 ≤ (numB n).length := by
  unfold numB
  split
  · exact ⟨fun b hb => by simp at hb; omega, by simp⟩
  · split
    · exact ⟨fun b hb => by simp at hb; omega, by simp⟩
    · split
      · exact ⟨fun b hb => by simp at hb; omega, by simp⟩
      · exact ⟨fun b hb => by simp at hb; omega, by simp⟩
theorem wnum_by {n k : Nat} {s s1 : WS} (h : wbs (numB n) s = some s1) (hn : n < 536870912) (hs : By k s) : By (k + 1) s1 := (wbs_by h (numB_by hn).1 hs).le (by have := (numB_by hn).2; omega)
theorem ltF_by (t : Int64) : ∀ (n i : Nat), ∀ b ∈ ltF t i n, b < 256
  | 0, i, b, h => by cases h
  | n + 1, i, b, h => by
    rcases List.mem_cons.mp (show b ∈ (uN t / 2 ^ (8 * i) % 256) :: ltF t (i + 1) n from h) with h1 | h1
    · rw [h1]; exact Nat.mod_lt _ (by decide)
    · exact ltF_by t n (i + 1) b h1
theorem eight_by (v : Int64) : ∀ b ∈ eightB v, b < 256 := fun b hb => by
  unfold eightB at hb
  simp at hb
  omega
theorem cz_le7 (u : Nat) : ∀ (n i : Nat), cz u i n ≤ n
  | 0, i => Nat.le_refl _
  | n + 1, i => by
    rw [cz_s]
    have := cz_le7 u n (i + 1)
    split <;> omega
theorem addT_by {t : Int64} {s : WS} (h : By 2 s) : By 1 (addT t s) := by
  unfold addT
  split
  · exact h.le (by decide)
  · exact ⟨h.1, by have := h.2.1; show (s.2.1 ++ [t]).length + _ + _ + _ ≤ _; rw [List.length_append]; simp; omega, h.2.2⟩
theorem wstr_by {t : Int64} {s s1 : WS} (h : wstr t s = some s1) (hs : By 1 s) : By 1 s1 := by
  unfold wstr at h
  cases hq : lfx s.2.1 t with
  | some p =>
    rw [hq] at h
    have hp := lfx_lt hq
    have h2 := hs.2.1
    have h3 := hs.2.2
    exact (wnum_by h (by omega) hs).le (by decide)
  | none =>
    rw [hq] at h
    obtain ⟨s2, h1, h2⟩ := bd_some h
    obtain ⟨s3, h3, h4⟩ := bd_some h2
    cases h4
    have := cz_le7 (uN t) 7 0
    exact addT_by ((wbs_by h3 (ltF_by t _ _) (wnum_by h1 (by omega) hs)).le (by omega))
theorem wstrs_by : ∀ {l : List Int64} {s s1 : WS}, wstrs l s = some s1 → By 1 s → By 1 s1
  | [], s, s1, h, hs => by cases h; exact hs
  | t :: l, s, s1, h, hs => by
    obtain ⟨s2, h1, h2⟩ := bd_some (show (wstr t s).bind (wstrs l) = some s1 from h)
    exact wstrs_by h2 (wstr_by h1 hs)
theorem wtr_by {A : Ab} (hwf : wfA A) {t : Nat} {s s1 : WS} (h : wtr A t s = some s1) (hs : By 1 s) : By 1 s1 := by
  unfold wtr at h
  have h2 := hs.2.1
  have h3 := hs.2.2
  cases hq : lfx (s.2.2.2.map lN) (lN t) with
  | some p =>
    rw [hq] at h
    have hp := lfx_lt hq
    rw [List.length_map] at hp
    exact (wnum_by h (by omega) hs).le (by decide)
  | none =>
    rw [hq] at h
    dsimp only at h
    cases hx : (aT A)[t]? with
    | none => rw [hx] at h; cases h
    | some x =>
      rw [hx] at h
      obtain ⟨s2, h4, h5⟩ := bd_some h
      obtain ⟨s3, h6, h7⟩ := bd_some h5
      have h8 := (hwf.1 x (at_mem hx)).2.1
      have ha : By 0 (addR t s) := ⟨hs.1, by show _ + _ + (s.2.2.2 ++ [t]).length + 0 ≤ _; rw [List.length_append]; simp; show s.2.1.length + s.2.2.1.length + (s.2.2.2.length + 1) ≤ s.1.length + 1; omega, hs.2.2⟩
      exact wstrs_by h7 (wstr_by h6 (wnum_by h4 (by split <;> omega) ha))
def RBy (rec : Int64 → WS → Option WS) : Prop := ∀ v s s1, rec v s = some s1 → By 1 s → By 1 s1
theorem witem_by {rec : Int64 → WS → Option WS} (hr : RBy rec) : ∀ {l : List Int64} {s s1 : WS}, witem rec l s = some s1 → By 1 s → By 1 s1
  | [], s, s1, h, hs => by cases h; exact hs
  | v :: l, s, s1, h, hs => by
    obtain ⟨s2, h1, h2⟩ := bd_some (show (rec v s).bind (witem rec l) = some s1 from h)
    exact witem_by hr h2 (hr _ _ _ h1 hs)
theorem wpair_by {rec : Int64 → WS → Option WS} (hr : RBy rec) : ∀ {ks vs : List Int64} {s s1 : WS}, wpair rec ks vs s = some s1 → By 1 s → By 1 s1
  | [], _, s, s1, h, hs => wstr_by (show wstr 0 s = some s1 from h) hs
  | _ :: _, [], s, s1, h, hs => wstr_by (show wstr 0 s = some s1 from h) hs
  | k :: ks, v :: vs, s, s1, h, hs => by
    obtain ⟨s2, h1, h2⟩ := bd_some (show (wstr k s).bind (fun s1 => (rec v s1).bind (wpair rec ks vs)) = some s1 from h)
    obtain ⟨s3, h3, h4⟩ := bd_some h2
    exact wpair_by hr h4 (hr _ _ _ h3 (wstr_by h1 hs))
def szB (A : Ab) : Prop := ∀ x ∈ aH A, (tL x).length ≤ 8
theorem RC.szb {A : Ab} {M : Mm} (h : RC A M) : szB A := fun x hx => by
  obtain ⟨j, hj, e⟩ := List.mem_iff_getElem.mp hx
  exact (h.1.2.2.1 j x (by rw [List.getElem?_eq_getElem hj, e])).2.2.2.2.2.2.1
theorem win_by {A : Ab} (hwf : wfA A) {rec : Int64 → WS → Option WS} (hr : RBy rec) {x : Th} (hok : thOK A x) (h8 : (tL x).length ≤ 8) {s s1 : WS} (h : win A rec x s = some s1) (hs : By 1 s) : By 1 s1 := by
  unfold win at h
  split at h
  · obtain ⟨s2, h1, h2⟩ := bd_some (show (wbs (numB 1) s).bind _ = some s1 from h)
    exact (wbs_by h2 (eight_by _) (wnum_by h1 (by decide) hs)).le (by omega)
  · split at h
    · rename_i h12
      obtain ⟨s2, h1, h2⟩ := bd_some (show (wbs (numB (2 * (tL x).length + 1)) s).bind _ = some s1 from h)
      refine (wbs_by h2 (fun b hb => ?_) (wnum_by h1 (by omega) hs)).le (by omega)
      obtain ⟨v, hv, e⟩ := List.mem_map.mp hb
      obtain ⟨c, hc, ev⟩ := hok.2.2.2.2.2.1 h12 v hv
      rw [← e, ev, by16 hc]; exact hc
    · split at h
      · obtain ⟨s2, h1, h2⟩ := bd_some (show (wbs (numB (2 * (tL x).length + 1)) s).bind _ = some s1 from h)
        obtain ⟨s3, h3, h4⟩ := bd_some h2
        exact witem_by hr h4 (wpair_by hr h3 ((wnum_by h1 (by omega) hs).le (by decide)))
      · obtain ⟨s2, h1, h2⟩ := bd_some (show (wtr A (tT x) s).bind _ = some s1 from h)
        obtain ⟨s3, h3, h4⟩ := bd_some h2
        have h5 := witem_by hr h3 (wtr_by hwf h1 hs)
        split at h4
        · exact wpair_by hr h4 h5
        · cases h4; exact h5
theorem wvalS_by {A : Ab} (hwf : wfA A) (hz : szB A) {rec : Option (Int64 → WS → Option WS)} (hr : ∀ r, rec = some r → RBy r) : RBy (wvalS A rec) := by
  intro v s s1 h hs
  unfold wvalS at h
  split at h
  · unfold wthing at h
    cases hx : (aH A)[uN (sh4 v)]? with
    | none => rw [hx] at h; cases h
    | some x =>
      rw [hx] at h
      obtain ⟨s2, h1, h2⟩ := bd_some (show (wb (tK x) s).bind _ = some s1 from h)
      have hok := hwf.2.2.1 _ (at_mem hx)
      have hk : tK x < 256 := by rcases hok.1 with h9 | h9 | h9 | h9 <;> omega
      have h3 := wb_by h1 hk hs
      unfold wth1 at h2
      cases hq : lfx (s2.2.2.1.map lN) (lN (uN (sh4 v))) with
      | some p =>
        rw [hq] at h2
        have hp := lfx_lt hq
        rw [List.length_map] at hp
        have h4 := h3.2.1
        have h5 := h3.2.2
        exact (wnum_by h2 (by omega) h3).le (by decide)
      | none =>
        rw [hq] at h2
        cases rec with
        | none => cases h2
        | some rec =>
          have ha : By 1 (addH (uN (sh4 v)) s2) := ⟨h3.1, by have := h3.2.1; show _ + (s2.2.2.1 ++ [_]).length + _ + 1 ≤ _; rw [List.length_append]; simp; show s2.2.1.length + (s2.2.2.1.length + 1) + s2.2.2.2.length ≤ s2.1.length; omega, h3.2.2⟩
          exact win_by hwf (hr rec rfl) hok (hz x (at_mem hx)) h2 ha
  · obtain ⟨s2, h1, h2⟩ := bd_some h
    have h3 := wb_by h1 (by omega) hs
    unfold wv1 at h2
    split at h2
    · exact (wnum_by h2 (by omega) h3).le (by decide)
    · split at h2
      · exact (wbs_by h2 (eight_by _) h3).le (by omega)
      · split at h2
        · exact wstr_by h2 (h3.le (by decide))
        · cases h2; exact h3.le (by decide)
theorem wval_by {A : Ab} (hwf : wfA A) (hz : szB A) : ∀ dl : Nat, RBy (wval A dl)
  | 0 => wvalS_by hwf hz (rec := none) (fun r h => by cases h)
  | dl + 1 => wvalS_by hwf hz (rec := some (wval A dl)) (fun r h => by cases h; exact wval_by hwf hz dl)
theorem isTx_0 : isTx 0 := txI_tx txI_0 (by decide)
section O5
variable {G : Gd} {A : Ab}
theorem op_encode (hG : Gok G) (hwf : wfA A) (hz : szB A) (v : Int64) : ∃ A', wfA A' ∧ ((∃ x, OpR G mX8_encode mX9_encode [.long v] A (some (.int x)) A') ∨ (∃ x, OpX G mX8_encode mX9_encode [.long v] A IAE (some (.int x)) 1 A') ∨ ∃ x, OpX G mX8_encode mX9_encode [.long v] A ISE (some (.int x)) 2 A') := by
  by_cases hv : vOK A v
  · cases hr : wval A 12 v s00 with
    | none => exact ⟨A, hwf, Or.inr (Or.inr ⟨nI 0, fun M hR => c_encodeN hG (by decide) hwf hR v hv hr, fun M hR => c_mencodeN hG (by decide) hwf hR v hv hr⟩)⟩
    | some s1 =>
      have hb := wval_by hwf hz 12 v s00 s1 hr ⟨(fun b h => by cases h), by simp [s00], by simp [s00]⟩
      exact ⟨setR A s1.1, wf_row hwf hb.1, Or.inl ⟨nI s1.1.length, fun M hR => c_encodeS hG (by decide) hwf hR v hv hr, fun M hR => c_mencodeS hG (by decide) hwf hR v hv hr⟩⟩
  · exact ⟨A, hwf, Or.inr (Or.inl ⟨nI 0, fun M hR => Ct.e (c_encodeX hG (by decide) hR v hv) (pc_rf hR), fun M hR => Ct.e (c_mencodeX hG (by decide) hR v hv) (pm_t hR 1)⟩)⟩
theorem dr_ml {M : Mm} {x : Tr} (hk : ∀ (t : Nat) (y : Tr), (aT A)[t]? = some y → cTr y M t) (hx : cTr x M (aT A).length) : ∀ i, i ≤ (aT A).length → M.1 (6, i) 1 = nI ((fun i => if h : i < (aT A).length then (rM (aT A)[i]).length else (rM x).length) i) ∧ ((fun i => if h : i < (aT A).length then (rM (aT A)[i]).length else (rM x).length) i) ≤ 3 := by
  intro i hi
  dsimp only
  by_cases h : i < (aT A).length
  · rw [dif_pos h]
    have := hk i _ (List.getElem?_eq_getElem h)
    exact ⟨this.2.2.1.1, this.2.2.2⟩
  · rw [dif_neg h]
    have e : i = (aT A).length := by omega
    rw [e]; exact ⟨hx.2.2.1.1, hx.2.2.2⟩
theorem op_traits0 (hG : Gok G) (hwf : wfA A) (hz : szA A) (nm : Int64) (w : Bool) (h1 : isTx nm) : ∃ A', wfA A' ∧ ((∃ x, OpR G mX8_traits mX9_traits [.long nm, .int (bI (w = true)), .long (0), .long (0), .long (0)] A (some (.int x)) A') ∨ (∃ x, OpX G mX8_traits mX9_traits [.long nm, .int (bI (w = true)), .long (0), .long (0), .long (0)] A IAE (some (.int x)) 1 A') ∨ ∃ x, OpX G mX8_traits mX9_traits [.long nm, .int (bI (w = true)), .long (0), .long (0), .long (0)] A ISE (some (.int x)) 2 A') := by
  have hz2 := hz.2.1
  have hok : trOK ((nm, w, []) : Tr) := ⟨h1, by simp [rM], List.nodup_nil, fun e h => by cases h⟩
  have hS : ∀ M : Mm, EqF (fun k _ => ¬ (5 ≤ k.1 ∧ k.1 ≤ 7 ∧ k.2 = (aT A).length)) M (ui (ui (ul M (5, (aT A).length) 1 nm) (5, (aT A).length) 2 (bI (w = true))) (6, (aT A).length) 1 (nI 0)) := fun M => (((EqF.rf.ul (by simp)).ui (by simp)).ui (by simp))
  have hx : ∀ M : Mm, cTr ((nm, w, []) : Tr) (ui (ui (ul M (5, (aT A).length) 1 nm) (5, (aT A).length) 2 (bI (w = true))) (6, (aT A).length) 1 (nI 0)) (aT A).length := fun M => by
    refine ⟨by simp [ui, ul, rN], by simp [ui, ul, rD], ⟨by simp [ui, ul, rM], fun k v hv => ?_⟩, hok.2.1⟩
    have hk := at_lt hv
    rcases k with _ | _ | _ | k
    · first | (cases hv; simp [ui, ul]; done) | cases hv
    · first | (cases hv; simp [ui, ul]; done) | cases hv
    · first | (cases hv; simp [ui, ul]; done) | cases hv
    · cases hv
  have hkk : ∀ M : Mm, RC A M → ∀ (t : Nat) (y : Tr), (aT A)[t]? = some y → cTr y (ui (ui (ul M (5, (aT A).length) 1 nm) (5, (aT A).length) 2 (bI (w = true))) (6, (aT A).length) 1 (nI 0)) t := fun M hR t y hy => (hR.1.2.1 t y hy).eqF (hS M) (fun r h1 h2 j => by have := at_lt hy; simp; omega)
  have hle := tpos_le (aT A) ((nm, w, []) : Tr)
  have hP : ∀ M : Mm, RM A M → ∀ t, t < (aT A).length → (mal M nm (bI (w = true)) 0 0 0 0 t ↔ (aT A)[t]? = some ((nm, w, []) : Tr)) := fun M hR t ht => by
    rw [List.getElem?_eq_getElem ht]
    exact (mal_iff (x := ((nm, w, []) : Tr)) (hR.1.2.1 t _ (List.getElem?_eq_getElem ht)) hok.2.1 rfl rfl rfl).trans ⟨fun e => by rw [e], fun e => Option.some.inj e⟩
  have dp : ∀ M : Mm, RC A M → _ := fun M hR => draft_pos (s := rs0 A) (x := ((nm, w, []) : Tr)) (hkk M hR) (hx M)
  by_cases hpos : tpos (aT A) ((nm, w, []) : Tr) = (aT A).length
  · by_cases h12 : (aT A).length = 12
    · refine ⟨A, hwf, Or.inr (Or.inr ⟨nI 0, fun M hR => ?_, fun M hR => ?_⟩)⟩
      · exact Ct.e (c_traits0X hG (by decide) nm (w = true) h1 ⟨⟨isTx_0, isTx_0, isTx_0⟩, Or.inl ⟨rfl, rfl, rfl⟩⟩ hR.2.2.1 hz2 _ (dr_ml (hkk M hR) (hx M)) (dp M hR) (hpos.trans h12)) (rc_dr hR (hS M))
      · have hf := lx_no (hP M hR) hpos
        rw [h12] at hf
        exact Ct.e (c_mtraits0X hG (by decide) nm (w = true) h1 (hR.2.2.1.trans (by rw [h12])) hf) (pm_t hR 2)
    · have hlt : (aT A).length < 12 := by omega
      refine ⟨addTr A ((nm, w, []) : Tr), wf_tr hwf hok (tpos_no hpos), Or.inl ⟨nI (aT A).length, fun M hR => ?_, fun M hR => ?_⟩⟩
      · have h := c_traits0N (d := 64) hG (by decide) nm (w = true) h1 ⟨⟨isTx_0, isTx_0, isTx_0⟩, Or.inl ⟨rfl, rfl, rfl⟩⟩ hR.2.2.1 hz2 _ (dr_ml (hkk M hR) (hx M)) (dp M hR) hpos hlt
        rw [show nI (tpos (pT (rs0 A)) ((nm, w, []) : Tr)) = nI (aT A).length from congrArg nI hpos] at h
        exact Ct.e h (rc_aT hR hlt (EqF.ui ((hS M).sub fun k j z => z.1) (by simp)) (by simp [ui]) ((hx M).eqF (on := fun k _ => k.1 ≠ 1) (EqF.rf.ui (by simp)) (fun r h1 h2 j => by simp; omega)))
      · exact Ct.e (c_mtraits0N hG (by decide) nm (w = true) h1 hR.2.2.1 hz2 (lx_no (hP M hR) hpos) hlt) (rm_aT (x := ((nm, w, []) : Tr)) hR hlt hok.2.1 rfl rfl rfl)
  · have hlt : tpos (aT A) ((nm, w, []) : Tr) < (aT A).length := by omega
    exact ⟨A, hwf, Or.inl ⟨nI (tpos (aT A) ((nm, w, []) : Tr)), fun M hR => Ct.e (c_traits0O hG (by decide) nm (w = true) h1 ⟨⟨isTx_0, isTx_0, isTx_0⟩, Or.inl ⟨rfl, rfl, rfl⟩⟩ hR.2.2.1 hz2 _ (dr_ml (hkk M hR) (hx M)) (dp M hR) hlt) (rc_dr hR (hS M)), fun M hR => Ct.e (c_mtraits0O hG (by decide) nm (w = true) h1 hR.2.2.1 hz2 (lx_at hwf.2.1 (hP M hR) hlt) hlt) (pm_t hR 0)⟩⟩
theorem op_traits1 (hG : Gok G) (hwf : wfA A) (hz : szA A) (nm : Int64) (w : Bool) (a : Int64) (ha0 : a ≠ 0) (hta : isTx a) (h1 : isTx nm) : ∃ A', wfA A' ∧ ((∃ x, OpR G mX8_traits mX9_traits [.long nm, .int (bI (w = true)), .long a, .long (0), .long (0)] A (some (.int x)) A') ∨ (∃ x, OpX G mX8_traits mX9_traits [.long nm, .int (bI (w = true)), .long a, .long (0), .long (0)] A IAE (some (.int x)) 1 A') ∨ ∃ x, OpX G mX8_traits mX9_traits [.long nm, .int (bI (w = true)), .long a, .long (0), .long (0)] A ISE (some (.int x)) 2 A') := by
  have hz2 := hz.2.1
  have hok : trOK ((nm, w, [a]) : Tr) := ⟨h1, by simp [rM], by simp [rM], fun e h => by rw [List.mem_singleton.mp h]; exact ⟨hta, ha0⟩⟩
  have hS : ∀ M : Mm, EqF (fun k _ => ¬ (5 ≤ k.1 ∧ k.1 ≤ 7 ∧ k.2 = (aT A).length)) M (ui (ul (ui (ui (ul M (5, (aT A).length) 1 nm) (5, (aT A).length) 2 (bI (w = true))) (6, (aT A).length) 1 (nI 0)) (7, (aT A).length) 0 a) (6, (aT A).length) 1 (nI 1)) := fun M => (((((EqF.rf.ul (by simp)).ui (by simp)).ui (by simp)).ul (by simp)).ui (by simp))
  have hx : ∀ M : Mm, cTr ((nm, w, [a]) : Tr) (ui (ul (ui (ui (ul M (5, (aT A).length) 1 nm) (5, (aT A).length) 2 (bI (w = true))) (6, (aT A).length) 1 (nI 0)) (7, (aT A).length) 0 a) (6, (aT A).length) 1 (nI 1)) (aT A).length := fun M => by
    refine ⟨by simp [ui, ul, rN], by simp [ui, ul, rD], ⟨by simp [ui, ul, rM], fun k v hv => ?_⟩, hok.2.1⟩
    have hk := at_lt hv
    rcases k with _ | _ | _ | k
    · first | (cases hv; simp [ui, ul]; done) | cases hv
    · first | (cases hv; simp [ui, ul]; done) | cases hv
    · first | (cases hv; simp [ui, ul]; done) | cases hv
    · cases hv
  have hkk : ∀ M : Mm, RC A M → ∀ (t : Nat) (y : Tr), (aT A)[t]? = some y → cTr y (ui (ul (ui (ui (ul M (5, (aT A).length) 1 nm) (5, (aT A).length) 2 (bI (w = true))) (6, (aT A).length) 1 (nI 0)) (7, (aT A).length) 0 a) (6, (aT A).length) 1 (nI 1)) t := fun M hR t y hy => (hR.1.2.1 t y hy).eqF (hS M) (fun r h1 h2 j => by have := at_lt hy; simp; omega)
  have hle := tpos_le (aT A) ((nm, w, [a]) : Tr)
  have hP : ∀ M : Mm, RM A M → ∀ t, t < (aT A).length → (mal M nm (bI (w = true)) 1 a 0 0 t ↔ (aT A)[t]? = some ((nm, w, [a]) : Tr)) := fun M hR t ht => by
    rw [List.getElem?_eq_getElem ht]
    exact (mal_iff (x := ((nm, w, [a]) : Tr)) (hR.1.2.1 t _ (List.getElem?_eq_getElem ht)) hok.2.1 rfl rfl rfl).trans ⟨fun e => by rw [e], fun e => Option.some.inj e⟩
  have dp : ∀ M : Mm, RC A M → _ := fun M hR => draft_pos (s := rs0 A) (x := ((nm, w, [a]) : Tr)) (hkk M hR) (hx M)
  by_cases hpos : tpos (aT A) ((nm, w, [a]) : Tr) = (aT A).length
  · by_cases h12 : (aT A).length = 12
    · refine ⟨A, hwf, Or.inr (Or.inr ⟨nI 0, fun M hR => ?_, fun M hR => ?_⟩)⟩
      · exact Ct.e (c_traits1X hG (by decide) nm (w = true) a ha0 h1 ⟨⟨hta, isTx_0, isTx_0⟩, Or.inr (Or.inl ⟨ha0, rfl, rfl⟩)⟩ hR.2.2.1 hz2 _ (dr_ml (hkk M hR) (hx M)) (dp M hR) (hpos.trans h12)) (rc_dr hR (hS M))
      · have hf := lx_no (hP M hR) hpos
        rw [h12] at hf
        exact Ct.e (c_mtraits1X hG (by decide) nm (w = true) a ha0 hta h1 (hR.2.2.1.trans (by rw [h12])) hf) (pm_t hR 2)
    · have hlt : (aT A).length < 12 := by omega
      refine ⟨addTr A ((nm, w, [a]) : Tr), wf_tr hwf hok (tpos_no hpos), Or.inl ⟨nI (aT A).length, fun M hR => ?_, fun M hR => ?_⟩⟩
      · have h := c_traits1N (d := 64) hG (by decide) nm (w = true) a ha0 h1 ⟨⟨hta, isTx_0, isTx_0⟩, Or.inr (Or.inl ⟨ha0, rfl, rfl⟩)⟩ hR.2.2.1 hz2 _ (dr_ml (hkk M hR) (hx M)) (dp M hR) hpos hlt
        rw [show nI (tpos (pT (rs0 A)) ((nm, w, [a]) : Tr)) = nI (aT A).length from congrArg nI hpos] at h
        exact Ct.e h (rc_aT hR hlt (EqF.ui ((hS M).sub fun k j z => z.1) (by simp)) (by simp [ui]) ((hx M).eqF (on := fun k _ => k.1 ≠ 1) (EqF.rf.ui (by simp)) (fun r h1 h2 j => by simp; omega)))
      · exact Ct.e (c_mtraits1N hG (by decide) nm (w = true) a ha0 hta h1 hR.2.2.1 hz2 (lx_no (hP M hR) hpos) hlt) (rm_aT (x := ((nm, w, [a]) : Tr)) hR hlt hok.2.1 rfl rfl rfl)
  · have hlt : tpos (aT A) ((nm, w, [a]) : Tr) < (aT A).length := by omega
    exact ⟨A, hwf, Or.inl ⟨nI (tpos (aT A) ((nm, w, [a]) : Tr)), fun M hR => Ct.e (c_traits1O hG (by decide) nm (w = true) a ha0 h1 ⟨⟨hta, isTx_0, isTx_0⟩, Or.inr (Or.inl ⟨ha0, rfl, rfl⟩)⟩ hR.2.2.1 hz2 _ (dr_ml (hkk M hR) (hx M)) (dp M hR) hlt) (rc_dr hR (hS M)), fun M hR => Ct.e (c_mtraits1O hG (by decide) nm (w = true) a ha0 hta h1 hR.2.2.1 hz2 (lx_at hwf.2.1 (hP M hR) hlt) hlt) (pm_t hR 0)⟩⟩
theorem op_traits2 (hG : Gok G) (hwf : wfA A) (hz : szA A) (nm : Int64) (w : Bool) (a : Int64) (ha0 : a ≠ 0) (hta : isTx a) (b : Int64) (hb0 : b ≠ 0) (htb : isTx b) (hab : a ≠ b) (h1 : isTx nm) : ∃ A', wfA A' ∧ ((∃ x, OpR G mX8_traits mX9_traits [.long nm, .int (bI (w = true)), .long a, .long b, .long (0)] A (some (.int x)) A') ∨ (∃ x, OpX G mX8_traits mX9_traits [.long nm, .int (bI (w = true)), .long a, .long b, .long (0)] A IAE (some (.int x)) 1 A') ∨ ∃ x, OpX G mX8_traits mX9_traits [.long nm, .int (bI (w = true)), .long a, .long b, .long (0)] A ISE (some (.int x)) 2 A') := by
  have hz2 := hz.2.1
  have hok : trOK ((nm, w, [a, b]) : Tr) := ⟨h1, by simp [rM], by simp [rM, hab], fun e h => by rcases List.mem_cons.mp h with h | h; (rw [h]; exact ⟨hta, ha0⟩); (rw [List.mem_singleton.mp h]; exact ⟨htb, hb0⟩)⟩
  have hS : ∀ M : Mm, EqF (fun k _ => ¬ (5 ≤ k.1 ∧ k.1 ≤ 7 ∧ k.2 = (aT A).length)) M (ui (ul (ui (ul (ui (ui (ul M (5, (aT A).length) 1 nm) (5, (aT A).length) 2 (bI (w = true))) (6, (aT A).length) 1 (nI 0)) (7, (aT A).length) 0 a) (6, (aT A).length) 1 (nI 1)) (7, (aT A).length) 1 b) (6, (aT A).length) 1 (nI 2)) := fun M => (((((((EqF.rf.ul (by simp)).ui (by simp)).ui (by simp)).ul (by simp)).ui (by simp)).ul (by simp)).ui (by simp))
  have hx : ∀ M : Mm, cTr ((nm, w, [a, b]) : Tr) (ui (ul (ui (ul (ui (ui (ul M (5, (aT A).length) 1 nm) (5, (aT A).length) 2 (bI (w = true))) (6, (aT A).length) 1 (nI 0)) (7, (aT A).length) 0 a) (6, (aT A).length) 1 (nI 1)) (7, (aT A).length) 1 b) (6, (aT A).length) 1 (nI 2)) (aT A).length := fun M => by
    refine ⟨by simp [ui, ul, rN], by simp [ui, ul, rD], ⟨by simp [ui, ul, rM], fun k v hv => ?_⟩, hok.2.1⟩
    have hk := at_lt hv
    rcases k with _ | _ | _ | k
    · first | (cases hv; simp [ui, ul]; done) | cases hv
    · first | (cases hv; simp [ui, ul]; done) | cases hv
    · first | (cases hv; simp [ui, ul]; done) | cases hv
    · cases hv
  have hkk : ∀ M : Mm, RC A M → ∀ (t : Nat) (y : Tr), (aT A)[t]? = some y → cTr y (ui (ul (ui (ul (ui (ui (ul M (5, (aT A).length) 1 nm) (5, (aT A).length) 2 (bI (w = true))) (6, (aT A).length) 1 (nI 0)) (7, (aT A).length) 0 a) (6, (aT A).length) 1 (nI 1)) (7, (aT A).length) 1 b) (6, (aT A).length) 1 (nI 2)) t := fun M hR t y hy => (hR.1.2.1 t y hy).eqF (hS M) (fun r h1 h2 j => by have := at_lt hy; simp; omega)
  have hle := tpos_le (aT A) ((nm, w, [a, b]) : Tr)
  have hP : ∀ M : Mm, RM A M → ∀ t, t < (aT A).length → (mal M nm (bI (w = true)) 2 a b 0 t ↔ (aT A)[t]? = some ((nm, w, [a, b]) : Tr)) := fun M hR t ht => by
    rw [List.getElem?_eq_getElem ht]
    exact (mal_iff (x := ((nm, w, [a, b]) : Tr)) (hR.1.2.1 t _ (List.getElem?_eq_getElem ht)) hok.2.1 rfl rfl rfl).trans ⟨fun e => by rw [e], fun e => Option.some.inj e⟩
  have dp : ∀ M : Mm, RC A M → _ := fun M hR => draft_pos (s := rs0 A) (x := ((nm, w, [a, b]) : Tr)) (hkk M hR) (hx M)
  by_cases hpos : tpos (aT A) ((nm, w, [a, b]) : Tr) = (aT A).length
  · by_cases h12 : (aT A).length = 12
    · refine ⟨A, hwf, Or.inr (Or.inr ⟨nI 0, fun M hR => ?_, fun M hR => ?_⟩)⟩
      · exact Ct.e (c_traits2X hG (by decide) nm (w = true) a ha0 b hb0 h1 ⟨⟨hta, htb, isTx_0⟩, Or.inr (Or.inr ⟨ha0, hb0, hab, ha0, hb0⟩)⟩ hR.2.2.1 hz2 _ (dr_ml (hkk M hR) (hx M)) (dp M hR) (hpos.trans h12)) (rc_dr hR (hS M))
      · have hf := lx_no (hP M hR) hpos
        rw [h12] at hf
        exact Ct.e (c_mtraits2X hG (by decide) nm (w = true) a ha0 hta b hb0 htb hab h1 (hR.2.2.1.trans (by rw [h12])) hf) (pm_t hR 2)
    · have hlt : (aT A).length < 12 := by omega
      refine ⟨addTr A ((nm, w, [a, b]) : Tr), wf_tr hwf hok (tpos_no hpos), Or.inl ⟨nI (aT A).length, fun M hR => ?_, fun M hR => ?_⟩⟩
      · have h := c_traits2N (d := 64) hG (by decide) nm (w = true) a ha0 b hb0 h1 ⟨⟨hta, htb, isTx_0⟩, Or.inr (Or.inr ⟨ha0, hb0, hab, ha0, hb0⟩)⟩ hR.2.2.1 hz2 _ (dr_ml (hkk M hR) (hx M)) (dp M hR) hpos hlt
        rw [show nI (tpos (pT (rs0 A)) ((nm, w, [a, b]) : Tr)) = nI (aT A).length from congrArg nI hpos] at h
        exact Ct.e h (rc_aT hR hlt (EqF.ui ((hS M).sub fun k j z => z.1) (by simp)) (by simp [ui]) ((hx M).eqF (on := fun k _ => k.1 ≠ 1) (EqF.rf.ui (by simp)) (fun r h1 h2 j => by simp; omega)))
      · exact Ct.e (c_mtraits2N hG (by decide) nm (w = true) a ha0 hta b hb0 htb hab h1 hR.2.2.1 hz2 (lx_no (hP M hR) hpos) hlt) (rm_aT (x := ((nm, w, [a, b]) : Tr)) hR hlt hok.2.1 rfl rfl rfl)
  · have hlt : tpos (aT A) ((nm, w, [a, b]) : Tr) < (aT A).length := by omega
    exact ⟨A, hwf, Or.inl ⟨nI (tpos (aT A) ((nm, w, [a, b]) : Tr)), fun M hR => Ct.e (c_traits2O hG (by decide) nm (w = true) a ha0 b hb0 h1 ⟨⟨hta, htb, isTx_0⟩, Or.inr (Or.inr ⟨ha0, hb0, hab, ha0, hb0⟩)⟩ hR.2.2.1 hz2 _ (dr_ml (hkk M hR) (hx M)) (dp M hR) hlt) (rc_dr hR (hS M)), fun M hR => Ct.e (c_mtraits2O hG (by decide) nm (w = true) a ha0 hta b hb0 htb hab h1 hR.2.2.1 hz2 (lx_at hwf.2.1 (hP M hR) hlt) hlt) (pm_t hR 0)⟩⟩
theorem op_traits3 (hG : Gok G) (hwf : wfA A) (hz : szA A) (nm : Int64) (w : Bool) (a : Int64) (ha0 : a ≠ 0) (hta : isTx a) (b : Int64) (hb0 : b ≠ 0) (htb : isTx b) (c : Int64) (hc0 : c ≠ 0) (htc : isTx c) (hab : a ≠ b) (hac : a ≠ c) (hbc : b ≠ c) (h1 : isTx nm) : ∃ A', wfA A' ∧ ((∃ x, OpR G mX8_traits mX9_traits [.long nm, .int (bI (w = true)), .long a, .long b, .long c] A (some (.int x)) A') ∨ (∃ x, OpX G mX8_traits mX9_traits [.long nm, .int (bI (w = true)), .long a, .long b, .long c] A IAE (some (.int x)) 1 A') ∨ ∃ x, OpX G mX8_traits mX9_traits [.long nm, .int (bI (w = true)), .long a, .long b, .long c] A ISE (some (.int x)) 2 A') := by
  have hz2 := hz.2.1
  have hok : trOK ((nm, w, [a, b, c]) : Tr) := ⟨h1, by simp [rM], by simp [rM, hab, hac, hbc], fun e h => by rcases List.mem_cons.mp h with h | h; (rw [h]; exact ⟨hta, ha0⟩); (rcases List.mem_cons.mp h with h | h; (rw [h]; exact ⟨htb, hb0⟩); (rw [List.mem_singleton.mp h]; exact ⟨htc, hc0⟩))⟩
  have hS : ∀ M : Mm, EqF (fun k _ => ¬ (5 ≤ k.1 ∧ k.1 ≤ 7 ∧ k.2 = (aT A).length)) M (ui (ul (ui (ul (ui (ul (ui (ui (ul M (5, (aT A).length) 1 nm) (5, (aT A).length) 2 (bI (w = true))) (6, (aT A).length) 1 (nI 0)) (7, (aT A).length) 0 a) (6, (aT A).length) 1 (nI 1)) (7, (aT A).length) 1 b) (6, (aT A).length) 1 (nI 2)) (7, (aT A).length) 2 c) (6, (aT A).length) 1 (nI 3)) := fun M => (((((((((EqF.rf.ul (by simp)).ui (by simp)).ui (by simp)).ul (by simp)).ui (by simp)).ul (by simp)).ui (by simp)).ul (by simp)).ui (by simp))
  have hx : ∀ M : Mm, cTr ((nm, w, [a, b, c]) : Tr) (ui (ul (ui (ul (ui (ul (ui (ui (ul M (5, (aT A).length) 1 nm) (5, (aT A).length) 2 (bI (w = true))) (6, (aT A).length) 1 (nI 0)) (7, (aT A).length) 0 a) (6, (aT A).length) 1 (nI 1)) (7, (aT A).length) 1 b) (6, (aT A).length) 1 (nI 2)) (7, (aT A).length) 2 c) (6, (aT A).length) 1 (nI 3)) (aT A).length := fun M => by
    refine ⟨by simp [ui, ul, rN], by simp [ui, ul, rD], ⟨by simp [ui, ul, rM], fun k v hv => ?_⟩, hok.2.1⟩
    have hk := at_lt hv
    rcases k with _ | _ | _ | k
    · first | (cases hv; simp [ui, ul]; done) | cases hv
    · first | (cases hv; simp [ui, ul]; done) | cases hv
    · first | (cases hv; simp [ui, ul]; done) | cases hv
    · cases hv
  have hkk : ∀ M : Mm, RC A M → ∀ (t : Nat) (y : Tr), (aT A)[t]? = some y → cTr y (ui (ul (ui (ul (ui (ul (ui (ui (ul M (5, (aT A).length) 1 nm) (5, (aT A).length) 2 (bI (w = true))) (6, (aT A).length) 1 (nI 0)) (7, (aT A).length) 0 a) (6, (aT A).length) 1 (nI 1)) (7, (aT A).length) 1 b) (6, (aT A).length) 1 (nI 2)) (7, (aT A).length) 2 c) (6, (aT A).length) 1 (nI 3)) t := fun M hR t y hy => (hR.1.2.1 t y hy).eqF (hS M) (fun r h1 h2 j => by have := at_lt hy; simp; omega)
  have hle := tpos_le (aT A) ((nm, w, [a, b, c]) : Tr)
  have hP : ∀ M : Mm, RM A M → ∀ t, t < (aT A).length → (mal M nm (bI (w = true)) 3 a b c t ↔ (aT A)[t]? = some ((nm, w, [a, b, c]) : Tr)) := fun M hR t ht => by
    rw [List.getElem?_eq_getElem ht]
    exact (mal_iff (x := ((nm, w, [a, b, c]) : Tr)) (hR.1.2.1 t _ (List.getElem?_eq_getElem ht)) hok.2.1 rfl rfl rfl).trans ⟨fun e => by rw [e], fun e => Option.some.inj e⟩
  have dp : ∀ M : Mm, RC A M → _ := fun M hR => draft_pos (s := rs0 A) (x := ((nm, w, [a, b, c]) : Tr)) (hkk M hR) (hx M)
  by_cases hpos : tpos (aT A) ((nm, w, [a, b, c]) : Tr) = (aT A).length
  · by_cases h12 : (aT A).length = 12
    · refine ⟨A, hwf, Or.inr (Or.inr ⟨nI 0, fun M hR => ?_, fun M hR => ?_⟩)⟩
      · exact Ct.e (c_traits3X hG (by decide) nm (w = true) a ha0 b hb0 c hc0 h1 ⟨⟨hta, htb, htc⟩, Or.inr (Or.inr ⟨ha0, hb0, hab, hac, hbc⟩)⟩ hR.2.2.1 hz2 _ (dr_ml (hkk M hR) (hx M)) (dp M hR) (hpos.trans h12)) (rc_dr hR (hS M))
      · have hf := lx_no (hP M hR) hpos
        rw [h12] at hf
        exact Ct.e (c_mtraits3X hG (by decide) nm (w = true) a ha0 hta b hb0 htb c hc0 htc hab hac hbc h1 (hR.2.2.1.trans (by rw [h12])) hf) (pm_t hR 2)
    · have hlt : (aT A).length < 12 := by omega
      refine ⟨addTr A ((nm, w, [a, b, c]) : Tr), wf_tr hwf hok (tpos_no hpos), Or.inl ⟨nI (aT A).length, fun M hR => ?_, fun M hR => ?_⟩⟩
      · have h := c_traits3N (d := 64) hG (by decide) nm (w = true) a ha0 b hb0 c hc0 h1 ⟨⟨hta, htb, htc⟩, Or.inr (Or.inr ⟨ha0, hb0, hab, hac, hbc⟩)⟩ hR.2.2.1 hz2 _ (dr_ml (hkk M hR) (hx M)) (dp M hR) hpos hlt
        rw [show nI (tpos (pT (rs0 A)) ((nm, w, [a, b, c]) : Tr)) = nI (aT A).length from congrArg nI hpos] at h
        exact Ct.e h (rc_aT hR hlt (EqF.ui ((hS M).sub fun k j z => z.1) (by simp)) (by simp [ui]) ((hx M).eqF (on := fun k _ => k.1 ≠ 1) (EqF.rf.ui (by simp)) (fun r h1 h2 j => by simp; omega)))
      · exact Ct.e (c_mtraits3N hG (by decide) nm (w = true) a ha0 hta b hb0 htb c hc0 htc hab hac hbc h1 hR.2.2.1 hz2 (lx_no (hP M hR) hpos) hlt) (rm_aT (x := ((nm, w, [a, b, c]) : Tr)) hR hlt hok.2.1 rfl rfl rfl)
  · have hlt : tpos (aT A) ((nm, w, [a, b, c]) : Tr) < (aT A).length := by omega
    exact ⟨A, hwf, Or.inl ⟨nI (tpos (aT A) ((nm, w, [a, b, c]) : Tr)), fun M hR => Ct.e (c_traits3O hG (by decide) nm (w = true) a ha0 b hb0 c hc0 h1 ⟨⟨hta, htb, htc⟩, Or.inr (Or.inr ⟨ha0, hb0, hab, hac, hbc⟩)⟩ hR.2.2.1 hz2 _ (dr_ml (hkk M hR) (hx M)) (dp M hR) hlt) (rc_dr hR (hS M)), fun M hR => Ct.e (c_mtraits3O hG (by decide) nm (w = true) a ha0 hta b hb0 htb c hc0 htc hab hac hbc h1 hR.2.2.1 hz2 (lx_at hwf.2.1 (hP M hR) hlt) hlt) (pm_t hR 0)⟩⟩
theorem op_traits (hG : Gok G) (hwf : wfA A) (hz : szA A) (nm : Int64) (w : Bool) (a b c : Int64) : ∃ A', wfA A' ∧ ((∃ x, OpR G mX8_traits mX9_traits [.long nm, .int (bI (w = true)), .long a, .long b, .long c] A (some (.int x)) A') ∨ (∃ x, OpX G mX8_traits mX9_traits [.long nm, .int (bI (w = true)), .long a, .long b, .long c] A IAE (some (.int x)) 1 A') ∨ ∃ x, OpX G mX8_traits mX9_traits [.long nm, .int (bI (w = true)), .long a, .long b, .long c] A ISE (some (.int x)) 2 A') := by
  by_cases h1 : isTx nm
  · by_cases h2 : cbm a b c
    · obtain ⟨⟨ta, tb, tc⟩, h | h | h⟩ := id h2
      · obtain ⟨rfl, rfl, rfl⟩ := h
        exact op_traits0 hG hwf hz nm w h1
      · obtain ⟨ha, rfl, rfl⟩ := h
        exact op_traits1 hG hwf hz nm w a ha ta h1
      · obtain ⟨ha, hb, hab, hac, hbc⟩ := h
        by_cases hc : c = 0
        · subst hc
          exact op_traits2 hG hwf hz nm w a ha ta b hb tb hab h1
        · exact op_traits3 hG hwf hz nm w a ha ta b hb tb c hc tc hab hac hbc h1
    · exact ⟨A, hwf, Or.inr (Or.inl ⟨nI 0, fun M hR => Ct.e (c_traitsB hG (by decide) nm (w = true) a b c h1 h2) (pc_rf hR), fun M hR => Ct.e (c_mtraitsX hG (by decide) nm (w = true) a b c (fun z => h2 z.2)) (pm_t hR 1)⟩)⟩
  · exact ⟨A, hwf, Or.inr (Or.inl ⟨nI 0, fun M hR => Ct.e (c_traitsA hG (by decide) nm (w = true) a b c h1) (pc_rf hR), fun M hR => Ct.e (c_mtraitsX hG (by decide) nm (w = true) a b c (fun z => h1 z.1)) (pm_t hR 1)⟩)⟩
end O5
