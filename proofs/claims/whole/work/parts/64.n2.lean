theorem fp_min {P : Nat → Prop} : ∀ {n i t : Nat}, i ≤ t → t < i + n → P t → fp P i n ≤ t
  | 0, i, t, h1, h2, h3 => absurd h2 (by omega)
  | n + 1, i, t, h1, h2, h3 => by
    by_cases hp : P i
    · rw [fp_t hp]; exact h1
    · rw [fp_f hp]
      have : ¬ i = t := fun e => hp (e ▸ h3)
      exact fp_min (by omega) (by omega) h3
theorem lxP_un {P : Nat → Prop} {p : Nat} : ∀ (n k : Nat) (r : Option Nat), (∀ t, k ≤ t → t < k + n → (P t ↔ t = p)) → lxP P r k n = if k ≤ p ∧ p < k + n then some p else r
  | 0, k, r, h => by rw [if_neg (by omega)]; rfl
  | n + 1, k, r, h => by
    by_cases hp : P k
    · have e := (h k (Nat.le_refl _) (by omega)).mp hp
      rw [lxP_t hp, lxP_un n (k + 1) (some k) (fun t h1 h2 => h t (by omega) (by omega)), if_neg (by omega), if_pos (by omega), e]
    · have e : ¬ k = p := fun e => hp ((h k (Nat.le_refl _) (by omega)).mpr e)
      rw [lxP_f hp, lxP_un n (k + 1) r (fun t h1 h2 => h t (by omega) (by omega))]
      by_cases hq : k + 1 ≤ p ∧ p < k + 1 + n
      · rw [if_pos hq, if_pos (by omega)]
      · rw [if_neg hq, if_neg (by omega)]
theorem lxP_no {P : Nat → Prop} : ∀ (n k : Nat) (r : Option Nat), (∀ t, k ≤ t → t < k + n → ¬ P t) → lxP P r k n = r
  | 0, k, r, h => rfl
  | n + 1, k, r, h => by rw [lxP_f (h k (Nat.le_refl _) (by omega)), lxP_no n (k + 1) r (fun t h1 h2 => h t (by omega) (by omega))]
theorem lx_no {l : List Tr} {x : Tr} {P : Nat → Prop} (hP : ∀ t, t < l.length → (P t ↔ l[t]? = some x)) (h : tpos l x = l.length) : lxP P none 0 l.length = none := by
  refine lxP_no _ _ _ fun t _ h2 hp => ?_
  have h3 : fp (fun i => l[i]? = some x) 0 l.length ≤ t := fp_min (Nat.zero_le _) h2 ((hP t (by omega)).mp hp)
  unfold tpos at h
  omega
theorem lx_at {l : List Tr} {x : Tr} (hn : l.Nodup) {P : Nat → Prop} (hP : ∀ t, t < l.length → (P t ↔ l[t]? = some x)) (h : tpos l x < l.length) : lxP P none 0 l.length = some (tpos l x) := by
  rw [lxP_un (p := tpos l x) _ _ _ fun t _ h2 => ⟨fun hp => ?_, fun e => ?_⟩, if_pos (by omega)]
  · have h3 := (hP t (by omega)).mp hp
    exact (List.getElem?_inj (by omega) hn).mp (h3.trans (tpos_at h).symm)
  · exact (hP t (by omega)).mpr (e ▸ tpos_at h)
theorem tpos_no {l : List Tr} {x : Tr} (h : tpos l x = l.length) : ¬ x ∈ l := fun hm => by
  obtain ⟨k, hk, e⟩ := List.mem_iff_getElem.mp hm
  have h3 : fp (fun i => l[i]? = some x) 0 l.length ≤ k := fp_min (Nat.zero_le _) (by omega) (by show l[k]? = some x; rw [List.getElem?_eq_getElem hk, e])
  unfold tpos at h
  omega
theorem nI_un {a b : Nat} (ha : a < 2 ^ 31) (hb : b < 2 ^ 31) (h : nI a = nI b) : a = b := by
  have h1 : (nI a).toInt = (a : Int) := nI_toInt ha
  have h2 : (nI b).toInt = (b : Int) := nI_toInt hb
  rw [h] at h1
  omega
theorem mal_iff {M : Mm} {x y : Tr} {t : Nat} {a b c : Int64} (hy : mTr y M t) (hx3 : (rM x).length ≤ 3) (ha : a = (rM x)[0]?.getD 0) (hb : b = (rM x)[1]?.getD 0) (hc : c = (rM x)[2]?.getD 0) : mal M (rN x) (bI (rD x = true)) (rM x).length a b c t ↔ y = x := by
  obtain ⟨nx, dx, mx⟩ := x
  obtain ⟨ny, dy, my⟩ := y
  obtain ⟨h1, h2, h3, h4, h5⟩ := hy
  have hx3' : mx.length ≤ 3 := hx3
  have h5' : my.length ≤ 3 := h5
  have hg : LI (fun k => mx[k]?.getD 0) mx := fun k v hv => by dsimp only; rw [hv]; rfl
  have h9 := LI_eq h4 hg
  unfold mal
  rw [h1, h2, h3]
  constructor
  · rintro ⟨e1, e2, e3, e4, e5, e6⟩
    have e3' : my.length = mx.length := nI_un (by show my.length < _; omega) (by show mx.length < _; omega) e3
    have e9 : my = mx := h9.mp ⟨e3', fun k hk => by
      have hk' : k < my.length := hk
      rcases (show k = 0 ∨ k = 1 ∨ k = 2 by omega) with rfl | rfl | rfl
      · rcases e4 with e4 | e4
        · have : mx.length < 1 := e4
          omega
        · exact e4.trans ha
      · rcases e5 with e5 | e5
        · have : mx.length < 2 := e5
          omega
        · exact e5.trans hb
      · rcases e6 with e6 | e6
        · have : mx.length < 3 := e6
          omega
        · exact e6.trans hc⟩
    have e2' := bI_inj e2
    cases e1
    cases e9
    cases dx <;> cases dy <;> simp_all [rD]
  · intro e
    cases e
    have h8 := (h9.mpr rfl).2
    refine ⟨rfl, rfl, rfl, ?_, ?_, ?_⟩
    · by_cases h : mx.length < 1
      · exact Or.inl h
      · exact Or.inr ((h8 0 (by show 0 < mx.length; omega)).trans ha.symm)
    · by_cases h : mx.length < 2
      · exact Or.inl h
      · exact Or.inr ((h8 1 (by show 1 < mx.length; omega)).trans hb.symm)
    · by_cases h : mx.length < 3
      · exact Or.inl h
      · exact Or.inr ((h8 2 (by show 2 < mx.length; omega)).trans hc.symm)
theorem LI_ex {f : Nat → Int64} {l : List Int64} {e : Int64} (h : LI f l) : (∃ j, j < l.length ∧ f j = e) ↔ e ∈ l := by
  constructor
  · rintro ⟨j, hj, he⟩
    rw [h j _ (List.getElem?_eq_getElem hj)] at he
    exact he ▸ List.getElem_mem hj
  · intro hm
    obtain ⟨k, hk, e1⟩ := List.mem_iff_getElem.mp hm
    exact ⟨k, hk, by rw [h k _ (List.getElem?_eq_getElem hk)]; exact e1⟩
/-- what reading traits leaves -/
def onMT (s : RS) (k : Ky) (j : Nat) : Prop := k.1 ≠ 56 ∧ k.1 ≠ 58 ∧ (k.1 = 40 → j ≠ 3 ∧ j ≠ 22 ∧ j ≠ 26 ∧ j ≠ 36 ∧ j ≠ 37) ∧ (42 ≤ k.1 ∧ k.1 ≤ 44 → j < (pT s).length) ∧ (k.1 = 45 → j < 3 * (pT s).length)
theorem onMTA {s : RS} {k : Ky} {j : Nat} (z : onMT s k j) : onMA k j := ⟨z.1, fun e => ⟨(z.2.2.1 e).2.1, (z.2.2.1 e).2.2.2.1, (z.2.2.1 e).2.2.2.2⟩⟩
theorem onMDT {h : Nat} {s : RS} {k : Ky} {j : Nat} (z : onMD h s k j) : onMT s k j := by
  obtain ⟨a1, a2, a3, a4, a5, a6, a7, -⟩ := z
  exact ⟨a1, a3, fun e => ⟨(a4 e).2.1, (a4 e).2.2.2.1, (a4 e).2.2.2.2.2.1, (a4 e).2.2.2.2.2.2.2.1, (a4 e).2.2.2.2.2.2.2.2.1⟩, a6, a7⟩
theorem onMT_2 {s s1 : RS} (h : s1.2.2 = s.2.2) {k : Ky} {j : Nat} (z : onMT s k j) : onMT s1 k j := by
  have e : pT s1 = pT s := by unfold pT; rw [h]
  unfold onMT at z ⊢
  rw [e]; exact z
theorem RdM.aR {row : List Nat} {al : List Int64} {s : RS} {M : Mm} {t : Nat} (h : RdM row al s M) (hl : (pR s).length < (pL s).length) (ht : t < (pT s).length) : RdM row al (s.1, s.2.1, s.2.2.1, s.2.2.2.1 ++ [t], s.2.2.2.2) (ui (ui M (58, 0) (pR s).length (nI t)) (40, 0) 26 (nI ((pR s).length + 1))) := by
  have hS : EqF (fun k j => k.1 ≠ 58 ∧ (k.1 = 40 → j ≠ 26)) M (ui (ui M (58, 0) (pR s).length (nI t)) (40, 0) 26 (nI ((pR s).length + 1))) := (EqF.rf.ui (by simp)).ui (by simp)
  obtain ⟨⟨a1, a2, a3, a4⟩, hb, ⟨k1, k2, k3, k4, k5, k6, k7, k8, k9, k10, k11⟩, ⟨i1, i2, i3, i4, i5, i6, i7, i8⟩, hw⟩ := id h
  refine ⟨⟨(hS _ _ (by simp)).1.trans a1, (hS _ _ (by simp)).1.trans a2, (hS _ _ (by simp)).1.trans a3, a4.to fun k => (hS _ _ (by simp)).2⟩, hb, ⟨(hS _ _ (by simp)).1.trans k1, k2.to fun k => (hS _ _ (by simp)).1, ?_, ?_, (hS _ _ (by simp)).1.trans k5, k6.to fun k => (hS _ _ (by simp)).2, (hS _ _ (by simp)).1.trans k7, fun t x hx => (k8 t x hx).eqM hS (fun r h1 h2 => by simp; omega) (fun j _ => by simp), (hS _ _ (by simp)).1.trans k9, fun j x hx => (hS _ _ (by simp)).1.trans (k10 j x hx), k11⟩, ⟨i1, i2, i3, ?_, i5, i6, ?_, i8⟩, hw.eq hS (by simp) (by simp) (fun r h1 h2 j => by simp; omega)⟩
  · simp [ui, pR]
  · show LN _ (pR s ++ [t])
    exact k4.push (fun k hk => by have hne : k ≠ (pR s).length := Nat.ne_of_lt hk; simp [ui, hne]) (by simp [ui])
  · show (pR s ++ [t]).length ≤ (pL s).length
    simp; omega
  · intro t' ht'
    rcases List.mem_append.mp (show t' ∈ pR s ++ [t] from ht') with h9 | h9
    · exact i7 t' h9
    · rw [List.mem_singleton.mp h9]; exact ht
set_option maxHeartbeats 1000000 in
theorem RdM.aT {row : List Nat} {al : List Int64} {s : RS} {M : Mm} {x : Tr} {a b c : Int64} (h : RdM row al s M) (hl : (pT s).length < 12) (hok : trOK x) (hnx : ¬ x ∈ pT s) (ha : a = (rM x)[0]?.getD 0) (hb2 : b = (rM x)[1]?.getD 0) (hc : c = (rM x)[2]?.getD 0) : RdM row al (s.1, s.2.1, s.2.2.1, s.2.2.2.1, s.2.2.2.2.1, s.2.2.2.2.2.1 ++ [x], s.2.2.2.2.2.2) (ui (ul (ul (ul (ui (ui (ul M (42, 0) (pT s).length (rN x)) (43, 0) (pT s).length (bI (rD x = true))) (44, 0) (pT s).length (nI (rM x).length)) (45, 0) (3 * (pT s).length) a) (45, 0) (3 * (pT s).length + 1) b) (45, 0) (3 * (pT s).length + 2) c) (40, 0) 3 (nI ((pT s).length + 1))) := by
  have hS : EqF (fun k j => (k.1 = 40 → j ≠ 3) ∧ (42 ≤ k.1 ∧ k.1 ≤ 44 → j ≠ (pT s).length) ∧ (k.1 = 45 → j < 3 * (pT s).length)) M (ui (ul (ul (ul (ui (ui (ul M (42, 0) (pT s).length (rN x)) (43, 0) (pT s).length (bI (rD x = true))) (44, 0) (pT s).length (nI (rM x).length)) (45, 0) (3 * (pT s).length) a) (45, 0) (3 * (pT s).length + 1) b) (45, 0) (3 * (pT s).length + 2) c) (40, 0) 3 (nI ((pT s).length + 1))) := ((((((EqF.rf.ul (by simp)).ui (by simp)).ui (by simp)).ul (by simp)).ul (by simp)).ul (by simp)).ui (by simp)
  obtain ⟨⟨a1, a2, a3, a4⟩, hb, ⟨k1, k2, k3, k4, k5, k6, k7, k8, k9, k10, k11⟩, ⟨i1, i2, i3, i4, i5, i6, i7, i8, i9⟩, hw⟩ := id h
  refine ⟨⟨(hS _ _ (by simp)).1.trans a1, (hS _ _ (by simp)).1.trans a2, (hS _ _ (by simp)).1.trans a3, a4.to fun k => (hS _ _ (by simp)).2⟩, hb, ⟨(hS _ _ (by simp)).1.trans k1, k2.to fun k => (hS _ _ (by simp)).1, (hS _ _ (by simp)).1.trans k3, k4.to fun k => (hS _ _ (by simp)).1, (hS _ _ (by simp)).1.trans k5, k6.to fun k => (hS _ _ (by simp)).2, ?_, fun t y hy => ?_, (hS _ _ (by simp)).1.trans k9, fun j x hx => (hS _ _ (by simp)).1.trans (k10 j x hx), ?_⟩, ⟨i1, ?_, i3, i4, i5, i6, fun t ht => ?_, i8, fun y hy => ?_⟩, hw.eq hS (by simp) (by simp) (fun r h1 h2 j => by simp; omega)⟩
  · simp [ui, pT]
  · have hy2 : (pT s ++ [x])[t]? = some y := hy
    rcases Nat.lt_trichotomy t (pT s).length with q | q | q
    · rw [List.getElem?_append_left q] at hy2
      exact (k8 t y hy2).eqM hS (fun r h1 h2 => by simp; omega) (fun j hj => by simp; omega)
    · rw [q, List.getElem?_append_right (Nat.le_refl _), Nat.sub_self] at hy2
      cases hy2
      rw [q]
      refine ⟨by simp [ui, ul], by simp [ui, ul], by simp [ui, ul], fun k v hv => ?_, hok.2.1⟩
      have hk := at_lt hv
      have h3 := hok.2.1
      rcases (show k = 0 ∨ k = 1 ∨ k = 2 by omega) with rfl | rfl | rfl
      · rw [hv] at ha; simp [ui, ul]; exact ha
      · rw [hv] at hb2; simp [ui, ul]; exact hb2
      · rw [hv] at hc; simp [ui, ul]; exact hc
    · rw [List.getElem?_append_right (by omega), List.getElem?_eq_none (by simp; omega)] at hy2
      cases hy2
  · show (pT s ++ [x]).Nodup
    rw [List.nodup_append]
    exact ⟨k11, by simp, fun y hy z hz e => by simp at hz; rw [hz] at e; exact hnx (e ▸ hy)⟩
  · show (pT s ++ [x]).length ≤ 12
    simp; omega
  · show t < (pT s ++ [x]).length
    have := i7 t ht
    simp; omega
  · rcases List.mem_append.mp (show y ∈ pT s ++ [x] from hy) with h9 | h9
    · exact i9 y h9
    · rw [List.mem_singleton.mp h9]; exact hok
theorem RL_2 {s s1 : RS} (h : s1.2.2 = s.2.2) (hRL : (pR s).length < (pL s).length) : (pR s1).length < (pL s1).length := by
  unfold pR pL at *; rw [h]; exact hRL
theorem nd_push {l : List Int64} {b : Int64} (h : l.Nodup) (hb : ¬ b ∈ l) : (l ++ [b]).Nodup := by
  rw [List.nodup_append]
  exact ⟨h, by simp, fun y hy z hz e => by rw [List.mem_singleton.mp hz] at e; exact hb (e ▸ hy)⟩
theorem all_push {l : List Int64} {b : Int64} {P : Int64 → Prop} (h : ∀ e ∈ l, P e) (hb : P b) : ∀ e ∈ l ++ [b], P e := fun e he => by
  rcases List.mem_append.mp he with h8 | h8
  · exact h e h8
  · rw [List.mem_singleton.mp h8]; exact hb
section N2
variable {G : Gd} {d : Nat} {M : Mm}
set_option maxHeartbeats 4000000 in
theorem l_tfN (hG : Gok G) (hd : 4 ≤ d) {row : List Nat} {al : List Int64} {nn np m jj : Nat} {nm a b c : Int64} {acc : List Int64} {s9 s0 : RS} {M9 : Mm} (hnn : nn < 536870912) (hm : m = acc.length) (hw0 : RdM row al s0 M) (hRL : (pR s0).length < (pL s0).length) (hS0 : EqF (onMT s9) M9 M) (h9 : s0.2.2 = s9.2.2) (hok : trOK (nm, decide (nn / 8 % 2 = 1), acc)) (ha : a = acc[0]?.getD 0) (hb : b = acc[1]?.getD 0) (hc : c = acc[2]?.getD 0) (hnp : np ≤ 600) (hpos : tpos (pT s0) (nm, decide (nn / 8 % 2 = 1), acc) = (pT s0).length) (h12 : ¬ (pT s0).length = 12) : FQ G mX9_takeTraits d M9 (onMT s9) (fun _ => RdM row al) vInt (keepT np (nm, decide (nn / 8 % 2 = 1), acc) s0) 183 [(0, .ref (ga G (40, 0))), (1, .int (nI nn)), (2, .int (nI np)), (4, .long (nm)), (6, .int (nI m)), (7, .long (a)), (9, .long (b)), (11, .long (c)), (13, .int (nI jj))] [] M := by
  have hm3 : acc.length ≤ 3 := hok.2.1
  obtain ⟨i1, i2, i3, i4, i5, i6, i7, i8, i9⟩ := id hw0.2.2.2.1
  have hpT : (pT s9).length = (pT s0).length := by unfold pT; rw [h9]
  have hL6 := hw0.2.2.2.2.2.2.1
  have hP : ∀ t, t < (pT s0).length → (mal M nm (bI (decide (nn / 8 % 2 = 1) = true)) m a b c t ↔ (pT s0)[t]? = some ((nm, decide (nn / 8 % 2 = 1), acc) : Tr)) := fun t ht => by
    rw [List.getElem?_eq_getElem ht, hm]
    exact (mal_iff (x := (nm, decide (nn / 8 % 2 = 1), acc)) (hw0.2.2.1.2.2.2.2.2.2.2.1 t _ (List.getElem?_eq_getElem ht)) hm3 ha hb hc).trans ⟨fun e => by rw [e], fun e => Option.some.inj e⟩
  refine x_aload_n rfl rfl rfl ?_
  refine x_callVi (d2 := 0) (c_mgoesT hG hw0.1.2.1) rfl rfl v_9_238 rfl rfl (by decide) rfl rfl (Nat.le_of_ble_eq_true rfl) (by omega) (by omega) ?_
  refine x_if_ne rfl rfl (fun _ => ?_) (fun hc1 => absurd hc1 (by decide +kernel))
  refine x_iload_n rfl rfl rfl ?_
  refine x_bipush (v := nI 8) rfl rfl (by decide +kernel) ?_
  refine x_idivN (a := nn) (b := 8) (by omega) (by omega) (by omega) rfl rfl ?_
  refine x_iconstN (b := 2) rfl rfl ?_
  refine x_iremN (a := nn / 8) (b := 2) (by omega) (by omega) (by omega) rfl rfl ?_
  refine x_iconstN (b := 1) rfl rfl ?_
  refine x_icmpN_ne (by omega) (by omega) rfl rfl (fun hc2 => ?_) (fun hc2 => ?_)
  · refine x_iconstN (b := 0) rfl rfl ?_
    refine x_topI (v := bI (decide (nn / 8 % 2 = 1) = true)) (bI_f (fun z => absurd (of_decide_eq_true z) (by omega))).symm ?_
    refine x_istore rfl rfl rfl rfl ?_
    refine x_aload_n rfl rfl rfl ?_
    refine x_lload rfl rfl rfl ?_
    refine x_iload rfl rfl rfl ?_
    refine x_iload rfl rfl rfl ?_
    refine x_lload rfl rfl rfl ?_
    refine x_lload rfl rfl rfl ?_
    refine x_lload rfl rfl rfl ?_
    refine x_callVi (d2 := 0) (c_malike hG nm (decide (nn / 8 % 2 = 1) = true) (m := m) (by omega) a b c hw0.2.2.1.2.2.2.2.2.2.1 (by omega)) rfl rfl v_9_145 rfl rfl (by decide) rfl rfl (Nat.le_of_ble_eq_true rfl) (by omega) (by omega) ?_
    refine x_topI (v := -1) (by rw [lx_no hP hpos] <;> rfl) ?_
    refine x_istore rfl rfl rfl rfl ?_
    refine x_iload rfl rfl rfl ?_
    refine x_iconst (v := -1) rfl rfl (by decide +kernel) ?_
    refine x_icmp_ne rfl rfl (fun hc3 => absurd rfl hc3) (fun hc3 => ?_)
    refine x_aload_n rfl rfl rfl ?_
    refine x_getIv (v := nI ((pT s0).length)) hw0.2.2.1.2.2.2.2.2.2.1 rfl rfl f_9_142 rfl (by decide) rfl ?_
    refine x_bipush (v := nI 12) rfl rfl (by decide +kernel) ?_
    refine x_icmpN_ne (by omega) (by omega) rfl rfl (fun hc4 => ?_) (fun hc4 => absurd hc4 (by omega))
    refine x_iload rfl rfl rfl ?_
    refine x_iconst (v := -1) rfl rfl (by decide +kernel) ?_
    refine x_icmp_ne rfl rfl (fun hc5 => absurd rfl hc5) (fun hc5 => ?_)
    refine x_aload_n rfl rfl rfl ?_
    refine x_lload rfl rfl rfl ?_
    refine x_iload rfl rfl rfl ?_
    refine x_iload rfl rfl rfl ?_
    refine x_lload rfl rfl rfl ?_
    refine x_lload rfl rfl rfl ?_
    refine x_lload rfl rfl rfl ?_
    refine x_callVi (d2 := 0) (c_mnewTraits hG nm (decide (nn / 8 % 2 = 1) = true) m a b c hw0.2.2.1.2.2.2.2.2.2.1 (by omega)) rfl rfl v_9_149 rfl rfl (by decide) rfl rfl (Nat.le_of_ble_eq_true rfl) (by omega) (by omega) ?_
    refine x_goto rfl rfl ?_
    refine x_istore rfl rfl rfl rfl ?_
    refine x_aload_n rfl rfl rfl ?_
    refine x_getR0 rfl rfl f_9_63 rfl (by decide) rfl rfl ?_
    refine x_aload_n rfl rfl rfl ?_
    refine x_getIv (v := nI ((pR s0).length)) (by first | exact hw0.2.2.1.2.2.1 | (rw [← hw0.2.2.1.2.2.1]; rfl) | simp [ui, ul, hw0.2.2.1.2.2.1]) rfl rfl f_9_220 rfl (by decide) rfl ?_
    refine x_iload rfl rfl rfl ?_
    refine x_iast (a := (pR s0).length) rfl rfl rfl (by decide) (by omega) (by decide) ?_
    refine x_aload_n rfl rfl rfl ?_
    refine x_dup rfl rfl rfl ?_
    refine x_getIv (v := nI ((pR s0).length)) (by first | exact hw0.2.2.1.2.2.1 | (rw [← hw0.2.2.1.2.2.1]; rfl) | simp [ui, ul, hw0.2.2.1.2.2.1]) rfl rfl f_9_220 rfl (by decide) rfl ?_
    refine x_iconstN (b := 1) rfl rfl ?_
    refine x_iaddN (a := (pR s0).length) (b := 1) rfl rfl ?_
    refine x_putI rfl rfl f_9_220 rfl rfl (by decide) rfl ?_
    refine x_iload rfl rfl rfl ?_
    exact q_retI (by unfold keepT; rw [if_neg (by omega), if_pos hpos]) (((((((((hS0.ul (by first | (unfold onMT; simp; done) | (unfold onMT; simp; omega))).ui (by first | (unfold onMT; simp; done) | (unfold onMT; simp; omega))).ui (by first | (unfold onMT; simp; done) | (unfold onMT; simp; omega))).ul (by first | (unfold onMT; simp; done) | (unfold onMT; simp; omega))).ul (by first | (unfold onMT; simp; done) | (unfold onMT; simp; omega))).ul (by first | (unfold onMT; simp; done) | (unfold onMT; simp; omega))).ui (by first | (unfold onMT; simp; done) | (unfold onMT; simp; omega))).ui (by first | (unfold onMT; simp; done) | (unfold onMT; simp; omega))).ui (by first | (unfold onMT; simp; done) | (unfold onMT; simp; omega))) (by have z := (hw0.aT (x := (nm, decide (nn / 8 % 2 = 1), acc)) (by omega) hok (tpos_no hpos) ha hb hc).aR (t := (pT s0).length) hRL (by show _ < (pT s0 ++ [_]).length; simp); rw [hm]; exact z) rfl rfl rfl
  · refine x_iconstN (b := 1) rfl rfl ?_
    refine x_goto rfl rfl ?_
    refine x_topI (v := bI (decide (nn / 8 % 2 = 1) = true)) (bI_t (decide_eq_true (by omega))).symm ?_
    refine x_istore rfl rfl rfl rfl ?_
    refine x_aload_n rfl rfl rfl ?_
    refine x_lload rfl rfl rfl ?_
    refine x_iload rfl rfl rfl ?_
    refine x_iload rfl rfl rfl ?_
    refine x_lload rfl rfl rfl ?_
    refine x_lload rfl rfl rfl ?_
    refine x_lload rfl rfl rfl ?_
    refine x_callVi (d2 := 0) (c_malike hG nm (decide (nn / 8 % 2 = 1) = true) (m := m) (by omega) a b c hw0.2.2.1.2.2.2.2.2.2.1 (by omega)) rfl rfl v_9_145 rfl rfl (by decide) rfl rfl (Nat.le_of_ble_eq_true rfl) (by omega) (by omega) ?_
    refine x_topI (v := -1) (by rw [lx_no hP hpos] <;> rfl) ?_
    refine x_istore rfl rfl rfl rfl ?_
    refine x_iload rfl rfl rfl ?_
    refine x_iconst (v := -1) rfl rfl (by decide +kernel) ?_
    refine x_icmp_ne rfl rfl (fun hc6 => absurd rfl hc6) (fun hc6 => ?_)
    refine x_aload_n rfl rfl rfl ?_
    refine x_getIv (v := nI ((pT s0).length)) hw0.2.2.1.2.2.2.2.2.2.1 rfl rfl f_9_142 rfl (by decide) rfl ?_
    refine x_bipush (v := nI 12) rfl rfl (by decide +kernel) ?_
    refine x_icmpN_ne (by omega) (by omega) rfl rfl (fun hc7 => ?_) (fun hc7 => absurd hc7 (by omega))
    refine x_iload rfl rfl rfl ?_
    refine x_iconst (v := -1) rfl rfl (by decide +kernel) ?_
    refine x_icmp_ne rfl rfl (fun hc8 => absurd rfl hc8) (fun hc8 => ?_)
    refine x_aload_n rfl rfl rfl ?_
    refine x_lload rfl rfl rfl ?_
    refine x_iload rfl rfl rfl ?_
    refine x_iload rfl rfl rfl ?_
    refine x_lload rfl rfl rfl ?_
    refine x_lload rfl rfl rfl ?_
    refine x_lload rfl rfl rfl ?_
    refine x_callVi (d2 := 0) (c_mnewTraits hG nm (decide (nn / 8 % 2 = 1) = true) m a b c hw0.2.2.1.2.2.2.2.2.2.1 (by omega)) rfl rfl v_9_149 rfl rfl (by decide) rfl rfl (Nat.le_of_ble_eq_true rfl) (by omega) (by omega) ?_
    refine x_goto rfl rfl ?_
    refine x_istore rfl rfl rfl rfl ?_
    refine x_aload_n rfl rfl rfl ?_
    refine x_getR0 rfl rfl f_9_63 rfl (by decide) rfl rfl ?_
    refine x_aload_n rfl rfl rfl ?_
    refine x_getIv (v := nI ((pR s0).length)) (by first | exact hw0.2.2.1.2.2.1 | (rw [← hw0.2.2.1.2.2.1]; rfl) | simp [ui, ul, hw0.2.2.1.2.2.1]) rfl rfl f_9_220 rfl (by decide) rfl ?_
    refine x_iload rfl rfl rfl ?_
    refine x_iast (a := (pR s0).length) rfl rfl rfl (by decide) (by omega) (by decide) ?_
    refine x_aload_n rfl rfl rfl ?_
    refine x_dup rfl rfl rfl ?_
    refine x_getIv (v := nI ((pR s0).length)) (by first | exact hw0.2.2.1.2.2.1 | (rw [← hw0.2.2.1.2.2.1]; rfl) | simp [ui, ul, hw0.2.2.1.2.2.1]) rfl rfl f_9_220 rfl (by decide) rfl ?_
    refine x_iconstN (b := 1) rfl rfl ?_
    refine x_iaddN (a := (pR s0).length) (b := 1) rfl rfl ?_
    refine x_putI rfl rfl f_9_220 rfl rfl (by decide) rfl ?_
    refine x_iload rfl rfl rfl ?_
    exact q_retI (by unfold keepT; rw [if_neg (by omega), if_pos hpos]) (((((((((hS0.ul (by first | (unfold onMT; simp; done) | (unfold onMT; simp; omega))).ui (by first | (unfold onMT; simp; done) | (unfold onMT; simp; omega))).ui (by first | (unfold onMT; simp; done) | (unfold onMT; simp; omega))).ul (by first | (unfold onMT; simp; done) | (unfold onMT; simp; omega))).ul (by first | (unfold onMT; simp; done) | (unfold onMT; simp; omega))).ul (by first | (unfold onMT; simp; done) | (unfold onMT; simp; omega))).ui (by first | (unfold onMT; simp; done) | (unfold onMT; simp; omega))).ui (by first | (unfold onMT; simp; done) | (unfold onMT; simp; omega))).ui (by first | (unfold onMT; simp; done) | (unfold onMT; simp; omega))) (by have z := (hw0.aT (x := (nm, decide (nn / 8 % 2 = 1), acc)) (by omega) hok (tpos_no hpos) ha hb hc).aR (t := (pT s0).length) hRL (by show _ < (pT s0 ++ [_]).length; simp); rw [hm]; exact z) rfl rfl rfl
set_option maxHeartbeats 4000000 in
theorem l_tfX (hG : Gok G) (hd : 4 ≤ d) {row : List Nat} {al : List Int64} {nn np m jj : Nat} {nm a b c : Int64} {acc : List Int64} {s9 s0 : RS} {M9 : Mm} (hnn : nn < 536870912) (hm : m = acc.length) (hw0 : RdM row al s0 M) (hRL : (pR s0).length < (pL s0).length) (hS0 : EqF (onMT s9) M9 M) (h9 : s0.2.2 = s9.2.2) (hok : trOK (nm, decide (nn / 8 % 2 = 1), acc)) (ha : a = acc[0]?.getD 0) (hb : b = acc[1]?.getD 0) (hc : c = acc[2]?.getD 0) (hnp : np ≤ 600) (hpos : tpos (pT s0) (nm, decide (nn / 8 % 2 = 1), acc) = (pT s0).length) (h12 : (pT s0).length = 12) : FQ G mX9_takeTraits d M9 (onMT s9) (fun _ => RdM row al) vInt (keepT np (nm, decide (nn / 8 % 2 = 1), acc) s0) 183 [(0, .ref (ga G (40, 0))), (1, .int (nI nn)), (2, .int (nI np)), (4, .long (nm)), (6, .int (nI m)), (7, .long (a)), (9, .long (b)), (11, .long (c)), (13, .int (nI jj))] [] M := by
  have hm3 : acc.length ≤ 3 := hok.2.1
  obtain ⟨i1, i2, i3, i4, i5, i6, i7, i8, i9⟩ := id hw0.2.2.2.1
  have hpT : (pT s9).length = (pT s0).length := by unfold pT; rw [h9]
  have hL6 := hw0.2.2.2.2.2.2.1
  have hP : ∀ t, t < (pT s0).length → (mal M nm (bI (decide (nn / 8 % 2 = 1) = true)) m a b c t ↔ (pT s0)[t]? = some ((nm, decide (nn / 8 % 2 = 1), acc) : Tr)) := fun t ht => by
    rw [List.getElem?_eq_getElem ht, hm]
    exact (mal_iff (x := (nm, decide (nn / 8 % 2 = 1), acc)) (hw0.2.2.1.2.2.2.2.2.2.2.1 t _ (List.getElem?_eq_getElem ht)) hm3 ha hb hc).trans ⟨fun e => by rw [e], fun e => Option.some.inj e⟩
  refine x_aload_n rfl rfl rfl ?_
  refine x_callVi (d2 := 0) (c_mgoesT hG hw0.1.2.1) rfl rfl v_9_238 rfl rfl (by decide) rfl rfl (Nat.le_of_ble_eq_true rfl) (by omega) (by omega) ?_
  refine x_if_ne rfl rfl (fun _ => ?_) (fun hc1 => absurd hc1 (by decide +kernel))
  refine x_iload_n rfl rfl rfl ?_
  refine x_bipush (v := nI 8) rfl rfl (by decide +kernel) ?_
  refine x_idivN (a := nn) (b := 8) (by omega) (by omega) (by omega) rfl rfl ?_
  refine x_iconstN (b := 2) rfl rfl ?_
  refine x_iremN (a := nn / 8) (b := 2) (by omega) (by omega) (by omega) rfl rfl ?_
  refine x_iconstN (b := 1) rfl rfl ?_
  refine x_icmpN_ne (by omega) (by omega) rfl rfl (fun hc2 => ?_) (fun hc2 => ?_)
  · refine x_iconstN (b := 0) rfl rfl ?_
    refine x_topI (v := bI (decide (nn / 8 % 2 = 1) = true)) (bI_f (fun z => absurd (of_decide_eq_true z) (by omega))).symm ?_
    refine x_istore rfl rfl rfl rfl ?_
    refine x_aload_n rfl rfl rfl ?_
    refine x_lload rfl rfl rfl ?_
    refine x_iload rfl rfl rfl ?_
    refine x_iload rfl rfl rfl ?_
    refine x_lload rfl rfl rfl ?_
    refine x_lload rfl rfl rfl ?_
    refine x_lload rfl rfl rfl ?_
    refine x_callVi (d2 := 0) (c_malike hG nm (decide (nn / 8 % 2 = 1) = true) (m := m) (by omega) a b c hw0.2.2.1.2.2.2.2.2.2.1 (by omega)) rfl rfl v_9_145 rfl rfl (by decide) rfl rfl (Nat.le_of_ble_eq_true rfl) (by omega) (by omega) ?_
    refine x_topI (v := -1) (by rw [lx_no hP hpos] <;> rfl) ?_
    refine x_istore rfl rfl rfl rfl ?_
    refine x_iload rfl rfl rfl ?_
    refine x_iconst (v := -1) rfl rfl (by decide +kernel) ?_
    refine x_icmp_ne rfl rfl (fun hc3 => absurd rfl hc3) (fun hc3 => ?_)
    refine x_aload_n rfl rfl rfl ?_
    refine x_getIv (v := nI ((pT s0).length)) hw0.2.2.1.2.2.2.2.2.2.1 rfl rfl f_9_142 rfl (by decide) rfl ?_
    refine x_bipush (v := nI 12) rfl rfl (by decide +kernel) ?_
    refine x_icmpN_ne (by omega) (by omega) rfl rfl (fun hc4 => absurd hc4 (by omega)) (fun hc4 => ?_)
    refine x_aload_n rfl rfl rfl ?_
    refine x_iload_n rfl rfl rfl ?_
    refine x_callVv (d2 := 0) (c_mstopT hG (nI np) hw0.1.2.1) rfl rfl v_9_245 rfl rfl (by decide) rfl rfl (Nat.le_of_ble_eq_true rfl) (by omega) (by omega) ?_
    refine x_iconst (v := -1) rfl rfl (by decide +kernel) ?_
    exact q_flI (f := np) (by unfold keepT; rw [if_pos (hpos.trans h12)]) (hS0.ui (by first | (unfold onMT; simp; done) | (unfold onMT; simp; omega))) (by first | rfl | simp [ui, ul]) (by omega) rfl rfl rfl
  · refine x_iconstN (b := 1) rfl rfl ?_
    refine x_goto rfl rfl ?_
    refine x_topI (v := bI (decide (nn / 8 % 2 = 1) = true)) (bI_t (decide_eq_true (by omega))).symm ?_
    refine x_istore rfl rfl rfl rfl ?_
    refine x_aload_n rfl rfl rfl ?_
    refine x_lload rfl rfl rfl ?_
    refine x_iload rfl rfl rfl ?_
    refine x_iload rfl rfl rfl ?_
    refine x_lload rfl rfl rfl ?_
    refine x_lload rfl rfl rfl ?_
    refine x_lload rfl rfl rfl ?_
    refine x_callVi (d2 := 0) (c_malike hG nm (decide (nn / 8 % 2 = 1) = true) (m := m) (by omega) a b c hw0.2.2.1.2.2.2.2.2.2.1 (by omega)) rfl rfl v_9_145 rfl rfl (by decide) rfl rfl (Nat.le_of_ble_eq_true rfl) (by omega) (by omega) ?_
    refine x_topI (v := -1) (by rw [lx_no hP hpos] <;> rfl) ?_
    refine x_istore rfl rfl rfl rfl ?_
    refine x_iload rfl rfl rfl ?_
    refine x_iconst (v := -1) rfl rfl (by decide +kernel) ?_
    refine x_icmp_ne rfl rfl (fun hc5 => absurd rfl hc5) (fun hc5 => ?_)
    refine x_aload_n rfl rfl rfl ?_
    refine x_getIv (v := nI ((pT s0).length)) hw0.2.2.1.2.2.2.2.2.2.1 rfl rfl f_9_142 rfl (by decide) rfl ?_
    refine x_bipush (v := nI 12) rfl rfl (by decide +kernel) ?_
    refine x_icmpN_ne (by omega) (by omega) rfl rfl (fun hc6 => absurd hc6 (by omega)) (fun hc6 => ?_)
    refine x_aload_n rfl rfl rfl ?_
    refine x_iload_n rfl rfl rfl ?_
    refine x_callVv (d2 := 0) (c_mstopT hG (nI np) hw0.1.2.1) rfl rfl v_9_245 rfl rfl (by decide) rfl rfl (Nat.le_of_ble_eq_true rfl) (by omega) (by omega) ?_
    refine x_iconst (v := -1) rfl rfl (by decide +kernel) ?_
    exact q_flI (f := np) (by unfold keepT; rw [if_pos (hpos.trans h12)]) (hS0.ui (by first | (unfold onMT; simp; done) | (unfold onMT; simp; omega))) (by first | rfl | simp [ui, ul]) (by omega) rfl rfl rfl
set_option maxHeartbeats 4000000 in
theorem l_tfO (hG : Gok G) (hd : 4 ≤ d) {row : List Nat} {al : List Int64} {nn np m jj : Nat} {nm a b c : Int64} {acc : List Int64} {s9 s0 : RS} {M9 : Mm} (hnn : nn < 536870912) (hm : m = acc.length) (hw0 : RdM row al s0 M) (hRL : (pR s0).length < (pL s0).length) (hS0 : EqF (onMT s9) M9 M) (h9 : s0.2.2 = s9.2.2) (hok : trOK (nm, decide (nn / 8 % 2 = 1), acc)) (ha : a = acc[0]?.getD 0) (hb : b = acc[1]?.getD 0) (hc : c = acc[2]?.getD 0) (hnp : np ≤ 600) (hpos : tpos (pT s0) (nm, decide (nn / 8 % 2 = 1), acc) < (pT s0).length) : FQ G mX9_takeTraits d M9 (onMT s9) (fun _ => RdM row al) vInt (keepT np (nm, decide (nn / 8 % 2 = 1), acc) s0) 183 [(0, .ref (ga G (40, 0))), (1, .int (nI nn)), (2, .int (nI np)), (4, .long (nm)), (6, .int (nI m)), (7, .long (a)), (9, .long (b)), (11, .long (c)), (13, .int (nI jj))] [] M := by
  have hm3 : acc.length ≤ 3 := hok.2.1
  obtain ⟨i1, i2, i3, i4, i5, i6, i7, i8, i9⟩ := id hw0.2.2.2.1
  have hpT : (pT s9).length = (pT s0).length := by unfold pT; rw [h9]
  have hL6 := hw0.2.2.2.2.2.2.1
  have hP : ∀ t, t < (pT s0).length → (mal M nm (bI (decide (nn / 8 % 2 = 1) = true)) m a b c t ↔ (pT s0)[t]? = some ((nm, decide (nn / 8 % 2 = 1), acc) : Tr)) := fun t ht => by
    rw [List.getElem?_eq_getElem ht, hm]
    exact (mal_iff (x := (nm, decide (nn / 8 % 2 = 1), acc)) (hw0.2.2.1.2.2.2.2.2.2.2.1 t _ (List.getElem?_eq_getElem ht)) hm3 ha hb hc).trans ⟨fun e => by rw [e], fun e => Option.some.inj e⟩
  refine x_aload_n rfl rfl rfl ?_
  refine x_callVi (d2 := 0) (c_mgoesT hG hw0.1.2.1) rfl rfl v_9_238 rfl rfl (by decide) rfl rfl (Nat.le_of_ble_eq_true rfl) (by omega) (by omega) ?_
  refine x_if_ne rfl rfl (fun _ => ?_) (fun hc1 => absurd hc1 (by decide +kernel))
  refine x_iload_n rfl rfl rfl ?_
  refine x_bipush (v := nI 8) rfl rfl (by decide +kernel) ?_
  refine x_idivN (a := nn) (b := 8) (by omega) (by omega) (by omega) rfl rfl ?_
  refine x_iconstN (b := 2) rfl rfl ?_
  refine x_iremN (a := nn / 8) (b := 2) (by omega) (by omega) (by omega) rfl rfl ?_
  refine x_iconstN (b := 1) rfl rfl ?_
  refine x_icmpN_ne (by omega) (by omega) rfl rfl (fun hc2 => ?_) (fun hc2 => ?_)
  · refine x_iconstN (b := 0) rfl rfl ?_
    refine x_topI (v := bI (decide (nn / 8 % 2 = 1) = true)) (bI_f (fun z => absurd (of_decide_eq_true z) (by omega))).symm ?_
    refine x_istore rfl rfl rfl rfl ?_
    refine x_aload_n rfl rfl rfl ?_
    refine x_lload rfl rfl rfl ?_
    refine x_iload rfl rfl rfl ?_
    refine x_iload rfl rfl rfl ?_
    refine x_lload rfl rfl rfl ?_
    refine x_lload rfl rfl rfl ?_
    refine x_lload rfl rfl rfl ?_
    refine x_callVi (d2 := 0) (c_malike hG nm (decide (nn / 8 % 2 = 1) = true) (m := m) (by omega) a b c hw0.2.2.1.2.2.2.2.2.2.1 (by omega)) rfl rfl v_9_145 rfl rfl (by decide) rfl rfl (Nat.le_of_ble_eq_true rfl) (by omega) (by omega) ?_
    refine x_topI (v := nI (tpos (pT s0) (nm, decide (nn / 8 % 2 = 1), acc))) (by rw [lx_at hw0.2.2.1.2.2.2.2.2.2.2.2.2.2 hP hpos] <;> rfl) ?_
    refine x_istore rfl rfl rfl rfl ?_
    refine x_iload rfl rfl rfl ?_
    refine x_iconst (v := -1) rfl rfl (by decide +kernel) ?_
    refine x_icmp_ne rfl rfl (fun hc3 => ?_) (fun hc3 => absurd hc3 (nI_ne1 (by omega)))
    refine x_iload rfl rfl rfl ?_
    refine x_iconst (v := -1) rfl rfl (by decide +kernel) ?_
    refine x_icmp_ne rfl rfl (fun hc4 => ?_) (fun hc4 => absurd hc4 (nI_ne1 (by omega)))
    refine x_iload rfl rfl rfl ?_
    refine x_istore rfl rfl rfl rfl ?_
    refine x_aload_n rfl rfl rfl ?_
    refine x_getR0 rfl rfl f_9_63 rfl (by decide) rfl rfl ?_
    refine x_aload_n rfl rfl rfl ?_
    refine x_getIv (v := nI ((pR s0).length)) hw0.2.2.1.2.2.1 rfl rfl f_9_220 rfl (by decide) rfl ?_
    refine x_iload rfl rfl rfl ?_
    refine x_iast (a := (pR s0).length) rfl rfl rfl (by decide) (by omega) (by decide) ?_
    refine x_aload_n rfl rfl rfl ?_
    refine x_dup rfl rfl rfl ?_
    refine x_getIv (v := nI ((pR s0).length)) (by first | exact hw0.2.2.1.2.2.1 | (rw [← hw0.2.2.1.2.2.1]; rfl) | simp [ui, ul, hw0.2.2.1.2.2.1]) rfl rfl f_9_220 rfl (by decide) rfl ?_
    refine x_iconstN (b := 1) rfl rfl ?_
    refine x_iaddN (a := (pR s0).length) (b := 1) rfl rfl ?_
    refine x_putI rfl rfl f_9_220 rfl rfl (by decide) rfl ?_
    refine x_iload rfl rfl rfl ?_
    exact q_retI (by unfold keepT; rw [if_neg (by omega), if_neg (by omega)]) ((hS0.ui (by unfold onMT; simp)).ui (by unfold onMT; simp)) (hw0.aR hRL hpos) rfl rfl rfl
  · refine x_iconstN (b := 1) rfl rfl ?_
    refine x_goto rfl rfl ?_
    refine x_topI (v := bI (decide (nn / 8 % 2 = 1) = true)) (bI_t (decide_eq_true (by omega))).symm ?_
    refine x_istore rfl rfl rfl rfl ?_
    refine x_aload_n rfl rfl rfl ?_
    refine x_lload rfl rfl rfl ?_
    refine x_iload rfl rfl rfl ?_
    refine x_iload rfl rfl rfl ?_
    refine x_lload rfl rfl rfl ?_
    refine x_lload rfl rfl rfl ?_
    refine x_lload rfl rfl rfl ?_
    refine x_callVi (d2 := 0) (c_malike hG nm (decide (nn / 8 % 2 = 1) = true) (m := m) (by omega) a b c hw0.2.2.1.2.2.2.2.2.2.1 (by omega)) rfl rfl v_9_145 rfl rfl (by decide) rfl rfl (Nat.le_of_ble_eq_true rfl) (by omega) (by omega) ?_
    refine x_topI (v := nI (tpos (pT s0) (nm, decide (nn / 8 % 2 = 1), acc))) (by rw [lx_at hw0.2.2.1.2.2.2.2.2.2.2.2.2.2 hP hpos] <;> rfl) ?_
    refine x_istore rfl rfl rfl rfl ?_
    refine x_iload rfl rfl rfl ?_
    refine x_iconst (v := -1) rfl rfl (by decide +kernel) ?_
    refine x_icmp_ne rfl rfl (fun hc5 => ?_) (fun hc5 => absurd hc5 (nI_ne1 (by omega)))
    refine x_iload rfl rfl rfl ?_
    refine x_iconst (v := -1) rfl rfl (by decide +kernel) ?_
    refine x_icmp_ne rfl rfl (fun hc6 => ?_) (fun hc6 => absurd hc6 (nI_ne1 (by omega)))
    refine x_iload rfl rfl rfl ?_
    refine x_istore rfl rfl rfl rfl ?_
    refine x_aload_n rfl rfl rfl ?_
    refine x_getR0 rfl rfl f_9_63 rfl (by decide) rfl rfl ?_
    refine x_aload_n rfl rfl rfl ?_
    refine x_getIv (v := nI ((pR s0).length)) hw0.2.2.1.2.2.1 rfl rfl f_9_220 rfl (by decide) rfl ?_
    refine x_iload rfl rfl rfl ?_
    refine x_iast (a := (pR s0).length) rfl rfl rfl (by decide) (by omega) (by decide) ?_
    refine x_aload_n rfl rfl rfl ?_
    refine x_dup rfl rfl rfl ?_
    refine x_getIv (v := nI ((pR s0).length)) (by first | exact hw0.2.2.1.2.2.1 | (rw [← hw0.2.2.1.2.2.1]; rfl) | simp [ui, ul, hw0.2.2.1.2.2.1]) rfl rfl f_9_220 rfl (by decide) rfl ?_
    refine x_iconstN (b := 1) rfl rfl ?_
    refine x_iaddN (a := (pR s0).length) (b := 1) rfl rfl ?_
    refine x_putI rfl rfl f_9_220 rfl rfl (by decide) rfl ?_
    refine x_iload rfl rfl rfl ?_
    exact q_retI (by unfold keepT; rw [if_neg (by omega), if_neg (by omega)]) ((hS0.ui (by unfold onMT; simp)).ui (by unfold onMT; simp)) (hw0.aR hRL hpos) rfl rfl rfl
theorem l_tf (hG : Gok G) (hd : 4 ≤ d) {row : List Nat} {al : List Int64} {nn np m jj : Nat} {nm a b c : Int64} {acc : List Int64} {s9 s0 : RS} {M9 : Mm} (hnn : nn < 536870912) (hm : m = acc.length) (hw0 : RdM row al s0 M) (hRL : (pR s0).length < (pL s0).length) (hS0 : EqF (onMT s9) M9 M) (h9 : s0.2.2 = s9.2.2) (hok : trOK (nm, decide (nn / 8 % 2 = 1), acc)) (ha : a = acc[0]?.getD 0) (hb : b = acc[1]?.getD 0) (hc : c = acc[2]?.getD 0) (hnp : np ≤ 600) : FQ G mX9_takeTraits d M9 (onMT s9) (fun _ => RdM row al) vInt (keepT np (nm, decide (nn / 8 % 2 = 1), acc) s0) 183 [(0, .ref (ga G (40, 0))), (1, .int (nI nn)), (2, .int (nI np)), (4, .long (nm)), (6, .int (nI m)), (7, .long (a)), (9, .long (b)), (11, .long (c)), (13, .int (nI jj))] [] M := by
  have hle := tpos_le (pT s0) (nm, decide (nn / 8 % 2 = 1), acc)
  by_cases h1 : tpos (pT s0) (nm, decide (nn / 8 % 2 = 1), acc) = (pT s0).length
  · by_cases h2 : (pT s0).length = 12
    · exact l_tfX hG hd hnn hm hw0 hRL hS0 h9 hok ha hb hc hnp h1 h2
    · exact l_tfN hG hd hnn hm hw0 hRL hS0 h9 hok ha hb hc hnp h1 h2
  · exact l_tfO hG hd hnn hm hw0 hRL hS0 h9 hok ha hb hc hnp (by omega)
set_option maxHeartbeats 4000000 in
theorem l_tm3 (hG : Gok G) (hd : 5 ≤ d) {row : List Nat} {al : List Int64} {nn np m : Nat} {nm : Int64} {a b c : Int64} {s9 s0 : RS} {M9 : Mm} (hnn : nn < 536870912) (n : Nat) (hm : 3 + n = m) (hm3 : m ≤ 3) (hw0 : RdM row al s0 M) (hRL : (pR s0).length < (pL s0).length) (hS0 : EqF (onMT s9) M9 M) (h9 : s0.2.2 = s9.2.2) (hnm : isTx nm) (hnd : ([a, b, c] : List Int64).Nodup) (hac : ∀ e ∈ ([a, b, c] : List Int64), isTx e ∧ ¬ e = 0) (hnp : np ≤ 600) : FQ G mX9_takeTraits d M9 (onMT s9) (fun _ => RdM row al) vInt (rb (rMem row n [a, b, c] s0) fun z => keepT np (nm, decide (nn / 8 % 2 = 1), z.1) z.2) 50 [(0, .ref (ga G (40, 0))), (1, .int (nI nn)), (2, .int (nI np)), (4, .long (nm)), (6, .int (nI m)), (7, .long (a)), (9, .long (b)), (11, .long (c)), (13, .int (nI 3))] [] M := by
  have hL6 := hw0.2.2.2.2.2.2.1
  have hA0 := hw0.2.1.1
  cases n with
  | zero =>
    show FQ G mX9_takeTraits d M9 (onMT s9) _ vInt (keepT np (nm, decide (nn / 8 % 2 = 1), [a, b, c]) s0) 50 _ [] M
    refine x_iload rfl rfl rfl ?_
    refine x_iload rfl rfl rfl ?_
    refine x_icmpN_ge (by omega) (by omega) rfl rfl (fun hc1 => ?_) (fun hc1 => absurd hc1 (by omega))
    exact l_tf (acc := [a, b, c]) hG (by omega) hnn (by simp; omega) hw0 hRL hS0 h9 ⟨hnm, by simp [rM], hnd, hac⟩ rfl rfl rfl hnp
  | succ n =>
    exact absurd hm (by omega)
set_option maxHeartbeats 4000000 in
theorem l_tm2 (hG : Gok G) (hd : 5 ≤ d) {row : List Nat} {al : List Int64} {nn np m : Nat} {nm : Int64} {a b : Int64} {s9 s0 : RS} {M9 : Mm} (hnn : nn < 536870912) (n : Nat) (hm : 2 + n = m) (hm3 : m ≤ 3) (hw0 : RdM row al s0 M) (hRL : (pR s0).length < (pL s0).length) (hS0 : EqF (onMT s9) M9 M) (h9 : s0.2.2 = s9.2.2) (hnm : isTx nm) (hnd : ([a, b] : List Int64).Nodup) (hac : ∀ e ∈ ([a, b] : List Int64), isTx e ∧ ¬ e = 0) (hnp : np ≤ 600) : FQ G mX9_takeTraits d M9 (onMT s9) (fun _ => RdM row al) vInt (rb (rMem row n [a, b] s0) fun z => keepT np (nm, decide (nn / 8 % 2 = 1), z.1) z.2) 50 [(0, .ref (ga G (40, 0))), (1, .int (nI nn)), (2, .int (nI np)), (4, .long (nm)), (6, .int (nI m)), (7, .long (a)), (9, .long (b)), (11, .long (0)), (13, .int (nI 2))] [] M := by
  have hL6 := hw0.2.2.2.2.2.2.1
  have hA0 := hw0.2.1.1
  cases n with
  | zero =>
    show FQ G mX9_takeTraits d M9 (onMT s9) _ vInt (keepT np (nm, decide (nn / 8 % 2 = 1), [a, b]) s0) 50 _ [] M
    refine x_iload rfl rfl rfl ?_
    refine x_iload rfl rfl rfl ?_
    refine x_icmpN_ge (by omega) (by omega) rfl rfl (fun hc1 => ?_) (fun hc1 => absurd hc1 (by omega))
    exact l_tf (acc := [a, b]) hG (by omega) hnn (by simp; omega) hw0 hRL hS0 h9 ⟨hnm, by simp [rM], hnd, hac⟩ rfl rfl rfl hnp
  | succ n =>
    rw [show rMem row (n + 1) [a, b] s0 = rb (rStr row s0) (fun q => if q.1 = 0 ∨ q.1 ∈ ([a, b] : List Int64) then .inl s0.1 else rMem row n ([a, b] ++ [q.1]) q.2) from rfl, rb_assoc]
    refine x_iload rfl rfl rfl ?_
    refine x_iload rfl rfl rfl ?_
    refine x_icmpN_ge (by omega) (by omega) rfl rfl (fun hc1 => absurd hc1 (by omega)) (fun hc1 => ?_)
    refine x_aload_n rfl rfl rfl ?_
    refine x_callVi (d2 := 0) (c_mgoesT hG hw0.1.2.1) rfl rfl v_9_238 rfl rfl (by decide) rfl rfl (Nat.le_of_ble_eq_true rfl) (by omega) (by omega) ?_
    refine x_if_eq rfl rfl (fun hc2 => absurd hc2 (by decide +kernel)) (fun _ => ?_)
    refine x_aload_n rfl rfl rfl ?_
    refine x_getIv (v := nI (s0.1)) hw0.1.1 rfl rfl f_9_242 rfl (by decide) rfl ?_
    refine x_istore_n rfl rfl rfl rfl ?_
    refine x_aload_n rfl rfl rfl ?_
    refine q_call (d2 := 4) (c_mtakeString hG (Nat.le_refl 4) hw0) hS0 (fun _ _ z => onMTA z) rfl rfl v_9_267 rfl rfl (by decide) rfl rfl (Nat.le_of_ble_eq_true rfl) (by omega) (fun b1 s1 M1 e1 hq1 hE1 hS1 => ?_) (fun f1 b1 M1 e1 hf1 hl1 hS1 => ?_)
    · have hw1 := hq1
      have hz1 := (rStr_2 e1).1
      have hx1 := rStr_tx (fun t h => (hw0.2.1.2.2 t h).1) e1
      dsimp only
      refine x_lstore rfl rfl rfl rfl ?_
      refine x_lload rfl rfl rfl ?_
      refine x_lconst (v := 0) rfl rfl (by decide +kernel) ?_
      refine x_lc_eq rfl rfl rfl rfl (fun hc3 => ?_) (fun hc3 => ?_)
      · refine x_iconstN (b := 1) rfl rfl ?_
        refine x_goto rfl rfl ?_
        refine x_istore rfl rfl rfl rfl ?_
        refine x_aload_n rfl rfl rfl ?_
        refine x_callVi (d2 := 0) (c_mgoesT hG hw1.1.2.1) rfl rfl v_9_238 rfl rfl (by decide) rfl rfl (Nat.le_of_ble_eq_true rfl) (by omega) (by omega) ?_
        refine x_if_eq rfl rfl (fun hc4 => absurd hc4 (by decide +kernel)) (fun _ => ?_)
        refine x_iload rfl rfl rfl ?_
        refine x_if_eq rfl rfl (fun hc5 => absurd hc5 (by decide +kernel)) (fun _ => ?_)
        refine x_aload_n rfl rfl rfl ?_
        refine x_iload_n rfl rfl rfl ?_
        refine x_callVv (d2 := 0) (c_mstopT hG (nI (s0.1)) hw1.1.2.1) rfl rfl v_9_245 rfl rfl (by decide) rfl rfl (Nat.le_of_ble_eq_true rfl) (by omega) (by omega) ?_
        refine x_iload rfl rfl rfl ?_
        refine x_if_ne rfl rfl (fun _ => ?_) (fun hc6 => absurd hc6 (by decide +kernel))
        refine x_lload rfl rfl rfl ?_
        refine x_lstore rfl rfl rfl rfl ?_
        refine x_iload rfl rfl rfl ?_
        refine x_iconstN (b := 1) rfl rfl ?_
        refine x_icmpN_ne (by omega) (by omega) rfl rfl (fun hc7 => ?_) (fun hc7 => absurd hc7 (by omega))
        refine x_lload rfl rfl rfl ?_
        refine x_lstore rfl rfl rfl rfl ?_
        refine x_iload rfl rfl rfl ?_
        refine x_iconstN (b := 2) rfl rfl ?_
        refine x_icmpN_ne (by omega) (by omega) rfl rfl (fun hc8 => absurd hc8 (by omega)) (fun hc8 => ?_)
        refine x_lload rfl rfl rfl ?_
        refine x_goto rfl rfl ?_
        refine x_lstore rfl rfl rfl rfl ?_
        refine x_iincN (a := 2) (b := 1) rfl rfl rfl rfl rfl ?_
        refine x_goto rfl rfl ?_
        refine x_iload rfl rfl rfl ?_
        refine x_iload rfl rfl rfl ?_
        refine x_icmpN_ge (by omega) (by omega) rfl rfl (fun hc9 => ?_) (fun hc9 => ?_)
        · refine x_aload_n rfl rfl rfl ?_
          refine x_callVi (d2 := 0) (c_mgoesF hG (f := s0.1) (by first | rfl | simp [ui, ul]) (by omega)) rfl rfl v_9_238 rfl rfl (by decide) rfl rfl (Nat.le_of_ble_eq_true rfl) (by omega) (by omega) ?_
          refine x_if_ne rfl rfl (fun hc10 => absurd hc10 (by decide +kernel)) (fun _ => ?_)
          refine x_iconst (v := -1) rfl rfl (by decide +kernel) ?_
          exact q_flI (f := s0.1) (by rw [if_pos (Or.inl hc3)]; rfl) (hS1.ui (by unfold onMT; simp)) (by first | rfl | simp [ui, ul]) (by omega) rfl rfl rfl
        · refine x_aload_n rfl rfl rfl ?_
          refine x_callVi (d2 := 0) (c_mgoesF hG (f := s0.1) (by first | rfl | simp [ui, ul]) (by omega)) rfl rfl v_9_238 rfl rfl (by decide) rfl rfl (Nat.le_of_ble_eq_true rfl) (by omega) (by omega) ?_
          refine x_if_eq rfl rfl (fun _ => ?_) (fun hc11 => absurd hc11 (by decide +kernel))
          refine x_aload_n rfl rfl rfl ?_
          refine x_callVi (d2 := 0) (c_mgoesF hG (f := s0.1) (by first | rfl | simp [ui, ul]) (by omega)) rfl rfl v_9_238 rfl rfl (by decide) rfl rfl (Nat.le_of_ble_eq_true rfl) (by omega) (by omega) ?_
          refine x_if_ne rfl rfl (fun hc12 => absurd hc12 (by decide +kernel)) (fun _ => ?_)
          refine x_iconst (v := -1) rfl rfl (by decide +kernel) ?_
          exact q_flI (f := s0.1) (by rw [if_pos (Or.inl hc3)]; rfl) (hS1.ui (by unfold onMT; simp)) (by first | rfl | simp [ui, ul]) (by omega) rfl rfl rfl
      · refine x_iload rfl rfl rfl ?_
        refine x_if_le rfl rfl (fun hc13 => absurd hc13 (by decide +kernel)) (fun _ => ?_)
        refine x_lload rfl rfl rfl ?_
        refine x_lload rfl rfl rfl ?_
        refine x_lc_eq rfl rfl rfl rfl (fun hc14 => ?_) (fun hc14 => ?_)
        · refine x_iconstN (b := 1) rfl rfl ?_
          refine x_goto rfl rfl ?_
          refine x_istore rfl rfl rfl rfl ?_
          refine x_aload_n rfl rfl rfl ?_
          refine x_callVi (d2 := 0) (c_mgoesT hG hw1.1.2.1) rfl rfl v_9_238 rfl rfl (by decide) rfl rfl (Nat.le_of_ble_eq_true rfl) (by omega) (by omega) ?_
          refine x_if_eq rfl rfl (fun hc15 => absurd hc15 (by decide +kernel)) (fun _ => ?_)
          refine x_iload rfl rfl rfl ?_
          refine x_if_eq rfl rfl (fun hc16 => absurd hc16 (by decide +kernel)) (fun _ => ?_)
          refine x_aload_n rfl rfl rfl ?_
          refine x_iload_n rfl rfl rfl ?_
          refine x_callVv (d2 := 0) (c_mstopT hG (nI (s0.1)) hw1.1.2.1) rfl rfl v_9_245 rfl rfl (by decide) rfl rfl (Nat.le_of_ble_eq_true rfl) (by omega) (by omega) ?_
          refine x_iload rfl rfl rfl ?_
          refine x_if_ne rfl rfl (fun _ => ?_) (fun hc17 => absurd hc17 (by decide +kernel))
          refine x_lload rfl rfl rfl ?_
          refine x_lstore rfl rfl rfl rfl ?_
          refine x_iload rfl rfl rfl ?_
          refine x_iconstN (b := 1) rfl rfl ?_
          refine x_icmpN_ne (by omega) (by omega) rfl rfl (fun hc18 => ?_) (fun hc18 => absurd hc18 (by omega))
          refine x_lload rfl rfl rfl ?_
          refine x_lstore rfl rfl rfl rfl ?_
          refine x_iload rfl rfl rfl ?_
          refine x_iconstN (b := 2) rfl rfl ?_
          refine x_icmpN_ne (by omega) (by omega) rfl rfl (fun hc19 => absurd hc19 (by omega)) (fun hc19 => ?_)
          refine x_lload rfl rfl rfl ?_
          refine x_goto rfl rfl ?_
          refine x_lstore rfl rfl rfl rfl ?_
          refine x_iincN (a := 2) (b := 1) rfl rfl rfl rfl rfl ?_
          refine x_goto rfl rfl ?_
          refine x_iload rfl rfl rfl ?_
          refine x_iload rfl rfl rfl ?_
          refine x_icmpN_ge (by omega) (by omega) rfl rfl (fun hc20 => ?_) (fun hc20 => ?_)
          · refine x_aload_n rfl rfl rfl ?_
            refine x_callVi (d2 := 0) (c_mgoesF hG (f := s0.1) (by first | rfl | simp [ui, ul]) (by omega)) rfl rfl v_9_238 rfl rfl (by decide) rfl rfl (Nat.le_of_ble_eq_true rfl) (by omega) (by omega) ?_
            refine x_if_ne rfl rfl (fun hc21 => absurd hc21 (by decide +kernel)) (fun _ => ?_)
            refine x_iconst (v := -1) rfl rfl (by decide +kernel) ?_
            exact q_flI (f := s0.1) (by rw [if_pos (Or.inr (by rw [hc14]; simp))]; rfl) (hS1.ui (by unfold onMT; simp)) (by first | rfl | simp [ui, ul]) (by omega) rfl rfl rfl
          · refine x_aload_n rfl rfl rfl ?_
            refine x_callVi (d2 := 0) (c_mgoesF hG (f := s0.1) (by first | rfl | simp [ui, ul]) (by omega)) rfl rfl v_9_238 rfl rfl (by decide) rfl rfl (Nat.le_of_ble_eq_true rfl) (by omega) (by omega) ?_
            refine x_if_eq rfl rfl (fun _ => ?_) (fun hc22 => absurd hc22 (by decide +kernel))
            refine x_aload_n rfl rfl rfl ?_
            refine x_callVi (d2 := 0) (c_mgoesF hG (f := s0.1) (by first | rfl | simp [ui, ul]) (by omega)) rfl rfl v_9_238 rfl rfl (by decide) rfl rfl (Nat.le_of_ble_eq_true rfl) (by omega) (by omega) ?_
            refine x_if_ne rfl rfl (fun hc23 => absurd hc23 (by decide +kernel)) (fun _ => ?_)
            refine x_iconst (v := -1) rfl rfl (by decide +kernel) ?_
            exact q_flI (f := s0.1) (by rw [if_pos (Or.inr (by rw [hc14]; simp))]; rfl) (hS1.ui (by unfold onMT; simp)) (by first | rfl | simp [ui, ul]) (by omega) rfl rfl rfl
        · refine x_iload rfl rfl rfl ?_
          refine x_iconstN (b := 1) rfl rfl ?_
          refine x_icmpN_le (by omega) (by omega) rfl rfl (fun hc24 => absurd hc24 (by omega)) (fun hc24 => ?_)
          refine x_lload rfl rfl rfl ?_
          refine x_lload rfl rfl rfl ?_
          refine x_lc_ne rfl rfl rfl rfl (fun hc25 => ?_) (fun hc25 => ?_)
          · refine x_iconstN (b := 0) rfl rfl ?_
            refine x_istore rfl rfl rfl rfl ?_
            refine x_aload_n rfl rfl rfl ?_
            refine x_callVi (d2 := 0) (c_mgoesT hG hw1.1.2.1) rfl rfl v_9_238 rfl rfl (by decide) rfl rfl (Nat.le_of_ble_eq_true rfl) (by omega) (by omega) ?_
            refine x_if_eq rfl rfl (fun hc26 => absurd hc26 (by decide +kernel)) (fun _ => ?_)
            refine x_iload rfl rfl rfl ?_
            refine x_if_eq rfl rfl (fun _ => ?_) (fun hc27 => absurd hc27 (by decide +kernel))
            refine x_iload rfl rfl rfl ?_
            refine x_if_ne rfl rfl (fun _ => ?_) (fun hc28 => absurd hc28 (by decide +kernel))
            refine x_lload rfl rfl rfl ?_
            refine x_lstore rfl rfl rfl rfl ?_
            refine x_iload rfl rfl rfl ?_
            refine x_iconstN (b := 1) rfl rfl ?_
            refine x_icmpN_ne (by omega) (by omega) rfl rfl (fun hc29 => ?_) (fun hc29 => absurd hc29 (by omega))
            refine x_lload rfl rfl rfl ?_
            refine x_lstore rfl rfl rfl rfl ?_
            refine x_iload rfl rfl rfl ?_
            refine x_iconstN (b := 2) rfl rfl ?_
            refine x_icmpN_ne (by omega) (by omega) rfl rfl (fun hc30 => absurd hc30 (by omega)) (fun hc30 => ?_)
            refine x_lload rfl rfl rfl ?_
            refine x_goto rfl rfl ?_
            refine x_lstore rfl rfl rfl rfl ?_
            refine x_iincN (a := 2) (b := 1) rfl rfl rfl rfl rfl ?_
            refine x_goto rfl rfl ?_
            have hno : ¬ (b1 = 0 ∨ b1 ∈ ([a, b] : List Int64)) := by
              rintro (z | z)
              · exact hc3 z
              · rcases List.mem_cons.mp z with z | z
                · exact hc14 z
                · exact hc25 (List.mem_singleton.mp z)
            rw [if_neg hno]
            refine x_pick [0, 1, 2, 4, 5, 6, 7, 8, 9] rfl ?_
            exact l_tm3 hG hd hnn n (by omega) hm3 hw1 (RL_2 hz1 hRL) hS1 (hz1.trans h9) hnm (nd_push hnd (fun z => hno (Or.inr z))) (all_push hac ⟨hx1, fun z => hno (Or.inl z)⟩) hnp
          · refine x_iconstN (b := 1) rfl rfl ?_
            refine x_goto rfl rfl ?_
            refine x_istore rfl rfl rfl rfl ?_
            refine x_aload_n rfl rfl rfl ?_
            refine x_callVi (d2 := 0) (c_mgoesT hG hw1.1.2.1) rfl rfl v_9_238 rfl rfl (by decide) rfl rfl (Nat.le_of_ble_eq_true rfl) (by omega) (by omega) ?_
            refine x_if_eq rfl rfl (fun hc31 => absurd hc31 (by decide +kernel)) (fun _ => ?_)
            refine x_iload rfl rfl rfl ?_
            refine x_if_eq rfl rfl (fun hc32 => absurd hc32 (by decide +kernel)) (fun _ => ?_)
            refine x_aload_n rfl rfl rfl ?_
            refine x_iload_n rfl rfl rfl ?_
            refine x_callVv (d2 := 0) (c_mstopT hG (nI (s0.1)) hw1.1.2.1) rfl rfl v_9_245 rfl rfl (by decide) rfl rfl (Nat.le_of_ble_eq_true rfl) (by omega) (by omega) ?_
            refine x_iload rfl rfl rfl ?_
            refine x_if_ne rfl rfl (fun _ => ?_) (fun hc33 => absurd hc33 (by decide +kernel))
            refine x_lload rfl rfl rfl ?_
            refine x_lstore rfl rfl rfl rfl ?_
            refine x_iload rfl rfl rfl ?_
            refine x_iconstN (b := 1) rfl rfl ?_
            refine x_icmpN_ne (by omega) (by omega) rfl rfl (fun hc34 => ?_) (fun hc34 => absurd hc34 (by omega))
            refine x_lload rfl rfl rfl ?_
            refine x_lstore rfl rfl rfl rfl ?_
            refine x_iload rfl rfl rfl ?_
            refine x_iconstN (b := 2) rfl rfl ?_
            refine x_icmpN_ne (by omega) (by omega) rfl rfl (fun hc35 => absurd hc35 (by omega)) (fun hc35 => ?_)
            refine x_lload rfl rfl rfl ?_
            refine x_goto rfl rfl ?_
            refine x_lstore rfl rfl rfl rfl ?_
            refine x_iincN (a := 2) (b := 1) rfl rfl rfl rfl rfl ?_
            refine x_goto rfl rfl ?_
            refine x_iload rfl rfl rfl ?_
            refine x_iload rfl rfl rfl ?_
            refine x_icmpN_ge (by omega) (by omega) rfl rfl (fun hc36 => ?_) (fun hc36 => ?_)
            · refine x_aload_n rfl rfl rfl ?_
              refine x_callVi (d2 := 0) (c_mgoesF hG (f := s0.1) (by first | rfl | simp [ui, ul]) (by omega)) rfl rfl v_9_238 rfl rfl (by decide) rfl rfl (Nat.le_of_ble_eq_true rfl) (by omega) (by omega) ?_
              refine x_if_ne rfl rfl (fun hc37 => absurd hc37 (by decide +kernel)) (fun _ => ?_)
              refine x_iconst (v := -1) rfl rfl (by decide +kernel) ?_
              exact q_flI (f := s0.1) (by rw [if_pos (Or.inr (by rw [hc25]; simp))]; rfl) (hS1.ui (by unfold onMT; simp)) (by first | rfl | simp [ui, ul]) (by omega) rfl rfl rfl
            · refine x_aload_n rfl rfl rfl ?_
              refine x_callVi (d2 := 0) (c_mgoesF hG (f := s0.1) (by first | rfl | simp [ui, ul]) (by omega)) rfl rfl v_9_238 rfl rfl (by decide) rfl rfl (Nat.le_of_ble_eq_true rfl) (by omega) (by omega) ?_
              refine x_if_eq rfl rfl (fun _ => ?_) (fun hc38 => absurd hc38 (by decide +kernel))
              refine x_aload_n rfl rfl rfl ?_
              refine x_callVi (d2 := 0) (c_mgoesF hG (f := s0.1) (by first | rfl | simp [ui, ul]) (by omega)) rfl rfl v_9_238 rfl rfl (by decide) rfl rfl (Nat.le_of_ble_eq_true rfl) (by omega) (by omega) ?_
              refine x_if_ne rfl rfl (fun hc39 => absurd hc39 (by decide +kernel)) (fun _ => ?_)
              refine x_iconst (v := -1) rfl rfl (by decide +kernel) ?_
              exact q_flI (f := s0.1) (by rw [if_pos (Or.inr (by rw [hc25]; simp))]; rfl) (hS1.ui (by unfold onMT; simp)) (by first | rfl | simp [ui, ul]) (by omega) rfl rfl rfl
    · refine x_lstore rfl rfl rfl rfl ?_
      refine x_lload rfl rfl rfl ?_
      refine x_lconst (v := 0) rfl rfl (by decide +kernel) ?_
      refine x_lc_eq rfl rfl rfl rfl (fun hc40 => ?_) (fun hc40 => ?_)
      · refine x_iconstN (b := 1) rfl rfl ?_
        refine x_goto rfl rfl ?_
        refine x_istore rfl rfl rfl rfl ?_
        refine x_aload_n rfl rfl rfl ?_
        refine x_callVi (d2 := 0) (c_mgoesF hG (f := f1) hf1 (by omega)) rfl rfl v_9_238 rfl rfl (by decide) rfl rfl (Nat.le_of_ble_eq_true rfl) (by omega) (by omega) ?_
        refine x_if_eq rfl rfl (fun _ => ?_) (fun hc41 => absurd hc41 (by decide +kernel))
        refine x_iload rfl rfl rfl ?_
        refine x_if_ne rfl rfl (fun _ => ?_) (fun hc42 => absurd hc42 (by decide +kernel))
        refine x_lload rfl rfl rfl ?_
        refine x_lstore rfl rfl rfl rfl ?_
        refine x_iload rfl rfl rfl ?_
        refine x_iconstN (b := 1) rfl rfl ?_
        refine x_icmpN_ne (by omega) (by omega) rfl rfl (fun hc43 => ?_) (fun hc43 => absurd hc43 (by omega))
        refine x_lload rfl rfl rfl ?_
        refine x_lstore rfl rfl rfl rfl ?_
        refine x_iload rfl rfl rfl ?_
        refine x_iconstN (b := 2) rfl rfl ?_
        refine x_icmpN_ne (by omega) (by omega) rfl rfl (fun hc44 => absurd hc44 (by omega)) (fun hc44 => ?_)
        refine x_lload rfl rfl rfl ?_
        refine x_goto rfl rfl ?_
        refine x_lstore rfl rfl rfl rfl ?_
        refine x_iincN (a := 2) (b := 1) rfl rfl rfl rfl rfl ?_
        refine x_goto rfl rfl ?_
        refine x_iload rfl rfl rfl ?_
        refine x_iload rfl rfl rfl ?_
        refine x_icmpN_ge (by omega) (by omega) rfl rfl (fun hc45 => ?_) (fun hc45 => ?_)
        · refine x_aload_n rfl rfl rfl ?_
          refine x_callVi (d2 := 0) (c_mgoesF hG (f := f1) hf1 (by omega)) rfl rfl v_9_238 rfl rfl (by decide) rfl rfl (Nat.le_of_ble_eq_true rfl) (by omega) (by omega) ?_
          refine x_if_ne rfl rfl (fun hc46 => absurd hc46 (by decide +kernel)) (fun _ => ?_)
          refine x_iconst (v := -1) rfl rfl (by decide +kernel) ?_
          exact q_flI (f := f1) (rfl) hS1 hf1 (by omega) rfl rfl rfl
        · refine x_aload_n rfl rfl rfl ?_
          refine x_callVi (d2 := 0) (c_mgoesF hG (f := f1) hf1 (by omega)) rfl rfl v_9_238 rfl rfl (by decide) rfl rfl (Nat.le_of_ble_eq_true rfl) (by omega) (by omega) ?_
          refine x_if_eq rfl rfl (fun _ => ?_) (fun hc47 => absurd hc47 (by decide +kernel))
          refine x_aload_n rfl rfl rfl ?_
          refine x_callVi (d2 := 0) (c_mgoesF hG (f := f1) hf1 (by omega)) rfl rfl v_9_238 rfl rfl (by decide) rfl rfl (Nat.le_of_ble_eq_true rfl) (by omega) (by omega) ?_
          refine x_if_ne rfl rfl (fun hc48 => absurd hc48 (by decide +kernel)) (fun _ => ?_)
          refine x_iconst (v := -1) rfl rfl (by decide +kernel) ?_
          exact q_flI (f := f1) (rfl) hS1 hf1 (by omega) rfl rfl rfl
      · refine x_iload rfl rfl rfl ?_
        refine x_if_le rfl rfl (fun hc49 => absurd hc49 (by decide +kernel)) (fun _ => ?_)
        refine x_lload rfl rfl rfl ?_
        refine x_lload rfl rfl rfl ?_
        refine x_lc_eq rfl rfl rfl rfl (fun hc50 => ?_) (fun hc50 => ?_)
        · refine x_iconstN (b := 1) rfl rfl ?_
          refine x_goto rfl rfl ?_
          refine x_istore rfl rfl rfl rfl ?_
          refine x_aload_n rfl rfl rfl ?_
          refine x_callVi (d2 := 0) (c_mgoesF hG (f := f1) hf1 (by omega)) rfl rfl v_9_238 rfl rfl (by decide) rfl rfl (Nat.le_of_ble_eq_true rfl) (by omega) (by omega) ?_
          refine x_if_eq rfl rfl (fun _ => ?_) (fun hc51 => absurd hc51 (by decide +kernel))
          refine x_iload rfl rfl rfl ?_
          refine x_if_ne rfl rfl (fun _ => ?_) (fun hc52 => absurd hc52 (by decide +kernel))
          refine x_lload rfl rfl rfl ?_
          refine x_lstore rfl rfl rfl rfl ?_
          refine x_iload rfl rfl rfl ?_
          refine x_iconstN (b := 1) rfl rfl ?_
          refine x_icmpN_ne (by omega) (by omega) rfl rfl (fun hc53 => ?_) (fun hc53 => absurd hc53 (by omega))
          refine x_lload rfl rfl rfl ?_
          refine x_lstore rfl rfl rfl rfl ?_
          refine x_iload rfl rfl rfl ?_
          refine x_iconstN (b := 2) rfl rfl ?_
          refine x_icmpN_ne (by omega) (by omega) rfl rfl (fun hc54 => absurd hc54 (by omega)) (fun hc54 => ?_)
          refine x_lload rfl rfl rfl ?_
          refine x_goto rfl rfl ?_
          refine x_lstore rfl rfl rfl rfl ?_
          refine x_iincN (a := 2) (b := 1) rfl rfl rfl rfl rfl ?_
          refine x_goto rfl rfl ?_
          refine x_iload rfl rfl rfl ?_
          refine x_iload rfl rfl rfl ?_
          refine x_icmpN_ge (by omega) (by omega) rfl rfl (fun hc55 => ?_) (fun hc55 => ?_)
          · refine x_aload_n rfl rfl rfl ?_
            refine x_callVi (d2 := 0) (c_mgoesF hG (f := f1) hf1 (by omega)) rfl rfl v_9_238 rfl rfl (by decide) rfl rfl (Nat.le_of_ble_eq_true rfl) (by omega) (by omega) ?_
            refine x_if_ne rfl rfl (fun hc56 => absurd hc56 (by decide +kernel)) (fun _ => ?_)
            refine x_iconst (v := -1) rfl rfl (by decide +kernel) ?_
            exact q_flI (f := f1) (rfl) hS1 hf1 (by omega) rfl rfl rfl
          · refine x_aload_n rfl rfl rfl ?_
            refine x_callVi (d2 := 0) (c_mgoesF hG (f := f1) hf1 (by omega)) rfl rfl v_9_238 rfl rfl (by decide) rfl rfl (Nat.le_of_ble_eq_true rfl) (by omega) (by omega) ?_
            refine x_if_eq rfl rfl (fun _ => ?_) (fun hc57 => absurd hc57 (by decide +kernel))
            refine x_aload_n rfl rfl rfl ?_
            refine x_callVi (d2 := 0) (c_mgoesF hG (f := f1) hf1 (by omega)) rfl rfl v_9_238 rfl rfl (by decide) rfl rfl (Nat.le_of_ble_eq_true rfl) (by omega) (by omega) ?_
            refine x_if_ne rfl rfl (fun hc58 => absurd hc58 (by decide +kernel)) (fun _ => ?_)
            refine x_iconst (v := -1) rfl rfl (by decide +kernel) ?_
            exact q_flI (f := f1) (rfl) hS1 hf1 (by omega) rfl rfl rfl
        · refine x_iload rfl rfl rfl ?_
          refine x_iconstN (b := 1) rfl rfl ?_
          refine x_icmpN_le (by omega) (by omega) rfl rfl (fun hc59 => absurd hc59 (by omega)) (fun hc59 => ?_)
          refine x_lload rfl rfl rfl ?_
          refine x_lload rfl rfl rfl ?_
          refine x_lc_ne rfl rfl rfl rfl (fun hc60 => ?_) (fun hc60 => ?_)
          · refine x_iconstN (b := 0) rfl rfl ?_
            refine x_istore rfl rfl rfl rfl ?_
            refine x_aload_n rfl rfl rfl ?_
            refine x_callVi (d2 := 0) (c_mgoesF hG (f := f1) hf1 (by omega)) rfl rfl v_9_238 rfl rfl (by decide) rfl rfl (Nat.le_of_ble_eq_true rfl) (by omega) (by omega) ?_
            refine x_if_eq rfl rfl (fun _ => ?_) (fun hc61 => absurd hc61 (by decide +kernel))
            refine x_iload rfl rfl rfl ?_
            refine x_if_ne rfl rfl (fun _ => ?_) (fun hc62 => absurd hc62 (by decide +kernel))
            refine x_lload rfl rfl rfl ?_
            refine x_lstore rfl rfl rfl rfl ?_
            refine x_iload rfl rfl rfl ?_
            refine x_iconstN (b := 1) rfl rfl ?_
            refine x_icmpN_ne (by omega) (by omega) rfl rfl (fun hc63 => ?_) (fun hc63 => absurd hc63 (by omega))
            refine x_lload rfl rfl rfl ?_
            refine x_lstore rfl rfl rfl rfl ?_
            refine x_iload rfl rfl rfl ?_
            refine x_iconstN (b := 2) rfl rfl ?_
            refine x_icmpN_ne (by omega) (by omega) rfl rfl (fun hc64 => absurd hc64 (by omega)) (fun hc64 => ?_)
            refine x_lload rfl rfl rfl ?_
            refine x_goto rfl rfl ?_
            refine x_lstore rfl rfl rfl rfl ?_
            refine x_iincN (a := 2) (b := 1) rfl rfl rfl rfl rfl ?_
            refine x_goto rfl rfl ?_
            refine x_iload rfl rfl rfl ?_
            refine x_iload rfl rfl rfl ?_
            refine x_icmpN_ge (by omega) (by omega) rfl rfl (fun hc65 => ?_) (fun hc65 => ?_)
            · refine x_aload_n rfl rfl rfl ?_
              refine x_callVi (d2 := 0) (c_mgoesF hG (f := f1) hf1 (by omega)) rfl rfl v_9_238 rfl rfl (by decide) rfl rfl (Nat.le_of_ble_eq_true rfl) (by omega) (by omega) ?_
              refine x_if_ne rfl rfl (fun hc66 => absurd hc66 (by decide +kernel)) (fun _ => ?_)
              refine x_iconst (v := -1) rfl rfl (by decide +kernel) ?_
              exact q_flI (f := f1) (rfl) hS1 hf1 (by omega) rfl rfl rfl
            · refine x_aload_n rfl rfl rfl ?_
              refine x_callVi (d2 := 0) (c_mgoesF hG (f := f1) hf1 (by omega)) rfl rfl v_9_238 rfl rfl (by decide) rfl rfl (Nat.le_of_ble_eq_true rfl) (by omega) (by omega) ?_
              refine x_if_eq rfl rfl (fun _ => ?_) (fun hc67 => absurd hc67 (by decide +kernel))
              refine x_aload_n rfl rfl rfl ?_
              refine x_callVi (d2 := 0) (c_mgoesF hG (f := f1) hf1 (by omega)) rfl rfl v_9_238 rfl rfl (by decide) rfl rfl (Nat.le_of_ble_eq_true rfl) (by omega) (by omega) ?_
              refine x_if_ne rfl rfl (fun hc68 => absurd hc68 (by decide +kernel)) (fun _ => ?_)
              refine x_iconst (v := -1) rfl rfl (by decide +kernel) ?_
              exact q_flI (f := f1) (rfl) hS1 hf1 (by omega) rfl rfl rfl
          · refine x_iconstN (b := 1) rfl rfl ?_
            refine x_goto rfl rfl ?_
            refine x_istore rfl rfl rfl rfl ?_
            refine x_aload_n rfl rfl rfl ?_
            refine x_callVi (d2 := 0) (c_mgoesF hG (f := f1) hf1 (by omega)) rfl rfl v_9_238 rfl rfl (by decide) rfl rfl (Nat.le_of_ble_eq_true rfl) (by omega) (by omega) ?_
            refine x_if_eq rfl rfl (fun _ => ?_) (fun hc69 => absurd hc69 (by decide +kernel))
            refine x_iload rfl rfl rfl ?_
            refine x_if_ne rfl rfl (fun _ => ?_) (fun hc70 => absurd hc70 (by decide +kernel))
            refine x_lload rfl rfl rfl ?_
            refine x_lstore rfl rfl rfl rfl ?_
            refine x_iload rfl rfl rfl ?_
            refine x_iconstN (b := 1) rfl rfl ?_
            refine x_icmpN_ne (by omega) (by omega) rfl rfl (fun hc71 => ?_) (fun hc71 => absurd hc71 (by omega))
            refine x_lload rfl rfl rfl ?_
            refine x_lstore rfl rfl rfl rfl ?_
            refine x_iload rfl rfl rfl ?_
            refine x_iconstN (b := 2) rfl rfl ?_
            refine x_icmpN_ne (by omega) (by omega) rfl rfl (fun hc72 => absurd hc72 (by omega)) (fun hc72 => ?_)
            refine x_lload rfl rfl rfl ?_
            refine x_goto rfl rfl ?_
            refine x_lstore rfl rfl rfl rfl ?_
            refine x_iincN (a := 2) (b := 1) rfl rfl rfl rfl rfl ?_
            refine x_goto rfl rfl ?_
            refine x_iload rfl rfl rfl ?_
            refine x_iload rfl rfl rfl ?_
            refine x_icmpN_ge (by omega) (by omega) rfl rfl (fun hc73 => ?_) (fun hc73 => ?_)
            · refine x_aload_n rfl rfl rfl ?_
              refine x_callVi (d2 := 0) (c_mgoesF hG (f := f1) hf1 (by omega)) rfl rfl v_9_238 rfl rfl (by decide) rfl rfl (Nat.le_of_ble_eq_true rfl) (by omega) (by omega) ?_
              refine x_if_ne rfl rfl (fun hc74 => absurd hc74 (by decide +kernel)) (fun _ => ?_)
              refine x_iconst (v := -1) rfl rfl (by decide +kernel) ?_
              exact q_flI (f := f1) (rfl) hS1 hf1 (by omega) rfl rfl rfl
            · refine x_aload_n rfl rfl rfl ?_
              refine x_callVi (d2 := 0) (c_mgoesF hG (f := f1) hf1 (by omega)) rfl rfl v_9_238 rfl rfl (by decide) rfl rfl (Nat.le_of_ble_eq_true rfl) (by omega) (by omega) ?_
              refine x_if_eq rfl rfl (fun _ => ?_) (fun hc75 => absurd hc75 (by decide +kernel))
              refine x_aload_n rfl rfl rfl ?_
              refine x_callVi (d2 := 0) (c_mgoesF hG (f := f1) hf1 (by omega)) rfl rfl v_9_238 rfl rfl (by decide) rfl rfl (Nat.le_of_ble_eq_true rfl) (by omega) (by omega) ?_
              refine x_if_ne rfl rfl (fun hc76 => absurd hc76 (by decide +kernel)) (fun _ => ?_)
              refine x_iconst (v := -1) rfl rfl (by decide +kernel) ?_
              exact q_flI (f := f1) (rfl) hS1 hf1 (by omega) rfl rfl rfl
set_option maxHeartbeats 4000000 in
theorem l_tm1 (hG : Gok G) (hd : 5 ≤ d) {row : List Nat} {al : List Int64} {nn np m : Nat} {nm : Int64} {a : Int64} {s9 s0 : RS} {M9 : Mm} (hnn : nn < 536870912) (n : Nat) (hm : 1 + n = m) (hm3 : m ≤ 3) (hw0 : RdM row al s0 M) (hRL : (pR s0).length < (pL s0).length) (hS0 : EqF (onMT s9) M9 M) (h9 : s0.2.2 = s9.2.2) (hnm : isTx nm) (hnd : ([a] : List Int64).Nodup) (hac : ∀ e ∈ ([a] : List Int64), isTx e ∧ ¬ e = 0) (hnp : np ≤ 600) : FQ G mX9_takeTraits d M9 (onMT s9) (fun _ => RdM row al) vInt (rb (rMem row n [a] s0) fun z => keepT np (nm, decide (nn / 8 % 2 = 1), z.1) z.2) 50 [(0, .ref (ga G (40, 0))), (1, .int (nI nn)), (2, .int (nI np)), (4, .long (nm)), (6, .int (nI m)), (7, .long (a)), (9, .long (0)), (11, .long (0)), (13, .int (nI 1))] [] M := by
  have hL6 := hw0.2.2.2.2.2.2.1
  have hA0 := hw0.2.1.1
  cases n with
  | zero =>
    show FQ G mX9_takeTraits d M9 (onMT s9) _ vInt (keepT np (nm, decide (nn / 8 % 2 = 1), [a]) s0) 50 _ [] M
    refine x_iload rfl rfl rfl ?_
    refine x_iload rfl rfl rfl ?_
    refine x_icmpN_ge (by omega) (by omega) rfl rfl (fun hc1 => ?_) (fun hc1 => absurd hc1 (by omega))
    exact l_tf (acc := [a]) hG (by omega) hnn (by simp; omega) hw0 hRL hS0 h9 ⟨hnm, by simp [rM], hnd, hac⟩ rfl rfl rfl hnp
  | succ n =>
    rw [show rMem row (n + 1) [a] s0 = rb (rStr row s0) (fun q => if q.1 = 0 ∨ q.1 ∈ ([a] : List Int64) then .inl s0.1 else rMem row n ([a] ++ [q.1]) q.2) from rfl, rb_assoc]
    refine x_iload rfl rfl rfl ?_
    refine x_iload rfl rfl rfl ?_
    refine x_icmpN_ge (by omega) (by omega) rfl rfl (fun hc1 => absurd hc1 (by omega)) (fun hc1 => ?_)
    refine x_aload_n rfl rfl rfl ?_
    refine x_callVi (d2 := 0) (c_mgoesT hG hw0.1.2.1) rfl rfl v_9_238 rfl rfl (by decide) rfl rfl (Nat.le_of_ble_eq_true rfl) (by omega) (by omega) ?_
    refine x_if_eq rfl rfl (fun hc2 => absurd hc2 (by decide +kernel)) (fun _ => ?_)
    refine x_aload_n rfl rfl rfl ?_
    refine x_getIv (v := nI (s0.1)) hw0.1.1 rfl rfl f_9_242 rfl (by decide) rfl ?_
    refine x_istore_n rfl rfl rfl rfl ?_
    refine x_aload_n rfl rfl rfl ?_
    refine q_call (d2 := 4) (c_mtakeString hG (Nat.le_refl 4) hw0) hS0 (fun _ _ z => onMTA z) rfl rfl v_9_267 rfl rfl (by decide) rfl rfl (Nat.le_of_ble_eq_true rfl) (by omega) (fun b1 s1 M1 e1 hq1 hE1 hS1 => ?_) (fun f1 b1 M1 e1 hf1 hl1 hS1 => ?_)
    · have hw1 := hq1
      have hz1 := (rStr_2 e1).1
      have hx1 := rStr_tx (fun t h => (hw0.2.1.2.2 t h).1) e1
      dsimp only
      refine x_lstore rfl rfl rfl rfl ?_
      refine x_lload rfl rfl rfl ?_
      refine x_lconst (v := 0) rfl rfl (by decide +kernel) ?_
      refine x_lc_eq rfl rfl rfl rfl (fun hc3 => ?_) (fun hc3 => ?_)
      · refine x_iconstN (b := 1) rfl rfl ?_
        refine x_goto rfl rfl ?_
        refine x_istore rfl rfl rfl rfl ?_
        refine x_aload_n rfl rfl rfl ?_
        refine x_callVi (d2 := 0) (c_mgoesT hG hw1.1.2.1) rfl rfl v_9_238 rfl rfl (by decide) rfl rfl (Nat.le_of_ble_eq_true rfl) (by omega) (by omega) ?_
        refine x_if_eq rfl rfl (fun hc4 => absurd hc4 (by decide +kernel)) (fun _ => ?_)
        refine x_iload rfl rfl rfl ?_
        refine x_if_eq rfl rfl (fun hc5 => absurd hc5 (by decide +kernel)) (fun _ => ?_)
        refine x_aload_n rfl rfl rfl ?_
        refine x_iload_n rfl rfl rfl ?_
        refine x_callVv (d2 := 0) (c_mstopT hG (nI (s0.1)) hw1.1.2.1) rfl rfl v_9_245 rfl rfl (by decide) rfl rfl (Nat.le_of_ble_eq_true rfl) (by omega) (by omega) ?_
        refine x_iload rfl rfl rfl ?_
        refine x_if_ne rfl rfl (fun _ => ?_) (fun hc6 => absurd hc6 (by decide +kernel))
        refine x_lload rfl rfl rfl ?_
        refine x_lstore rfl rfl rfl rfl ?_
        refine x_iload rfl rfl rfl ?_
        refine x_iconstN (b := 1) rfl rfl ?_
        refine x_icmpN_ne (by omega) (by omega) rfl rfl (fun hc7 => absurd hc7 (by omega)) (fun hc7 => ?_)
        refine x_lload rfl rfl rfl ?_
        refine x_goto rfl rfl ?_
        refine x_lstore rfl rfl rfl rfl ?_
        refine x_iload rfl rfl rfl ?_
        refine x_iconstN (b := 2) rfl rfl ?_
        refine x_icmpN_ne (by omega) (by omega) rfl rfl (fun hc8 => ?_) (fun hc8 => absurd hc8 (by omega))
        refine x_lload rfl rfl rfl ?_
        refine x_lstore rfl rfl rfl rfl ?_
        refine x_iincN (a := 1) (b := 1) rfl rfl rfl rfl rfl ?_
        refine x_goto rfl rfl ?_
        refine x_iload rfl rfl rfl ?_
        refine x_iload rfl rfl rfl ?_
        refine x_icmpN_ge (by omega) (by omega) rfl rfl (fun hc9 => ?_) (fun hc9 => ?_)
        · refine x_aload_n rfl rfl rfl ?_
          refine x_callVi (d2 := 0) (c_mgoesF hG (f := s0.1) (by first | rfl | simp [ui, ul]) (by omega)) rfl rfl v_9_238 rfl rfl (by decide) rfl rfl (Nat.le_of_ble_eq_true rfl) (by omega) (by omega) ?_
          refine x_if_ne rfl rfl (fun hc10 => absurd hc10 (by decide +kernel)) (fun _ => ?_)
          refine x_iconst (v := -1) rfl rfl (by decide +kernel) ?_
          exact q_flI (f := s0.1) (by rw [if_pos (Or.inl hc3)]; rfl) (hS1.ui (by unfold onMT; simp)) (by first | rfl | simp [ui, ul]) (by omega) rfl rfl rfl
        · refine x_aload_n rfl rfl rfl ?_
          refine x_callVi (d2 := 0) (c_mgoesF hG (f := s0.1) (by first | rfl | simp [ui, ul]) (by omega)) rfl rfl v_9_238 rfl rfl (by decide) rfl rfl (Nat.le_of_ble_eq_true rfl) (by omega) (by omega) ?_
          refine x_if_eq rfl rfl (fun _ => ?_) (fun hc11 => absurd hc11 (by decide +kernel))
          refine x_aload_n rfl rfl rfl ?_
          refine x_callVi (d2 := 0) (c_mgoesF hG (f := s0.1) (by first | rfl | simp [ui, ul]) (by omega)) rfl rfl v_9_238 rfl rfl (by decide) rfl rfl (Nat.le_of_ble_eq_true rfl) (by omega) (by omega) ?_
          refine x_if_ne rfl rfl (fun hc12 => absurd hc12 (by decide +kernel)) (fun _ => ?_)
          refine x_iconst (v := -1) rfl rfl (by decide +kernel) ?_
          exact q_flI (f := s0.1) (by rw [if_pos (Or.inl hc3)]; rfl) (hS1.ui (by unfold onMT; simp)) (by first | rfl | simp [ui, ul]) (by omega) rfl rfl rfl
      · refine x_iload rfl rfl rfl ?_
        refine x_if_le rfl rfl (fun hc13 => absurd hc13 (by decide +kernel)) (fun _ => ?_)
        refine x_lload rfl rfl rfl ?_
        refine x_lload rfl rfl rfl ?_
        refine x_lc_eq rfl rfl rfl rfl (fun hc14 => ?_) (fun hc14 => ?_)
        · refine x_iconstN (b := 1) rfl rfl ?_
          refine x_goto rfl rfl ?_
          refine x_istore rfl rfl rfl rfl ?_
          refine x_aload_n rfl rfl rfl ?_
          refine x_callVi (d2 := 0) (c_mgoesT hG hw1.1.2.1) rfl rfl v_9_238 rfl rfl (by decide) rfl rfl (Nat.le_of_ble_eq_true rfl) (by omega) (by omega) ?_
          refine x_if_eq rfl rfl (fun hc15 => absurd hc15 (by decide +kernel)) (fun _ => ?_)
          refine x_iload rfl rfl rfl ?_
          refine x_if_eq rfl rfl (fun hc16 => absurd hc16 (by decide +kernel)) (fun _ => ?_)
          refine x_aload_n rfl rfl rfl ?_
          refine x_iload_n rfl rfl rfl ?_
          refine x_callVv (d2 := 0) (c_mstopT hG (nI (s0.1)) hw1.1.2.1) rfl rfl v_9_245 rfl rfl (by decide) rfl rfl (Nat.le_of_ble_eq_true rfl) (by omega) (by omega) ?_
          refine x_iload rfl rfl rfl ?_
          refine x_if_ne rfl rfl (fun _ => ?_) (fun hc17 => absurd hc17 (by decide +kernel))
          refine x_lload rfl rfl rfl ?_
          refine x_lstore rfl rfl rfl rfl ?_
          refine x_iload rfl rfl rfl ?_
          refine x_iconstN (b := 1) rfl rfl ?_
          refine x_icmpN_ne (by omega) (by omega) rfl rfl (fun hc18 => absurd hc18 (by omega)) (fun hc18 => ?_)
          refine x_lload rfl rfl rfl ?_
          refine x_goto rfl rfl ?_
          refine x_lstore rfl rfl rfl rfl ?_
          refine x_iload rfl rfl rfl ?_
          refine x_iconstN (b := 2) rfl rfl ?_
          refine x_icmpN_ne (by omega) (by omega) rfl rfl (fun hc19 => ?_) (fun hc19 => absurd hc19 (by omega))
          refine x_lload rfl rfl rfl ?_
          refine x_lstore rfl rfl rfl rfl ?_
          refine x_iincN (a := 1) (b := 1) rfl rfl rfl rfl rfl ?_
          refine x_goto rfl rfl ?_
          refine x_iload rfl rfl rfl ?_
          refine x_iload rfl rfl rfl ?_
          refine x_icmpN_ge (by omega) (by omega) rfl rfl (fun hc20 => ?_) (fun hc20 => ?_)
          · refine x_aload_n rfl rfl rfl ?_
            refine x_callVi (d2 := 0) (c_mgoesF hG (f := s0.1) (by first | rfl | simp [ui, ul]) (by omega)) rfl rfl v_9_238 rfl rfl (by decide) rfl rfl (Nat.le_of_ble_eq_true rfl) (by omega) (by omega) ?_
            refine x_if_ne rfl rfl (fun hc21 => absurd hc21 (by decide +kernel)) (fun _ => ?_)
            refine x_iconst (v := -1) rfl rfl (by decide +kernel) ?_
            exact q_flI (f := s0.1) (by rw [if_pos (Or.inr (by rw [hc14]; simp))]; rfl) (hS1.ui (by unfold onMT; simp)) (by first | rfl | simp [ui, ul]) (by omega) rfl rfl rfl
          · refine x_aload_n rfl rfl rfl ?_
            refine x_callVi (d2 := 0) (c_mgoesF hG (f := s0.1) (by first | rfl | simp [ui, ul]) (by omega)) rfl rfl v_9_238 rfl rfl (by decide) rfl rfl (Nat.le_of_ble_eq_true rfl) (by omega) (by omega) ?_
            refine x_if_eq rfl rfl (fun _ => ?_) (fun hc22 => absurd hc22 (by decide +kernel))
            refine x_aload_n rfl rfl rfl ?_
            refine x_callVi (d2 := 0) (c_mgoesF hG (f := s0.1) (by first | rfl | simp [ui, ul]) (by omega)) rfl rfl v_9_238 rfl rfl (by decide) rfl rfl (Nat.le_of_ble_eq_true rfl) (by omega) (by omega) ?_
            refine x_if_ne rfl rfl (fun hc23 => absurd hc23 (by decide +kernel)) (fun _ => ?_)
            refine x_iconst (v := -1) rfl rfl (by decide +kernel) ?_
            exact q_flI (f := s0.1) (by rw [if_pos (Or.inr (by rw [hc14]; simp))]; rfl) (hS1.ui (by unfold onMT; simp)) (by first | rfl | simp [ui, ul]) (by omega) rfl rfl rfl
        · refine x_iload rfl rfl rfl ?_
          refine x_iconstN (b := 1) rfl rfl ?_
          refine x_icmpN_le (by omega) (by omega) rfl rfl (fun hc24 => ?_) (fun hc24 => absurd hc24 (by omega))
          refine x_iconstN (b := 0) rfl rfl ?_
          refine x_istore rfl rfl rfl rfl ?_
          refine x_aload_n rfl rfl rfl ?_
          refine x_callVi (d2 := 0) (c_mgoesT hG hw1.1.2.1) rfl rfl v_9_238 rfl rfl (by decide) rfl rfl (Nat.le_of_ble_eq_true rfl) (by omega) (by omega) ?_
          refine x_if_eq rfl rfl (fun hc25 => absurd hc25 (by decide +kernel)) (fun _ => ?_)
          refine x_iload rfl rfl rfl ?_
          refine x_if_eq rfl rfl (fun _ => ?_) (fun hc26 => absurd hc26 (by decide +kernel))
          refine x_iload rfl rfl rfl ?_
          refine x_if_ne rfl rfl (fun _ => ?_) (fun hc27 => absurd hc27 (by decide +kernel))
          refine x_lload rfl rfl rfl ?_
          refine x_lstore rfl rfl rfl rfl ?_
          refine x_iload rfl rfl rfl ?_
          refine x_iconstN (b := 1) rfl rfl ?_
          refine x_icmpN_ne (by omega) (by omega) rfl rfl (fun hc28 => absurd hc28 (by omega)) (fun hc28 => ?_)
          refine x_lload rfl rfl rfl ?_
          refine x_goto rfl rfl ?_
          refine x_lstore rfl rfl rfl rfl ?_
          refine x_iload rfl rfl rfl ?_
          refine x_iconstN (b := 2) rfl rfl ?_
          refine x_icmpN_ne (by omega) (by omega) rfl rfl (fun hc29 => ?_) (fun hc29 => absurd hc29 (by omega))
          refine x_lload rfl rfl rfl ?_
          refine x_lstore rfl rfl rfl rfl ?_
          refine x_iincN (a := 1) (b := 1) rfl rfl rfl rfl rfl ?_
          refine x_goto rfl rfl ?_
          have hno : ¬ (b1 = 0 ∨ b1 ∈ ([a] : List Int64)) := by
            rintro (z | z)
            · exact hc3 z
            · exact hc14 (List.mem_singleton.mp z)
          rw [if_neg hno]
          refine x_pick [0, 1, 2, 4, 5, 6, 7, 8, 9] rfl ?_
          exact l_tm2 hG hd hnn n (by omega) hm3 hw1 (RL_2 hz1 hRL) hS1 (hz1.trans h9) hnm (nd_push hnd (fun z => hno (Or.inr z))) (all_push hac ⟨hx1, fun z => hno (Or.inl z)⟩) hnp
    · refine x_lstore rfl rfl rfl rfl ?_
      refine x_lload rfl rfl rfl ?_
      refine x_lconst (v := 0) rfl rfl (by decide +kernel) ?_
      refine x_lc_eq rfl rfl rfl rfl (fun hc30 => ?_) (fun hc30 => ?_)
      · refine x_iconstN (b := 1) rfl rfl ?_
        refine x_goto rfl rfl ?_
        refine x_istore rfl rfl rfl rfl ?_
        refine x_aload_n rfl rfl rfl ?_
        refine x_callVi (d2 := 0) (c_mgoesF hG (f := f1) hf1 (by omega)) rfl rfl v_9_238 rfl rfl (by decide) rfl rfl (Nat.le_of_ble_eq_true rfl) (by omega) (by omega) ?_
        refine x_if_eq rfl rfl (fun _ => ?_) (fun hc31 => absurd hc31 (by decide +kernel))
        refine x_iload rfl rfl rfl ?_
        refine x_if_ne rfl rfl (fun _ => ?_) (fun hc32 => absurd hc32 (by decide +kernel))
        refine x_lload rfl rfl rfl ?_
        refine x_lstore rfl rfl rfl rfl ?_
        refine x_iload rfl rfl rfl ?_
        refine x_iconstN (b := 1) rfl rfl ?_
        refine x_icmpN_ne (by omega) (by omega) rfl rfl (fun hc33 => absurd hc33 (by omega)) (fun hc33 => ?_)
        refine x_lload rfl rfl rfl ?_
        refine x_goto rfl rfl ?_
        refine x_lstore rfl rfl rfl rfl ?_
        refine x_iload rfl rfl rfl ?_
        refine x_iconstN (b := 2) rfl rfl ?_
        refine x_icmpN_ne (by omega) (by omega) rfl rfl (fun hc34 => ?_) (fun hc34 => absurd hc34 (by omega))
        refine x_lload rfl rfl rfl ?_
        refine x_lstore rfl rfl rfl rfl ?_
        refine x_iincN (a := 1) (b := 1) rfl rfl rfl rfl rfl ?_
        refine x_goto rfl rfl ?_
        refine x_iload rfl rfl rfl ?_
        refine x_iload rfl rfl rfl ?_
        refine x_icmpN_ge (by omega) (by omega) rfl rfl (fun hc35 => ?_) (fun hc35 => ?_)
        · refine x_aload_n rfl rfl rfl ?_
          refine x_callVi (d2 := 0) (c_mgoesF hG (f := f1) hf1 (by omega)) rfl rfl v_9_238 rfl rfl (by decide) rfl rfl (Nat.le_of_ble_eq_true rfl) (by omega) (by omega) ?_
          refine x_if_ne rfl rfl (fun hc36 => absurd hc36 (by decide +kernel)) (fun _ => ?_)
          refine x_iconst (v := -1) rfl rfl (by decide +kernel) ?_
          exact q_flI (f := f1) (rfl) hS1 hf1 (by omega) rfl rfl rfl
        · refine x_aload_n rfl rfl rfl ?_
          refine x_callVi (d2 := 0) (c_mgoesF hG (f := f1) hf1 (by omega)) rfl rfl v_9_238 rfl rfl (by decide) rfl rfl (Nat.le_of_ble_eq_true rfl) (by omega) (by omega) ?_
          refine x_if_eq rfl rfl (fun _ => ?_) (fun hc37 => absurd hc37 (by decide +kernel))
          refine x_aload_n rfl rfl rfl ?_
          refine x_callVi (d2 := 0) (c_mgoesF hG (f := f1) hf1 (by omega)) rfl rfl v_9_238 rfl rfl (by decide) rfl rfl (Nat.le_of_ble_eq_true rfl) (by omega) (by omega) ?_
          refine x_if_ne rfl rfl (fun hc38 => absurd hc38 (by decide +kernel)) (fun _ => ?_)
          refine x_iconst (v := -1) rfl rfl (by decide +kernel) ?_
          exact q_flI (f := f1) (rfl) hS1 hf1 (by omega) rfl rfl rfl
      · refine x_iload rfl rfl rfl ?_
        refine x_if_le rfl rfl (fun hc39 => absurd hc39 (by decide +kernel)) (fun _ => ?_)
        refine x_lload rfl rfl rfl ?_
        refine x_lload rfl rfl rfl ?_
        refine x_lc_eq rfl rfl rfl rfl (fun hc40 => ?_) (fun hc40 => ?_)
        · refine x_iconstN (b := 1) rfl rfl ?_
          refine x_goto rfl rfl ?_
          refine x_istore rfl rfl rfl rfl ?_
          refine x_aload_n rfl rfl rfl ?_
          refine x_callVi (d2 := 0) (c_mgoesF hG (f := f1) hf1 (by omega)) rfl rfl v_9_238 rfl rfl (by decide) rfl rfl (Nat.le_of_ble_eq_true rfl) (by omega) (by omega) ?_
          refine x_if_eq rfl rfl (fun _ => ?_) (fun hc41 => absurd hc41 (by decide +kernel))
          refine x_iload rfl rfl rfl ?_
          refine x_if_ne rfl rfl (fun _ => ?_) (fun hc42 => absurd hc42 (by decide +kernel))
          refine x_lload rfl rfl rfl ?_
          refine x_lstore rfl rfl rfl rfl ?_
          refine x_iload rfl rfl rfl ?_
          refine x_iconstN (b := 1) rfl rfl ?_
          refine x_icmpN_ne (by omega) (by omega) rfl rfl (fun hc43 => absurd hc43 (by omega)) (fun hc43 => ?_)
          refine x_lload rfl rfl rfl ?_
          refine x_goto rfl rfl ?_
          refine x_lstore rfl rfl rfl rfl ?_
          refine x_iload rfl rfl rfl ?_
          refine x_iconstN (b := 2) rfl rfl ?_
          refine x_icmpN_ne (by omega) (by omega) rfl rfl (fun hc44 => ?_) (fun hc44 => absurd hc44 (by omega))
          refine x_lload rfl rfl rfl ?_
          refine x_lstore rfl rfl rfl rfl ?_
          refine x_iincN (a := 1) (b := 1) rfl rfl rfl rfl rfl ?_
          refine x_goto rfl rfl ?_
          refine x_iload rfl rfl rfl ?_
          refine x_iload rfl rfl rfl ?_
          refine x_icmpN_ge (by omega) (by omega) rfl rfl (fun hc45 => ?_) (fun hc45 => ?_)
          · refine x_aload_n rfl rfl rfl ?_
            refine x_callVi (d2 := 0) (c_mgoesF hG (f := f1) hf1 (by omega)) rfl rfl v_9_238 rfl rfl (by decide) rfl rfl (Nat.le_of_ble_eq_true rfl) (by omega) (by omega) ?_
            refine x_if_ne rfl rfl (fun hc46 => absurd hc46 (by decide +kernel)) (fun _ => ?_)
            refine x_iconst (v := -1) rfl rfl (by decide +kernel) ?_
            exact q_flI (f := f1) (rfl) hS1 hf1 (by omega) rfl rfl rfl
          · refine x_aload_n rfl rfl rfl ?_
            refine x_callVi (d2 := 0) (c_mgoesF hG (f := f1) hf1 (by omega)) rfl rfl v_9_238 rfl rfl (by decide) rfl rfl (Nat.le_of_ble_eq_true rfl) (by omega) (by omega) ?_
            refine x_if_eq rfl rfl (fun _ => ?_) (fun hc47 => absurd hc47 (by decide +kernel))
            refine x_aload_n rfl rfl rfl ?_
            refine x_callVi (d2 := 0) (c_mgoesF hG (f := f1) hf1 (by omega)) rfl rfl v_9_238 rfl rfl (by decide) rfl rfl (Nat.le_of_ble_eq_true rfl) (by omega) (by omega) ?_
            refine x_if_ne rfl rfl (fun hc48 => absurd hc48 (by decide +kernel)) (fun _ => ?_)
            refine x_iconst (v := -1) rfl rfl (by decide +kernel) ?_
            exact q_flI (f := f1) (rfl) hS1 hf1 (by omega) rfl rfl rfl
        · refine x_iload rfl rfl rfl ?_
          refine x_iconstN (b := 1) rfl rfl ?_
          refine x_icmpN_le (by omega) (by omega) rfl rfl (fun hc49 => ?_) (fun hc49 => absurd hc49 (by omega))
          refine x_iconstN (b := 0) rfl rfl ?_
          refine x_istore rfl rfl rfl rfl ?_
          refine x_aload_n rfl rfl rfl ?_
          refine x_callVi (d2 := 0) (c_mgoesF hG (f := f1) hf1 (by omega)) rfl rfl v_9_238 rfl rfl (by decide) rfl rfl (Nat.le_of_ble_eq_true rfl) (by omega) (by omega) ?_
          refine x_if_eq rfl rfl (fun _ => ?_) (fun hc50 => absurd hc50 (by decide +kernel))
          refine x_iload rfl rfl rfl ?_
          refine x_if_ne rfl rfl (fun _ => ?_) (fun hc51 => absurd hc51 (by decide +kernel))
          refine x_lload rfl rfl rfl ?_
          refine x_lstore rfl rfl rfl rfl ?_
          refine x_iload rfl rfl rfl ?_
          refine x_iconstN (b := 1) rfl rfl ?_
          refine x_icmpN_ne (by omega) (by omega) rfl rfl (fun hc52 => absurd hc52 (by omega)) (fun hc52 => ?_)
          refine x_lload rfl rfl rfl ?_
          refine x_goto rfl rfl ?_
          refine x_lstore rfl rfl rfl rfl ?_
          refine x_iload rfl rfl rfl ?_
          refine x_iconstN (b := 2) rfl rfl ?_
          refine x_icmpN_ne (by omega) (by omega) rfl rfl (fun hc53 => ?_) (fun hc53 => absurd hc53 (by omega))
          refine x_lload rfl rfl rfl ?_
          refine x_lstore rfl rfl rfl rfl ?_
          refine x_iincN (a := 1) (b := 1) rfl rfl rfl rfl rfl ?_
          refine x_goto rfl rfl ?_
          refine x_iload rfl rfl rfl ?_
          refine x_iload rfl rfl rfl ?_
          refine x_icmpN_ge (by omega) (by omega) rfl rfl (fun hc54 => ?_) (fun hc54 => ?_)
          · refine x_aload_n rfl rfl rfl ?_
            refine x_callVi (d2 := 0) (c_mgoesF hG (f := f1) hf1 (by omega)) rfl rfl v_9_238 rfl rfl (by decide) rfl rfl (Nat.le_of_ble_eq_true rfl) (by omega) (by omega) ?_
            refine x_if_ne rfl rfl (fun hc55 => absurd hc55 (by decide +kernel)) (fun _ => ?_)
            refine x_iconst (v := -1) rfl rfl (by decide +kernel) ?_
            exact q_flI (f := f1) (rfl) hS1 hf1 (by omega) rfl rfl rfl
          · refine x_aload_n rfl rfl rfl ?_
            refine x_callVi (d2 := 0) (c_mgoesF hG (f := f1) hf1 (by omega)) rfl rfl v_9_238 rfl rfl (by decide) rfl rfl (Nat.le_of_ble_eq_true rfl) (by omega) (by omega) ?_
            refine x_if_eq rfl rfl (fun _ => ?_) (fun hc56 => absurd hc56 (by decide +kernel))
            refine x_aload_n rfl rfl rfl ?_
            refine x_callVi (d2 := 0) (c_mgoesF hG (f := f1) hf1 (by omega)) rfl rfl v_9_238 rfl rfl (by decide) rfl rfl (Nat.le_of_ble_eq_true rfl) (by omega) (by omega) ?_
            refine x_if_ne rfl rfl (fun hc57 => absurd hc57 (by decide +kernel)) (fun _ => ?_)
            refine x_iconst (v := -1) rfl rfl (by decide +kernel) ?_
            exact q_flI (f := f1) (rfl) hS1 hf1 (by omega) rfl rfl rfl
set_option maxHeartbeats 4000000 in
theorem l_tm0 (hG : Gok G) (hd : 5 ≤ d) {row : List Nat} {al : List Int64} {nn np m : Nat} {nm : Int64} {s9 s0 : RS} {M9 : Mm} (hnn : nn < 536870912) (n : Nat) (hm : 0 + n = m) (hm3 : m ≤ 3) (hw0 : RdM row al s0 M) (hRL : (pR s0).length < (pL s0).length) (hS0 : EqF (onMT s9) M9 M) (h9 : s0.2.2 = s9.2.2) (hnm : isTx nm) (hnd : ([] : List Int64).Nodup) (hac : ∀ e ∈ ([] : List Int64), isTx e ∧ ¬ e = 0) (hnp : np ≤ 600) : FQ G mX9_takeTraits d M9 (onMT s9) (fun _ => RdM row al) vInt (rb (rMem row n [] s0) fun z => keepT np (nm, decide (nn / 8 % 2 = 1), z.1) z.2) 50 [(0, .ref (ga G (40, 0))), (1, .int (nI nn)), (2, .int (nI np)), (4, .long (nm)), (6, .int (nI m)), (7, .long (0)), (9, .long (0)), (11, .long (0)), (13, .int (nI 0))] [] M := by
  have hL6 := hw0.2.2.2.2.2.2.1
  have hA0 := hw0.2.1.1
  cases n with
  | zero =>
    show FQ G mX9_takeTraits d M9 (onMT s9) _ vInt (keepT np (nm, decide (nn / 8 % 2 = 1), []) s0) 50 _ [] M
    refine x_iload rfl rfl rfl ?_
    refine x_iload rfl rfl rfl ?_
    refine x_icmpN_ge (by omega) (by omega) rfl rfl (fun hc1 => ?_) (fun hc1 => absurd hc1 (by omega))
    exact l_tf (acc := []) hG (by omega) hnn (by simp; omega) hw0 hRL hS0 h9 ⟨hnm, by simp [rM], hnd, hac⟩ rfl rfl rfl hnp
  | succ n =>
    rw [show rMem row (n + 1) [] s0 = rb (rStr row s0) (fun q => if q.1 = 0 ∨ q.1 ∈ ([] : List Int64) then .inl s0.1 else rMem row n ([] ++ [q.1]) q.2) from rfl, rb_assoc]
    refine x_iload rfl rfl rfl ?_
    refine x_iload rfl rfl rfl ?_
    refine x_icmpN_ge (by omega) (by omega) rfl rfl (fun hc1 => absurd hc1 (by omega)) (fun hc1 => ?_)
    refine x_aload_n rfl rfl rfl ?_
    refine x_callVi (d2 := 0) (c_mgoesT hG hw0.1.2.1) rfl rfl v_9_238 rfl rfl (by decide) rfl rfl (Nat.le_of_ble_eq_true rfl) (by omega) (by omega) ?_
    refine x_if_eq rfl rfl (fun hc2 => absurd hc2 (by decide +kernel)) (fun _ => ?_)
    refine x_aload_n rfl rfl rfl ?_
    refine x_getIv (v := nI (s0.1)) hw0.1.1 rfl rfl f_9_242 rfl (by decide) rfl ?_
    refine x_istore_n rfl rfl rfl rfl ?_
    refine x_aload_n rfl rfl rfl ?_
    refine q_call (d2 := 4) (c_mtakeString hG (Nat.le_refl 4) hw0) hS0 (fun _ _ z => onMTA z) rfl rfl v_9_267 rfl rfl (by decide) rfl rfl (Nat.le_of_ble_eq_true rfl) (by omega) (fun b1 s1 M1 e1 hq1 hE1 hS1 => ?_) (fun f1 b1 M1 e1 hf1 hl1 hS1 => ?_)
    · have hw1 := hq1
      have hz1 := (rStr_2 e1).1
      have hx1 := rStr_tx (fun t h => (hw0.2.1.2.2 t h).1) e1
      dsimp only
      refine x_lstore rfl rfl rfl rfl ?_
      refine x_lload rfl rfl rfl ?_
      refine x_lconst (v := 0) rfl rfl (by decide +kernel) ?_
      refine x_lc_eq rfl rfl rfl rfl (fun hc3 => ?_) (fun hc3 => ?_)
      · refine x_iconstN (b := 1) rfl rfl ?_
        refine x_goto rfl rfl ?_
        refine x_istore rfl rfl rfl rfl ?_
        refine x_aload_n rfl rfl rfl ?_
        refine x_callVi (d2 := 0) (c_mgoesT hG hw1.1.2.1) rfl rfl v_9_238 rfl rfl (by decide) rfl rfl (Nat.le_of_ble_eq_true rfl) (by omega) (by omega) ?_
        refine x_if_eq rfl rfl (fun hc4 => absurd hc4 (by decide +kernel)) (fun _ => ?_)
        refine x_iload rfl rfl rfl ?_
        refine x_if_eq rfl rfl (fun hc5 => absurd hc5 (by decide +kernel)) (fun _ => ?_)
        refine x_aload_n rfl rfl rfl ?_
        refine x_iload_n rfl rfl rfl ?_
        refine x_callVv (d2 := 0) (c_mstopT hG (nI (s0.1)) hw1.1.2.1) rfl rfl v_9_245 rfl rfl (by decide) rfl rfl (Nat.le_of_ble_eq_true rfl) (by omega) (by omega) ?_
        refine x_iload rfl rfl rfl ?_
        refine x_if_ne rfl rfl (fun hc6 => absurd hc6 (by decide +kernel)) (fun _ => ?_)
        refine x_lload rfl rfl rfl ?_
        refine x_goto rfl rfl ?_
        refine x_lstore rfl rfl rfl rfl ?_
        refine x_iload rfl rfl rfl ?_
        refine x_iconstN (b := 1) rfl rfl ?_
        refine x_icmpN_ne (by omega) (by omega) rfl rfl (fun hc7 => ?_) (fun hc7 => absurd hc7 (by omega))
        refine x_lload rfl rfl rfl ?_
        refine x_lstore rfl rfl rfl rfl ?_
        refine x_iload rfl rfl rfl ?_
        refine x_iconstN (b := 2) rfl rfl ?_
        refine x_icmpN_ne (by omega) (by omega) rfl rfl (fun hc8 => ?_) (fun hc8 => absurd hc8 (by omega))
        refine x_lload rfl rfl rfl ?_
        refine x_lstore rfl rfl rfl rfl ?_
        refine x_iincN (a := 0) (b := 1) rfl rfl rfl rfl rfl ?_
        refine x_goto rfl rfl ?_
        refine x_iload rfl rfl rfl ?_
        refine x_iload rfl rfl rfl ?_
        refine x_icmpN_ge (by omega) (by omega) rfl rfl (fun hc9 => ?_) (fun hc9 => ?_)
        · refine x_aload_n rfl rfl rfl ?_
          refine x_callVi (d2 := 0) (c_mgoesF hG (f := s0.1) (by first | rfl | simp [ui, ul]) (by omega)) rfl rfl v_9_238 rfl rfl (by decide) rfl rfl (Nat.le_of_ble_eq_true rfl) (by omega) (by omega) ?_
          refine x_if_ne rfl rfl (fun hc10 => absurd hc10 (by decide +kernel)) (fun _ => ?_)
          refine x_iconst (v := -1) rfl rfl (by decide +kernel) ?_
          exact q_flI (f := s0.1) (by rw [if_pos (Or.inl hc3)]; rfl) (hS1.ui (by unfold onMT; simp)) (by first | rfl | simp [ui, ul]) (by omega) rfl rfl rfl
        · refine x_aload_n rfl rfl rfl ?_
          refine x_callVi (d2 := 0) (c_mgoesF hG (f := s0.1) (by first | rfl | simp [ui, ul]) (by omega)) rfl rfl v_9_238 rfl rfl (by decide) rfl rfl (Nat.le_of_ble_eq_true rfl) (by omega) (by omega) ?_
          refine x_if_eq rfl rfl (fun _ => ?_) (fun hc11 => absurd hc11 (by decide +kernel))
          refine x_aload_n rfl rfl rfl ?_
          refine x_callVi (d2 := 0) (c_mgoesF hG (f := s0.1) (by first | rfl | simp [ui, ul]) (by omega)) rfl rfl v_9_238 rfl rfl (by decide) rfl rfl (Nat.le_of_ble_eq_true rfl) (by omega) (by omega) ?_
          refine x_if_ne rfl rfl (fun hc12 => absurd hc12 (by decide +kernel)) (fun _ => ?_)
          refine x_iconst (v := -1) rfl rfl (by decide +kernel) ?_
          exact q_flI (f := s0.1) (by rw [if_pos (Or.inl hc3)]; rfl) (hS1.ui (by unfold onMT; simp)) (by first | rfl | simp [ui, ul]) (by omega) rfl rfl rfl
      · refine x_iload rfl rfl rfl ?_
        refine x_if_le rfl rfl (fun _ => ?_) (fun hc13 => absurd hc13 (by decide +kernel))
        refine x_iload rfl rfl rfl ?_
        refine x_iconstN (b := 1) rfl rfl ?_
        refine x_icmpN_le (by omega) (by omega) rfl rfl (fun hc14 => ?_) (fun hc14 => absurd hc14 (by omega))
        refine x_iconstN (b := 0) rfl rfl ?_
        refine x_istore rfl rfl rfl rfl ?_
        refine x_aload_n rfl rfl rfl ?_
        refine x_callVi (d2 := 0) (c_mgoesT hG hw1.1.2.1) rfl rfl v_9_238 rfl rfl (by decide) rfl rfl (Nat.le_of_ble_eq_true rfl) (by omega) (by omega) ?_
        refine x_if_eq rfl rfl (fun hc15 => absurd hc15 (by decide +kernel)) (fun _ => ?_)
        refine x_iload rfl rfl rfl ?_
        refine x_if_eq rfl rfl (fun _ => ?_) (fun hc16 => absurd hc16 (by decide +kernel))
        refine x_iload rfl rfl rfl ?_
        refine x_if_ne rfl rfl (fun hc17 => absurd hc17 (by decide +kernel)) (fun _ => ?_)
        refine x_lload rfl rfl rfl ?_
        refine x_goto rfl rfl ?_
        refine x_lstore rfl rfl rfl rfl ?_
        refine x_iload rfl rfl rfl ?_
        refine x_iconstN (b := 1) rfl rfl ?_
        refine x_icmpN_ne (by omega) (by omega) rfl rfl (fun hc18 => ?_) (fun hc18 => absurd hc18 (by omega))
        refine x_lload rfl rfl rfl ?_
        refine x_lstore rfl rfl rfl rfl ?_
        refine x_iload rfl rfl rfl ?_
        refine x_iconstN (b := 2) rfl rfl ?_
        refine x_icmpN_ne (by omega) (by omega) rfl rfl (fun hc19 => ?_) (fun hc19 => absurd hc19 (by omega))
        refine x_lload rfl rfl rfl ?_
        refine x_lstore rfl rfl rfl rfl ?_
        refine x_iincN (a := 0) (b := 1) rfl rfl rfl rfl rfl ?_
        refine x_goto rfl rfl ?_
        have hno : ¬ (b1 = 0 ∨ b1 ∈ ([] : List Int64)) := by
          rintro (z | z)
          · exact hc3 z
          · cases z
        rw [if_neg hno]
        refine x_pick [0, 1, 2, 4, 5, 6, 7, 8, 9] rfl ?_
        exact l_tm1 hG hd hnn n (by omega) hm3 hw1 (RL_2 hz1 hRL) hS1 (hz1.trans h9) hnm (nd_push hnd (fun z => hno (Or.inr z))) (all_push hac ⟨hx1, fun z => hno (Or.inl z)⟩) hnp
    · refine x_lstore rfl rfl rfl rfl ?_
      refine x_lload rfl rfl rfl ?_
      refine x_lconst (v := 0) rfl rfl (by decide +kernel) ?_
      refine x_lc_eq rfl rfl rfl rfl (fun hc20 => ?_) (fun hc20 => ?_)
      · refine x_iconstN (b := 1) rfl rfl ?_
        refine x_goto rfl rfl ?_
        refine x_istore rfl rfl rfl rfl ?_
        refine x_aload_n rfl rfl rfl ?_
        refine x_callVi (d2 := 0) (c_mgoesF hG (f := f1) hf1 (by omega)) rfl rfl v_9_238 rfl rfl (by decide) rfl rfl (Nat.le_of_ble_eq_true rfl) (by omega) (by omega) ?_
        refine x_if_eq rfl rfl (fun _ => ?_) (fun hc21 => absurd hc21 (by decide +kernel))
        refine x_iload rfl rfl rfl ?_
        refine x_if_ne rfl rfl (fun hc22 => absurd hc22 (by decide +kernel)) (fun _ => ?_)
        refine x_lload rfl rfl rfl ?_
        refine x_goto rfl rfl ?_
        refine x_lstore rfl rfl rfl rfl ?_
        refine x_iload rfl rfl rfl ?_
        refine x_iconstN (b := 1) rfl rfl ?_
        refine x_icmpN_ne (by omega) (by omega) rfl rfl (fun hc23 => ?_) (fun hc23 => absurd hc23 (by omega))
        refine x_lload rfl rfl rfl ?_
        refine x_lstore rfl rfl rfl rfl ?_
        refine x_iload rfl rfl rfl ?_
        refine x_iconstN (b := 2) rfl rfl ?_
        refine x_icmpN_ne (by omega) (by omega) rfl rfl (fun hc24 => ?_) (fun hc24 => absurd hc24 (by omega))
        refine x_lload rfl rfl rfl ?_
        refine x_lstore rfl rfl rfl rfl ?_
        refine x_iincN (a := 0) (b := 1) rfl rfl rfl rfl rfl ?_
        refine x_goto rfl rfl ?_
        refine x_iload rfl rfl rfl ?_
        refine x_iload rfl rfl rfl ?_
        refine x_icmpN_ge (by omega) (by omega) rfl rfl (fun hc25 => ?_) (fun hc25 => ?_)
        · refine x_aload_n rfl rfl rfl ?_
          refine x_callVi (d2 := 0) (c_mgoesF hG (f := f1) hf1 (by omega)) rfl rfl v_9_238 rfl rfl (by decide) rfl rfl (Nat.le_of_ble_eq_true rfl) (by omega) (by omega) ?_
          refine x_if_ne rfl rfl (fun hc26 => absurd hc26 (by decide +kernel)) (fun _ => ?_)
          refine x_iconst (v := -1) rfl rfl (by decide +kernel) ?_
          exact q_flI (f := f1) (rfl) hS1 hf1 (by omega) rfl rfl rfl
        · refine x_aload_n rfl rfl rfl ?_
          refine x_callVi (d2 := 0) (c_mgoesF hG (f := f1) hf1 (by omega)) rfl rfl v_9_238 rfl rfl (by decide) rfl rfl (Nat.le_of_ble_eq_true rfl) (by omega) (by omega) ?_
          refine x_if_eq rfl rfl (fun _ => ?_) (fun hc27 => absurd hc27 (by decide +kernel))
          refine x_aload_n rfl rfl rfl ?_
          refine x_callVi (d2 := 0) (c_mgoesF hG (f := f1) hf1 (by omega)) rfl rfl v_9_238 rfl rfl (by decide) rfl rfl (Nat.le_of_ble_eq_true rfl) (by omega) (by omega) ?_
          refine x_if_ne rfl rfl (fun hc28 => absurd hc28 (by decide +kernel)) (fun _ => ?_)
          refine x_iconst (v := -1) rfl rfl (by decide +kernel) ?_
          exact q_flI (f := f1) (rfl) hS1 hf1 (by omega) rfl rfl rfl
      · refine x_iload rfl rfl rfl ?_
        refine x_if_le rfl rfl (fun _ => ?_) (fun hc29 => absurd hc29 (by decide +kernel))
        refine x_iload rfl rfl rfl ?_
        refine x_iconstN (b := 1) rfl rfl ?_
        refine x_icmpN_le (by omega) (by omega) rfl rfl (fun hc30 => ?_) (fun hc30 => absurd hc30 (by omega))
        refine x_iconstN (b := 0) rfl rfl ?_
        refine x_istore rfl rfl rfl rfl ?_
        refine x_aload_n rfl rfl rfl ?_
        refine x_callVi (d2 := 0) (c_mgoesF hG (f := f1) hf1 (by omega)) rfl rfl v_9_238 rfl rfl (by decide) rfl rfl (Nat.le_of_ble_eq_true rfl) (by omega) (by omega) ?_
        refine x_if_eq rfl rfl (fun _ => ?_) (fun hc31 => absurd hc31 (by decide +kernel))
        refine x_iload rfl rfl rfl ?_
        refine x_if_ne rfl rfl (fun hc32 => absurd hc32 (by decide +kernel)) (fun _ => ?_)
        refine x_lload rfl rfl rfl ?_
        refine x_goto rfl rfl ?_
        refine x_lstore rfl rfl rfl rfl ?_
        refine x_iload rfl rfl rfl ?_
        refine x_iconstN (b := 1) rfl rfl ?_
        refine x_icmpN_ne (by omega) (by omega) rfl rfl (fun hc33 => ?_) (fun hc33 => absurd hc33 (by omega))
        refine x_lload rfl rfl rfl ?_
        refine x_lstore rfl rfl rfl rfl ?_
        refine x_iload rfl rfl rfl ?_
        refine x_iconstN (b := 2) rfl rfl ?_
        refine x_icmpN_ne (by omega) (by omega) rfl rfl (fun hc34 => ?_) (fun hc34 => absurd hc34 (by omega))
        refine x_lload rfl rfl rfl ?_
        refine x_lstore rfl rfl rfl rfl ?_
        refine x_iincN (a := 0) (b := 1) rfl rfl rfl rfl rfl ?_
        refine x_goto rfl rfl ?_
        refine x_iload rfl rfl rfl ?_
        refine x_iload rfl rfl rfl ?_
        refine x_icmpN_ge (by omega) (by omega) rfl rfl (fun hc35 => ?_) (fun hc35 => ?_)
        · refine x_aload_n rfl rfl rfl ?_
          refine x_callVi (d2 := 0) (c_mgoesF hG (f := f1) hf1 (by omega)) rfl rfl v_9_238 rfl rfl (by decide) rfl rfl (Nat.le_of_ble_eq_true rfl) (by omega) (by omega) ?_
          refine x_if_ne rfl rfl (fun hc36 => absurd hc36 (by decide +kernel)) (fun _ => ?_)
          refine x_iconst (v := -1) rfl rfl (by decide +kernel) ?_
          exact q_flI (f := f1) (rfl) hS1 hf1 (by omega) rfl rfl rfl
        · refine x_aload_n rfl rfl rfl ?_
          refine x_callVi (d2 := 0) (c_mgoesF hG (f := f1) hf1 (by omega)) rfl rfl v_9_238 rfl rfl (by decide) rfl rfl (Nat.le_of_ble_eq_true rfl) (by omega) (by omega) ?_
          refine x_if_eq rfl rfl (fun _ => ?_) (fun hc37 => absurd hc37 (by decide +kernel))
          refine x_aload_n rfl rfl rfl ?_
          refine x_callVi (d2 := 0) (c_mgoesF hG (f := f1) hf1 (by omega)) rfl rfl v_9_238 rfl rfl (by decide) rfl rfl (Nat.le_of_ble_eq_true rfl) (by omega) (by omega) ?_
          refine x_if_ne rfl rfl (fun hc38 => absurd hc38 (by decide +kernel)) (fun _ => ?_)
          refine x_iconst (v := -1) rfl rfl (by decide +kernel) ?_
          exact q_flI (f := f1) (rfl) hS1 hf1 (by omega) rfl rfl rfl
set_option maxHeartbeats 4000000 in
set_option maxRecDepth 20000 in
theorem c_mtakeTraits (hG : Gok G) (hd : 5 ≤ d) {row : List Nat} {al : List Int64} {s0 : RS} (hw0 : RdM row al s0 M) (hRL : (pR s0).length < (pL s0).length) {nn np : Nat} (hnn : nn < 536870912) (hnp : np ≤ 600) (h1 : ¬ nn % 4 = 1) (h2 : ¬ (nn % 8 = 7 ∨ 3 < nn / 16)) : CQ G mX9_takeTraits d [.ref (ga G (40, 0)), .int (nI nn), .int (nI np)] M (onMT s0) (fun _ => RdM row al) vInt (rTr row al nn np s0) := by
  have hS0 : EqF (onMT s0) M M := EqF.rf
  have hA0 := hw0.2.1.1
  have hL6 := hw0.2.2.2.2.2.2.1
  rw [rTr_m h1 h2]
  refine q_of hG okX9_takeTraits (by decide +kernel) rfl (Nat.le_of_ble_eq_true rfl) ?_
  refine x_aload_n rfl rfl rfl ?_
  refine x_getIv (v := nI (s0.1)) hw0.1.1 rfl rfl f_9_242 rfl (by decide) rfl ?_
  refine x_istore_n rfl rfl rfl rfl ?_
  refine x_aload_n rfl rfl rfl ?_
  refine q_call (d2 := 4) (c_mtakeString hG (Nat.le_refl 4) hw0) hS0 (fun _ _ z => onMTA z) rfl rfl v_9_267 rfl rfl (by decide) rfl rfl (Nat.le_of_ble_eq_true rfl) (by omega) (fun b1 s1 M1 e1 hq1 hE1 hS1 => ?_) (fun f1 b1 M1 e1 hf1 hl1 hS1 => ?_)
  · have hw1 := hq1
    have hz1 := (rStr_2 e1).1
    have hx1 := rStr_tx (fun t h => (hw0.2.1.2.2 t h).1) e1
    dsimp only
    refine x_lstore rfl rfl rfl rfl ?_
    refine x_aload_n rfl rfl rfl ?_
    refine x_callVi (d2 := 0) (c_mgoesT hG hw1.1.2.1) rfl rfl v_9_238 rfl rfl (by decide) rfl rfl (Nat.le_of_ble_eq_true rfl) (by omega) (by omega) ?_
    refine x_if_eq rfl rfl (fun hc1 => absurd hc1 (by decide +kernel)) (fun _ => ?_)
    refine x_aload_n rfl rfl rfl ?_
    refine x_lload rfl rfl rfl ?_
    refine x_callVi (d2 := 0) (c_misAllowed hG b1 (by have := hw1.2.2.2.2.2.2.2.2.2.2; omega) hw1.2.2.2.2.2.2.2.2.1) rfl rfl v_9_173 rfl rfl (by decide) rfl rfl (Nat.le_of_ble_eq_true rfl) (by omega) (by omega) ?_
    refine x_topI (v := bI (b1 ∈ 0 :: al)) (bI_iff (by have z := LI_ex (e := b1) hw1.2.2.2.2.2.2.2.2.2.1; rw [List.length_cons] at z; exact z)) ?_
    refine x_ifB_ne rfl rfl (fun hc2 => ?_) (fun hc2 => ?_)
    · refine x_iload_n rfl rfl rfl ?_
      refine x_bipush (v := nI 16) rfl rfl (by decide +kernel) ?_
      refine x_idivN (a := nn) (b := 16) (by omega) (by omega) (by omega) rfl rfl ?_
      refine x_istore rfl rfl rfl rfl ?_
      refine x_lconst (v := 0) rfl rfl (by decide +kernel) ?_
      refine x_lstore rfl rfl rfl rfl ?_
      refine x_lconst (v := 0) rfl rfl (by decide +kernel) ?_
      refine x_lstore rfl rfl rfl rfl ?_
      refine x_lconst (v := 0) rfl rfl (by decide +kernel) ?_
      refine x_lstore rfl rfl rfl rfl ?_
      refine x_iconstN (b := 0) rfl rfl ?_
      refine x_istore rfl rfl rfl rfl ?_
      rw [if_neg (fun z => (List.mem_cons.mp hc2).elim z.1 z.2)]
      refine x_pick [0, 1, 2, 4, 5, 6, 7, 8, 9] rfl ?_
      exact l_tm0 hG (by omega) hnn _ (Nat.zero_add _) (by omega) hw1 (RL_2 hz1 hRL) hS1 hz1 hx1 List.nodup_nil (fun e he => by cases he) hnp
    · refine x_aload_n rfl rfl rfl ?_
      refine x_iload_n rfl rfl rfl ?_
      refine x_callVv (d2 := 0) (c_mstopT hG (nI (s0.1)) hw1.1.2.1) rfl rfl v_9_245 rfl rfl (by decide) rfl rfl (Nat.le_of_ble_eq_true rfl) (by omega) (by omega) ?_
      refine x_iload_n rfl rfl rfl ?_
      refine x_bipush (v := nI 16) rfl rfl (by decide +kernel) ?_
      refine x_idivN (a := nn) (b := 16) (by omega) (by omega) (by omega) rfl rfl ?_
      refine x_istore rfl rfl rfl rfl ?_
      refine x_lconst (v := 0) rfl rfl (by decide +kernel) ?_
      refine x_lstore rfl rfl rfl rfl ?_
      refine x_lconst (v := 0) rfl rfl (by decide +kernel) ?_
      refine x_lstore rfl rfl rfl rfl ?_
      refine x_lconst (v := 0) rfl rfl (by decide +kernel) ?_
      refine x_lstore rfl rfl rfl rfl ?_
      refine x_iconstN (b := 0) rfl rfl ?_
      refine x_istore rfl rfl rfl rfl ?_
      refine x_iload rfl rfl rfl ?_
      refine x_iload rfl rfl rfl ?_
      refine x_icmpN_ge (by omega) (by omega) rfl rfl (fun hc3 => ?_) (fun hc3 => ?_)
      · refine x_aload_n rfl rfl rfl ?_
        refine x_callVi (d2 := 0) (c_mgoesF hG (f := s0.1) (by first | rfl | simp [ui, ul]) (by omega)) rfl rfl v_9_238 rfl rfl (by decide) rfl rfl (Nat.le_of_ble_eq_true rfl) (by omega) (by omega) ?_
        refine x_if_ne rfl rfl (fun hc4 => absurd hc4 (by decide +kernel)) (fun _ => ?_)
        refine x_iconst (v := -1) rfl rfl (by decide +kernel) ?_
        exact q_flI (f := s0.1) (if_pos ⟨fun z => hc2 (by rw [z]; exact List.mem_cons_self), fun z => hc2 (List.mem_cons_of_mem _ z)⟩) (hS1.ui (by unfold onMT; simp)) (by first | rfl | simp [ui, ul]) (by omega) rfl rfl rfl
      · refine x_aload_n rfl rfl rfl ?_
        refine x_callVi (d2 := 0) (c_mgoesF hG (f := s0.1) (by first | rfl | simp [ui, ul]) (by omega)) rfl rfl v_9_238 rfl rfl (by decide) rfl rfl (Nat.le_of_ble_eq_true rfl) (by omega) (by omega) ?_
        refine x_if_eq rfl rfl (fun _ => ?_) (fun hc5 => absurd hc5 (by decide +kernel))
        refine x_aload_n rfl rfl rfl ?_
        refine x_callVi (d2 := 0) (c_mgoesF hG (f := s0.1) (by first | rfl | simp [ui, ul]) (by omega)) rfl rfl v_9_238 rfl rfl (by decide) rfl rfl (Nat.le_of_ble_eq_true rfl) (by omega) (by omega) ?_
        refine x_if_ne rfl rfl (fun hc6 => absurd hc6 (by decide +kernel)) (fun _ => ?_)
        refine x_iconst (v := -1) rfl rfl (by decide +kernel) ?_
        exact q_flI (f := s0.1) (if_pos ⟨fun z => hc2 (by rw [z]; exact List.mem_cons_self), fun z => hc2 (List.mem_cons_of_mem _ z)⟩) (hS1.ui (by unfold onMT; simp)) (by first | rfl | simp [ui, ul]) (by omega) rfl rfl rfl
  · refine x_lstore rfl rfl rfl rfl ?_
    refine x_aload_n rfl rfl rfl ?_
    refine x_callVi (d2 := 0) (c_mgoesF hG (f := f1) hf1 (by omega)) rfl rfl v_9_238 rfl rfl (by decide) rfl rfl (Nat.le_of_ble_eq_true rfl) (by omega) (by omega) ?_
    refine x_if_eq rfl rfl (fun _ => ?_) (fun hc7 => absurd hc7 (by decide +kernel))
    refine x_iload_n rfl rfl rfl ?_
    refine x_bipush (v := nI 16) rfl rfl (by decide +kernel) ?_
    refine x_idivN (a := nn) (b := 16) (by omega) (by omega) (by omega) rfl rfl ?_
    refine x_istore rfl rfl rfl rfl ?_
    refine x_lconst (v := 0) rfl rfl (by decide +kernel) ?_
    refine x_lstore rfl rfl rfl rfl ?_
    refine x_lconst (v := 0) rfl rfl (by decide +kernel) ?_
    refine x_lstore rfl rfl rfl rfl ?_
    refine x_lconst (v := 0) rfl rfl (by decide +kernel) ?_
    refine x_lstore rfl rfl rfl rfl ?_
    refine x_iconstN (b := 0) rfl rfl ?_
    refine x_istore rfl rfl rfl rfl ?_
    refine x_iload rfl rfl rfl ?_
    refine x_iload rfl rfl rfl ?_
    refine x_icmpN_ge (by omega) (by omega) rfl rfl (fun hc8 => ?_) (fun hc8 => ?_)
    · refine x_aload_n rfl rfl rfl ?_
      refine x_callVi (d2 := 0) (c_mgoesF hG (f := f1) hf1 (by omega)) rfl rfl v_9_238 rfl rfl (by decide) rfl rfl (Nat.le_of_ble_eq_true rfl) (by omega) (by omega) ?_
      refine x_if_ne rfl rfl (fun hc9 => absurd hc9 (by decide +kernel)) (fun _ => ?_)
      refine x_iconst (v := -1) rfl rfl (by decide +kernel) ?_
      exact q_flI (f := f1) (rfl) hS1 hf1 (by omega) rfl rfl rfl
    · refine x_aload_n rfl rfl rfl ?_
      refine x_callVi (d2 := 0) (c_mgoesF hG (f := f1) hf1 (by omega)) rfl rfl v_9_238 rfl rfl (by decide) rfl rfl (Nat.le_of_ble_eq_true rfl) (by omega) (by omega) ?_
      refine x_if_eq rfl rfl (fun _ => ?_) (fun hc10 => absurd hc10 (by decide +kernel))
      refine x_aload_n rfl rfl rfl ?_
      refine x_callVi (d2 := 0) (c_mgoesF hG (f := f1) hf1 (by omega)) rfl rfl v_9_238 rfl rfl (by decide) rfl rfl (Nat.le_of_ble_eq_true rfl) (by omega) (by omega) ?_
      refine x_if_ne rfl rfl (fun hc11 => absurd hc11 (by decide +kernel)) (fun _ => ?_)
      refine x_iconst (v := -1) rfl rfl (by decide +kernel) ?_
      exact q_flI (f := f1) (rfl) hS1 hf1 (by omega) rfl rfl rfl
end N2
