theorem rLetF_2 {row : List Nat} : ∀ {n i : Nat} {t t1 : Int64} {w w1 : Bool} {s s1 : RS}, rLetF row n i t w s = .inr ((t1, w1), s1) → s1.2 = s.2 ∧ s.1 ≤ s1.1
  | 0, i, t, t1, w, w1, s, s1, h => by cases h; exact ⟨rfl, Nat.le_refl _⟩
  | n + 1, i, t, t1, w, w1, s, s1, h => by
    unfold rLetF at h
    cases hb : rByte row s with
    | inl e => rw [hb] at h; cases h
    | inr q =>
      rw [hb] at h
      have hq2 := (rByte_inr (b := q.1) (s1 := q.2) hb).1
      have := rLetF_2 (show rLetF row n (i + 1) (orL t q.1 i) (wrg w q.1) q.2 = .inr ((t1, w1), s1) from h)
      rw [hq2] at this
      exact ⟨this.1, by have := this.2; simp only at this; omega⟩
theorem rLetF_tx {row : List Nat} : ∀ {n i : Nat} {t t1 : Int64} {w w1 : Bool} {s s1 : RS}, i + n ≤ 7 → (¬ w = true → txI i t) → rLetF row n i t w s = .inr ((t1, w1), s1) → ¬ w1 = true → txI (i + n) t1
  | 0, i, t, t1, w, w1, s, s1, hi, hI, h, hw => by cases h; exact hI hw
  | n + 1, i, t, t1, w, w1, s, s1, hi, hI, h, hw => by
    unfold rLetF at h
    cases hb : rByte row s with
    | inl e => rw [hb] at h; cases h
    | inr q =>
      rw [hb] at h
      have := rLetF_tx (n := n) (i := i + 1) (by omega) (fun hz => by
        have h1 : ¬ w = true := fun z => hz (wrg_t (Or.inl z))
        have h2 : ¬ q.1 = 0 := fun z => hz (wrg_t (Or.inr (Or.inl z)))
        have h3 : ¬ 126 < q.1 := fun z => hz (wrg_t (Or.inr (Or.inr z)))
        exact txI_s (hI h1) (by omega) (by omega) (by omega)) (show rLetF row n (i + 1) (orL t q.1 i) (wrg w q.1) q.2 = .inr ((t1, w1), s1) from h) hw
      rw [show i + (n + 1) = i + 1 + n by omega]
      exact this
theorem addX_2 (t : Int64) (s : RS) : (addX t s).2.2 = s.2.2 ∧ (addX t s).1 = s.1 := by unfold addX; split <;> exact ⟨rfl, rfl⟩
theorem rStr_2 {row : List Nat} {s s1 : RS} {t : Int64} (h : rStr row s = .inr (t, s1)) : s1.2.2 = s.2.2 ∧ s.1 + 1 ≤ s1.1 := by
  unfold rStr at h
  cases hn : rNum row s with
  | inl e => rw [hn] at h; cases h
  | inr q =>
    rw [hn] at h
    have hq := rNumF_2 (n := q.1) (s1 := q.2) hn
    have h2 : rStr1 row s.1 q.1 q.2 = .inr (t, s1) := h
    by_cases h0 : q.1 % 2 = 0
    · rw [rStr1_e h0] at h2
      unfold rKT at h2
      cases hj : (pX q.2)[q.1 / 2]? with
      | none => rw [hj] at h2; cases h2
      | some t2 => rw [hj] at h2; cases h2; exact ⟨by rw [hq.1], hq.2⟩
    · by_cases h7 : 7 < q.1 / 2
      · rw [rStr1_l h0 h7] at h2; cases h2
      · rw [rStr1_o h0 h7] at h2
        cases hl : rLetF row (q.1 / 2) 0 0 false q.2 with
        | inl e => rw [hl] at h2; cases h2
        | inr z =>
          rw [hl] at h2
          obtain ⟨⟨t2, w2⟩, s2⟩ := z
          have hz := rLetF_2 hl
          dsimp only [rb] at h2
          cases w2 with
          | true => simp at h2
          | false =>
            simp at h2
            obtain ⟨-, rfl⟩ := h2
            exact ⟨by rw [(addX_2 _ _).1, hz.1, hq.1], by rw [(addX_2 _ _).2]; have := hz.2; have := hq.2; omega⟩
theorem rStr_tx {row : List Nat} {s s1 : RS} {t : Int64} (hX : ∀ t ∈ pX s, isTx t) (h : rStr row s = .inr (t, s1)) : isTx t := by
  unfold rStr at h
  cases hn : rNum row s with
  | inl e => rw [hn] at h; cases h
  | inr q =>
    rw [hn] at h
    have hq := rNumF_2 (n := q.1) (s1 := q.2) hn
    have h2 : rStr1 row s.1 q.1 q.2 = .inr (t, s1) := h
    by_cases h0 : q.1 % 2 = 0
    · rw [rStr1_e h0] at h2
      unfold rKT at h2
      cases hj : (pX q.2)[q.1 / 2]? with
      | none => rw [hj] at h2; cases h2
      | some t2 =>
        rw [hj] at h2; cases h2
        have e : pX q.2 = pX s := congrArg Prod.fst hq.1
        exact hX _ (e ▸ at_mem hj)
    · by_cases h7 : 7 < q.1 / 2
      · rw [rStr1_l h0 h7] at h2; cases h2
      · rw [rStr1_o h0 h7] at h2
        cases hl : rLetF row (q.1 / 2) 0 0 false q.2 with
        | inl e => rw [hl] at h2; cases h2
        | inr z =>
          rw [hl] at h2
          obtain ⟨⟨t2, w2⟩, s2⟩ := z
          have hz := rLetF_tx (by omega) (fun _ => txI_0) hl
          dsimp only [rb] at h2
          cases w2 with
          | true => simp at h2
          | false =>
            simp at h2
            obtain ⟨rfl, -⟩ := h2
            exact txI_tx (hz (by simp)) (by omega)
theorem fx_has {f : Nat → Int64} {l : List Int64} {e : Int64} (h : LI f l) : fx f e 0 l.length ≠ none ↔ e ∈ l := by
  constructor
  · intro hn
    cases hq : fx f e 0 l.length with
    | none => exact absurd hq hn
    | some p =>
      have hp := fx_lt hq
      have h2 : ∀ (n i : Nat), fx f e i n = some p → f p = e := by
        intro n
        induction n with
        | zero => intro i h9; cases h9
        | succ n ih =>
          intro i h9
          unfold fx at h9
          by_cases hf : f i = e
          · rw [if_pos hf] at h9; cases h9; exact hf
          · rw [if_neg hf] at h9; exact ih _ h9
      have h3 := h2 _ _ hq
      rw [h.at (by omega)] at h3
      exact h3 ▸ getD_mem (by omega)
  · intro hm hn
    obtain ⟨k, hk, e1⟩ := List.mem_iff_getElem.mp hm
    exact fx_none hn k (Nat.zero_le _) (by omega) (by rw [h.at hk, List.getElem?_eq_getElem hk]; exact e1)
theorem bI_inj {P Q : Prop} (h : bI P = bI Q) : P ↔ Q := by
  by_cases hp : P
  · by_cases hq : Q
    · exact ⟨fun _ => hq, fun _ => hp⟩
    · rw [bI_t hp, bI_f hq] at h; exact absurd h (by decide +kernel)
  · by_cases hq : Q
    · rw [bI_f hp, bI_t hq] at h; exact absurd h (by decide +kernel)
    · exact ⟨fun z => absurd z hp, fun z => absurd z hq⟩
theorem LI_eq {f g : Nat → Int64} {l m : List Int64} (hf : LI f l) (hg : LI g m) : (l.length = m.length ∧ ∀ k, k < l.length → f k = g k) ↔ l = m := by
  constructor
  · rintro ⟨h1, h2⟩
    apply List.ext_getElem h1
    intro k hk hk2
    have := h2 k hk
    rw [hf k _ (List.getElem?_eq_getElem hk), hg k _ (List.getElem?_eq_getElem hk2)] at this
    exact this
  · rintro rfl
    refine ⟨rfl, fun k hk => ?_⟩
    rw [hf k _ (List.getElem?_eq_getElem hk), hg k _ (List.getElem?_eq_getElem hk)]
/-- traits of the class are alike where they are the same -/
theorem cTr_alk {x y : Tr} {M : Mm} {a b : Nat} (hx : cTr x M a) (hy : cTr y M b) : alk M a b (rM x).length (rM y).length ↔ x = y := by
  obtain ⟨nx, dx, mx⟩ := x
  obtain ⟨ny, dy, my⟩ := y
  unfold alk
  rw [hx.1, hy.1, hx.2.1, hy.2.1]
  have h3 := LI_eq hx.2.2.1.2 hy.2.2.1.2
  constructor
  · rintro ⟨h1, h2, h4⟩
    have e3 := h3.mp h4
    have e2 := bI_inj h2
    cases h1
    cases e3
    cases dx <;> cases dy <;> simp_all [rD]
  · rintro h
    cases h
    exact ⟨rfl, rfl, h3.mpr rfl⟩
theorem fp_congr {P Q : Nat → Prop} : ∀ {n i : Nat}, (∀ k, i ≤ k → k < i + n → (P k ↔ Q k)) → fp P i n = fp Q i n
  | 0, i, h => rfl
  | n + 1, i, h => by
    by_cases hp : P i
    · rw [fp_t hp, fp_t ((h i (Nat.le_refl _) (by omega)).mp hp)]
    · rw [fp_f hp, fp_f (fun z => hp ((h i (Nat.le_refl _) (by omega)).mpr z))]
      exact fp_congr fun k h1 h2 => h k (by omega) (by omega)
theorem fp_le {P : Nat → Prop} : ∀ {n i : Nat}, i ≤ fp P i n ∧ fp P i n ≤ i + n
  | 0, i => ⟨Nat.le_refl _, Nat.le_refl _⟩
  | n + 1, i => by
    by_cases hp : P i
    · rw [fp_t hp]; omega
    · rw [fp_f hp]; have := fp_le (P := P) (n := n) (i := i + 1); omega
theorem tpos_le (l : List Tr) (x : Tr) : tpos l x ≤ l.length := by have := (fp_le (P := fun i => l[i]? = some x) (n := l.length) (i := 0)).2; unfold tpos; omega
theorem fp_hit {P : Nat → Prop} : ∀ {n i : Nat}, fp P i n < i + n → P (fp P i n)
  | 0, i, h => absurd h (by show ¬ i < i; omega)
  | n + 1, i, h => by
    by_cases hp : P i
    · rw [fp_t hp]; exact hp
    · rw [fp_f hp] at h ⊢; exact fp_hit (by omega)
theorem tpos_at {l : List Tr} {x : Tr} (h : tpos l x < l.length) : l[tpos l x]? = some x := fp_hit (P := fun i => l[i]? = some x) (by unfold tpos at h; omega)
section R3
variable {G : Gd} {d : Nat} {M : Mm}
set_option maxHeartbeats 4000000 in
set_option maxRecDepth 20000 in
theorem c_readInteger (hG : Gok G) (hd : 8 ≤ d) {row : List Nat} {al : List Int64} {s0 : RS} (hw0 : RdC row al s0 M) : CR G mX2_readInteger d [.ref (ga G (27, 0))] M onA (RdC row al) vLng (rInt row s0) := by
  have hS0 : EqF onA M M := EqF.rf
  have hA0 := hw0.2.1.1
  have hL6 := hw0.2.2.2.2.2.2.1
  unfold rInt
  refine r_of hG okX2_readInteger (by decide +kernel) rfl (Nat.le_of_ble_eq_true rfl) ?_
  refine x_aload_n rfl rfl rfl ?_
  refine r_callV (d2 := 7) (c_readNumber hG (by omega) hw0 ) hS0 (fun _ _ z => z) rfl rfl v_2_91 rfl rfl (by decide) rfl rfl (Nat.le_of_ble_eq_true rfl) (by omega) (fun b1 s1 M1 e1 hw1 hE1 hS1 => ?_)
  have hn1 := rNum_lt hw1.2.2.2.2.2.2.2.1 e1
  refine x_istore_n rfl rfl rfl rfl ?_
  refine x_iconstN (b := 4) rfl rfl ?_
  refine x_iload_n rfl rfl rfl ?_
  refine x_ldc (v := 268435456) rfl rfl k_2_94 ?_
  refine x_topI (v := nI 268435456) (by decide +kernel) ?_
  refine x_icmpN_ge (by omega) (by omega) rfl rfl (fun hc1 => ?_) (fun hc1 => ?_)
  · refine x_iload_n rfl rfl rfl ?_
    refine x_ldc (v := 536870912) rfl rfl k_2_95 ?_
    refine x_topI (v := nI 536870912) (by decide +kernel) ?_
    refine x_isub rfl rfl ?_
    refine x_i2l rfl rfl ?_
    refine x_topL (v := (if b1 < 268435456 then nI b1 else nI b1 - nI 536870912).toInt64) (by rw [if_neg (by omega)]) ?_
    refine x_callSl (d2 := 0) (c_valueOf hG (nI 4) ((if b1 < 268435456 then nI b1 else nI b1 - nI 536870912).toInt64)) rfl rfl s_2_80 rfl rfl (Nat.le_of_ble_eq_true rfl) (by omega) (by omega) ?_
    refine x_topL (v := 16 * ((if b1 < 268435456 then nI b1 else nI b1 - nI 536870912).toInt64) + 4) (by rw [show (nI 4).toInt64 = 4 by decide +kernel]) ?_
    exact r_retL rfl hS1 hw1 rfl rfl rfl
  · refine x_iload_n rfl rfl rfl ?_
    refine x_i2l rfl rfl ?_
    refine x_topL (v := (if b1 < 268435456 then nI b1 else nI b1 - nI 536870912).toInt64) (by rw [if_pos (by omega)]) ?_
    refine x_goto rfl rfl ?_
    refine x_callSl (d2 := 0) (c_valueOf hG (nI 4) ((if b1 < 268435456 then nI b1 else nI b1 - nI 536870912).toInt64)) rfl rfl s_2_80 rfl rfl (Nat.le_of_ble_eq_true rfl) (by omega) (by omega) ?_
    refine x_topL (v := 16 * ((if b1 < 268435456 then nI b1 else nI b1 - nI 536870912).toInt64) + 4) (by rw [show (nI 4).toInt64 = 4 by decide +kernel]) ?_
    exact r_retL rfl hS1 hw1 rfl rfl rfl
theorem RdC.eqD {row : List Nat} {al : List Int64} {s s1 : RS} {M M1 : Mm} (h : RdC row al s M) (he : EqF (fun k _ => ¬ (27 ≤ k.1 ∧ k.1 ≤ 33) ∧ k.1 ≠ 2 ∧ ¬ (5 ≤ k.1 ∧ k.1 ≤ 14)) M M1) (ha : RdA s1 M1) (hb : RdB row s1) (hk : RdK s1 M1) (hi : RdI s1) : RdC row al s1 M1 :=
  ⟨ha, hb, hk, hi, h.2.2.2.2.eq he (fun r h1 h2 j => by simp; omega)⟩
theorem RdC.aW {row : List Nat} {al : List Int64} {s : RS} {M : Mm} {v : Int64} (h : RdC row al s M) (hl : (pW s).length < 40) : RdC row al (addW v s) (ui (ul M (2, 0) (pW s).length v) (27, 0) 6 (nI ((pW s).length + 1))) := by
  have hS : EqF (fun k j => k.1 ≠ 2 ∧ (k.1 = 27 → j ≠ 6)) M (ui (ul M (2, 0) (pW s).length v) (27, 0) 6 (nI ((pW s).length + 1))) := (EqF.rf.ul (by simp)).ui (by simp)
  obtain ⟨⟨a1, a2⟩, hb, ⟨k1, k2, k3, k4, k5, k6, k7, k8⟩, ⟨i1, i2⟩, hw⟩ := id h
  refine h.eqD (hS.sub fun k j z => ⟨z.2.1, fun e => by omega⟩) ⟨(hS _ _ (by simp)).1.trans a1, a2.eqF hS (by simp) (fun j => by simp)⟩ hb ⟨k1.eqF hS (by simp) (fun j => by simp), k2.eqF hS (by simp) (fun j => by simp), ?_, ?_, (hS _ _ (by simp)).1.trans k5, fun t x hx => (k6 t x hx).eqF hS (fun r h1 h2 j => by simp; omega), (hS _ _ (by simp)).1.trans k7, fun j x hx => (hS _ _ (by simp)).1.trans (k8 j x hx)⟩ ⟨?_, i2⟩
  · simp [ui, addW, pW]
  · show LI _ (pW s ++ [v])
    exact k4.push (fun k hk => by have hne : k ≠ (pW s).length := Nat.ne_of_lt hk; simp [ui, ul, hne]) (by simp [ui, ul])
  · show (pW s ++ [v]).length ≤ 40
    simp; omega
set_option maxHeartbeats 4000000 in
set_option maxRecDepth 20000 in
theorem c_readWideX (hG : Gok G) (hd : 8 ≤ d) {row : List Nat} {al : List Int64} {s0 : RS} (hw0 : RdC row al s0 M) {kp : Nat} (hW : (pW s0).length = 40) : CR G mX2_readWide d [.ref (ga G (27, 0)), .int (nI kp)] M (onD s0) (RdC row al) vLng (rWide row kp s0) := by
  have hS0 : EqF (onD s0) M M := EqF.rf
  have hA0 := hw0.2.1.1
  have hL6 := hw0.2.2.2.2.2.2.1
  obtain ⟨i1, i2, i3, i4, i5, i6, i7, i8, i9⟩ := id hw0.2.2.2.1
  refine r_of hG okX2_readWide (by decide +kernel) rfl (Nat.le_of_ble_eq_true rfl) ?_
  refine x_aload_n rfl rfl rfl ?_
  refine x_getIv (v := nI ((pW s0).length)) hw0.2.2.1.2.2.1 rfl rfl f_2_49 rfl (by decide) rfl ?_
  refine x_bipush (v := nI 40) rfl rfl (by decide +kernel) ?_
  refine x_icmpN_ne (by omega) (by omega) rfl rfl (fun hc1 => absurd hc1 (by omega)) (fun hc1 => ?_)
  refine x_aload_n rfl rfl rfl ?_
  refine x_iload_n rfl rfl rfl ?_
  exact r_stop (f := kp) (if_pos hW) (c_stopAt hG (Nat.le_refl 6) _) (hS0.fo.ui (by simp [fq])) (by simp [ui]) rfl rfl v_2_88 rfl rfl (by decide) rfl rfl (Nat.le_of_ble_eq_true rfl) (by omega)
set_option maxHeartbeats 4000000 in
set_option maxRecDepth 20000 in
theorem c_readWideO (hG : Gok G) (hd : 8 ≤ d) {row : List Nat} {al : List Int64} {s0 : RS} (hw0 : RdC row al s0 M) {kp : Nat} (hW : ¬ (pW s0).length = 40) : CR G mX2_readWide d [.ref (ga G (27, 0)), .int (nI kp)] M (onD s0) (RdC row al) vLng (rWide row kp s0) := by
  have hS0 : EqF (onD s0) M M := EqF.rf
  have hA0 := hw0.2.1.1
  have hL6 := hw0.2.2.2.2.2.2.1
  obtain ⟨i1, i2, i3, i4, i5, i6, i7, i8, i9⟩ := id hw0.2.2.2.1
  unfold rWide
  rw [if_neg hW]
  refine r_of hG okX2_readWide (by decide +kernel) rfl (Nat.le_of_ble_eq_true rfl) ?_
  refine x_aload_n rfl rfl rfl ?_
  refine x_getIv (v := nI ((pW s0).length)) hw0.2.2.1.2.2.1 rfl rfl f_2_49 rfl (by decide) rfl ?_
  refine x_bipush (v := nI 40) rfl rfl (by decide +kernel) ?_
  refine x_icmpN_ne (by omega) (by omega) rfl rfl (fun hc1 => ?_) (fun hc1 => absurd hc1 (by omega))
  refine x_aload_n rfl rfl rfl ?_
  refine x_getR0 rfl rfl f_2_30 rfl (by decide) rfl rfl ?_
  refine x_getR0 rfl rfl f_2_96 rfl (by decide) rfl rfl ?_
  refine x_aload_n rfl rfl rfl ?_
  refine x_getIv (v := nI ((pW s0).length)) hw0.2.2.1.2.2.1 rfl rfl f_2_49 rfl (by decide) rfl ?_
  refine x_aload_n rfl rfl rfl ?_
  refine r_callV (d2 := 7) (c_readEight hG (by omega) hw0 ) hS0 (fun k j z => by unfold onD at z; unfold onA; omega) rfl rfl v_2_100 rfl rfl (by decide) rfl rfl (Nat.le_of_ble_eq_true rfl) (by omega) (fun b1 s1 M1 e1 hw1 hE1 hS1 => ?_)
  have hz1 := rEightF_2 e1
  have hpw : pW s1 = pW s0 := by unfold pW; rw [hz1]
  dsimp only
  rw [hpw]
  refine x_last (a := (pW s0).length) rfl rfl rfl (by decide) (by omega) (by decide) ?_
  refine x_aload_n rfl rfl rfl ?_
  refine x_dup rfl rfl rfl ?_
  refine x_getIv (v := nI ((pW s0).length)) (by first | exact (hw1.2.2.1.2.2.1.trans (by rw [hpw])) | (rw [← (hw1.2.2.1.2.2.1.trans (by rw [hpw]))]; rfl) | simp [ui, ul, (hw1.2.2.1.2.2.1.trans (by rw [hpw]))]) rfl rfl f_2_49 rfl (by decide) rfl ?_
  refine x_iconstN (b := 1) rfl rfl ?_
  refine x_iaddN (a := (pW s0).length) (b := 1) rfl rfl ?_
  refine x_putI rfl rfl f_2_49 rfl rfl (by decide) rfl ?_
  refine x_iconstN (b := 5) rfl rfl ?_
  refine x_aload_n rfl rfl rfl ?_
  refine x_getIv (v := nI (((pW s0).length) + 1)) (by first | rfl | simp [ui, ul]) rfl rfl f_2_49 rfl (by decide) rfl ?_
  refine x_iconstN (b := 1) rfl rfl ?_
  refine x_isubN (a := ((pW s0).length) + 1) (b := 1) (by omega) rfl rfl ?_
  refine x_i2lN (a := ((pW s0).length)) (by omega) rfl rfl ?_
  refine x_callSl (d2 := 0) (c_valueOf hG (nI 5) (lN (((pW s0).length)))) rfl rfl s_2_80 rfl rfl (Nat.le_of_ble_eq_true rfl) (by omega) (by omega) ?_
  refine x_topL (v := 16 * (lN (((pW s0).length))) + 5) (by rw [show (nI 5).toInt64 = 5 by decide +kernel]) ?_
  exact r_retL (s := addW b1 s1) rfl ((hS1.ul (by unfold onD; simp)).ui (by unfold onD; simp)) (by have z := hw1.aW (v := b1) (by rw [hpw]; omega); rw [hpw] at z; exact z) rfl rfl rfl
theorem c_readWide (hG : Gok G) (hd : 8 ≤ d) {row : List Nat} {al : List Int64} {s0 : RS} (hw0 : RdC row al s0 M) {kp : Nat} : CR G mX2_readWide d [.ref (ga G (27, 0)), .int (nI kp)] M (onD s0) (RdC row al) vLng (rWide row kp s0) := by
  by_cases h : (pW s0).length = 40
  · exact c_readWideX hG hd hw0 h
  · exact c_readWideO hG hd hw0 h
end R3
