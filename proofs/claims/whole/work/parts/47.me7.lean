/-! the model's loop where it writes -/
def Lh (G : Gd) (d kf : Nat) (Z : Zt) (k : Nat) (v0 : Int64) (M : Mm) : Prop := Fr G mX9_encode d kf Z k 45 [(0, .ref (ga G (40, 0))), (1, .long (v0))] [] M
def Dn (h : Nat) (M0 : Mm) (r : Option WS) (M2 : Mm) : Prop := match r with
  | none => EqF (onS 0) M0 M2 ∧ M2.1 (40, 0) 35 = nI 1
  | some s2 => EqF (onS h) M0 M2 ∧ WrM s2 M2 ∧ M2.1 (40, 0) 28 = nI h ∧ s2.1.length ≤ 600
def DnT (h i a b : Nat) (ov : Prop) (M0 : Mm) (r : Option WS) (M2 : Mm) : Prop := match r with
  | none => EqF (onS 0) M0 M2 ∧ M2.1 (40, 0) 35 = nI 1
  | some s2 => EqF (onS h) M0 M2 ∧ WrM s2 M2 ∧ TopS h i a b ov M2 ∧ s2.1.length ≤ 600
theorem WrM.good {s : WS} {M : Mm} (h : WrM s M) (hs : s.1.length ≤ 600) : M.1 (40, 0) 35 = nI 0 := h.2.2.1.trans (bI_f (by omega))
theorem DnT.to {h i a b : Nat} {ov : Prop} {M M1 : Mm} {r : Option WS} {M2 : Mm} (z : DnT h i a b ov M1 r M2) (he : EqF (onS h) M M1) : DnT h i a b ov M r M2 := by
  cases r with
  | none => exact ⟨(he.ss (Nat.zero_le _)).tr z.1, z.2⟩
  | some s2 => exact ⟨he.tr z.1, z.2⟩
theorem TopS.eq {h i a b : Nat} {ov : Prop} {M M1 : Mm} (z : TopS h i a b ov M) (he : EqF (onS (h + 1)) M M1) (ho : M1.1 (40, 0) 28 = nI (h + 1)) : TopS h i a b ov M1 :=
  ⟨ho, (he _ _ (by simp [onS])).1.trans z.2.1, (he _ _ (by simp [onS])).1.trans z.2.2.1, (he _ _ (by simp [onS])).1.trans z.2.2.2.1, (he _ _ (by simp [onS])).1.trans z.2.2.2.2⟩
theorem vhd_push {A : Ab} {h : Nat} {v : Int64} {s s1 : WS} {i : Nat} (hq : vhd A h v s = some (s1, some i)) : (∃ x, (aH A)[i]? = some x ∧ (tK x = 9 ∨ tK x = 10)) ∧ uN v % 16 = 7 ∧ ¬ h = 12 := by
  unfold vhd at hq
  by_cases h7 : uN v % 16 = 7
  · rw [if_pos h7] at hq
    cases hx : (aH A)[uN (sh4 v)]? with
    | none => rw [hx] at hq; cases hq
    | some x =>
      rw [hx] at hq
      dsimp only at hq
      unfold thd at hq
      cases hl : lfx ((emT [tK x] s).2.2.1.map lN) (lN (uN (sh4 v))) with
      | some p => rw [hl] at hq; cases hq
      | none =>
        rw [hl] at hq
        dsimp only at hq
        by_cases h12 : h = 12
        · rw [if_pos h12] at hq; cases hq
        · rw [if_neg h12] at hq
          by_cases hk : tK x = 9 ∨ tK x = 10
          · rw [if_pos hk] at hq
            cases hq
            exact ⟨⟨x, hx, hk⟩, h7, h12⟩
          · rw [if_neg hk] at hq; cases hq
  · rw [if_neg h7] at hq
    split at hq
    · cases hq
    · split at hq
      · cases hq
      · split at hq <;> cases hq
theorem thd_len {A : Ab} {h : Nat} {x : Th} {i : Nat} {s s1 : WS} {r : Option Nat} (hq : thd A h x i s = some (s1, r)) : s.1.length ≤ s1.1.length := by
  unfold thd at hq
  cases hl : lfx (s.2.2.1.map lN) (lN i) with
  | some p => rw [hl] at hq; cases hq; exact (Lm_bs _).2 s
  | none =>
    rw [hl] at hq
    dsimp only at hq
    by_cases h12 : h = 12
    · rw [if_pos h12] at hq; cases hq
    · rw [if_neg h12] at hq; cases hq; exact hdT_len (A := A) x (addH i s)
theorem vhd_len {A : Ab} {h : Nat} {v : Int64} {s s1 : WS} {r : Option Nat} (hq : vhd A h v s = some (s1, r)) : s.1.length ≤ s1.1.length := by
  unfold vhd at hq
  split at hq
  · split at hq
    · cases hq
    · exact Nat.le_trans ((Lm_bs _).2 s) (thd_len hq)
  · split at hq
    · cases hq; exact ((Lm_bs _).bind (Lm_bs _)).2 s
    · split at hq
      · cases hq; exact ((Lm_bs _).bind (Lm_bs _)).2 s
      · split at hq
        · cases hq; exact ((Lm_bs _).bind (Lm_str _)).2 s
        · cases hq; exact (Lm_bs _).2 s
theorem PH_bad {A : Ab} {h : Nat} {v : Int64} {s : WS} {M M' : Mm} (hl : ¬ s.1.length ≤ 600) (hp : PH A h M (vhd A h v s) M') : EqF (onS 0) M M' ∧ M'.1 (40, 0) 35 = nI 1 := by
  cases hq : vhd A h v s with
  | none => rw [hq] at hp; exact hp
  | some q =>
    obtain ⟨s1, r⟩ := q
    have := vhd_len hq
    rw [hq] at hp
    cases r with
    | none => exact ⟨hp.1.s, hp.2.2.2.1.trans (bI_t (by omega))⟩
    | some i => exact ⟨hp.1.ss (Nat.zero_le _), hp.2.1.2.2.1.trans (bI_t (by omega))⟩
section M7
variable {G : Gd} {d kf k : Nat} {Z : Zt} {v0 : Int64} {M : Mm} {A : Ab}
set_option maxHeartbeats 4000000 in
theorem l_enc_step {h : Nat} {P : Mm → Prop} (hd : 7 ≤ d) (hC : Ce G mX9_goOn 6 [.ref (ga G (40, 0))] M (.inl none) P 0) (ho : M.1 (40, 0) 28 = nI (h + 1)) (hh : h < 12) (hbad : M.1 (40, 0) 35 = nI 0) (kk : ∀ M', P M' → Lh G d kf Z k v0 M') (hk : k ≤ kf) : Lh G d kf Z k v0 M := by
  show Fr G mX9_encode d kf Z k 45 _ [] M
  refine x_aload_n rfl rfl rfl ?_
  refine x_getIv (v := nI (h + 1)) ho rfl rfl f_9_196 rfl (by decide) rfl ?_
  refine x_ifN_le (by omega) rfl rfl (fun hc1 => absurd hc1 (by omega)) (fun hc1 => ?_)
  refine x_aload_n rfl rfl rfl ?_
  refine x_getZv (v := nI 0) hbad rfl rfl f_9_179 rfl (by decide) rfl ?_
  refine x_if_ne rfl rfl (fun hc2 => absurd hc2 (by decide +kernel)) (fun _ => ?_)
  refine x_aload_n rfl rfl rfl ?_
  refine x_callVe (k2 := 0) (d2 := 6) hC rfl rfl v_9_229 rfl rfl (by decide) rfl rfl (Nat.le_of_ble_eq_true rfl) (by omega) (by omega) (fun M9 q9 => ?_)
  refine x_goto rfl rfl ?_
  exact kk M9 q9
def Vst (G : Gd) (A : Ab) (d kf k : Nat) (Z : Zt) (v0 : Int64) (dl h : Nat) : Prop := ∀ (v : Int64), vOK A v → ∀ (s : WS) (M0 : Mm), WrM s M0 → s.1.length ≤ 600 → RM A M0 → M0.1 (40, 0) 28 = nI h → (∀ M2, Dn h M0 (wval A dl v s) M2 → Lh G d kf Z k v0 M2) → ∀ M1, PH A h M0 (vhd A h v s) M1 → Lh G d kf Z k v0 M1
/-- one step into a value: what comes behind it -/
theorem enc_one {dl h i a b : Nat} {ov : Prop} (IH : Vst G A d kf k Z v0 dl (h + 1)) {v : Int64} (hv : vOK A v) {s1 : WS} {M M1 M' : Mm} (hs : s1.1.length ≤ 600) (hR : RM A M1) (he : EqF (onS h) M M1) (hT : TopS h i a b ov M1) (hw : WrM s1 M1) (hp : PH A (h + 1) M1 (vhd A (h + 1) v s1) M')
    (kk : ∀ M2, DnT h i a b ov M (wval A dl v s1) M2 → Lh G d kf Z k v0 M2) : Lh G d kf Z k v0 M' := by
  refine IH v hv s1 M1 hw hs hR hT.1 (fun M2 hD => kk M2 ?_) M' hp
  cases hr : wval A dl v s1 with
  | none =>
    rw [hr] at hD
    exact ⟨(he.ss (Nat.zero_le _)).tr hD.1, hD.2⟩
  | some s2 =>
    rw [hr] at hD
    exact ⟨he.tr (hD.1.ss (Nat.le_succ _)), hD.2.1, hT.eq hD.1 hD.2.2.1, hD.2.2.2⟩
theorem enc_items (hG : Gok G) (hwf : wfA A) (hd : 7 ≤ d) (hk : k ≤ kf) {dl h i b : Nat} {ov : Prop} (hh : h < 12) (IH : Vst G A d kf k Z v0 dl (h + 1)) {x : Th} (hx : (aH A)[i]? = some x) (hkd : (ov ∧ (tK x = 9 ∨ tK x = 10)) ∨ (¬ ov ∧ tK x = 10)) (hbl : b ≤ (tY x).length) :
    ∀ (n a : Nat), a + n = (tL x).length → ∀ (s : WS) (M : Mm), WrM s M → s.1.length ≤ 600 → RM A M → TopS h i a b ov M → (∀ M2, DnT h i (tL x).length b ov M (witem (wval A dl) ((tL x).drop a) s) M2 → Lh G d kf Z k v0 M2) → Lh G d kf Z k v0 M := by
  intro n
  induction n with
  | zero =>
    intro a ha s M hw hs hR hT kk
    refine kk M ?_
    rw [List.drop_eq_nil_of_le (by omega)]
    exact ⟨EqF.rf, hw, (show a = (tL x).length by omega) ▸ hT, hs⟩
  | succ n ih =>
    intro a ha s M hw hs hR hT kk
    have hv := (hwf.2.2.1 _ (at_mem hx)).2.1 _ (getD_mem (l := tL x) (j := a) (by omega))
    have go : ∀ M', (∃ M1, EqF (onS h) M M1 ∧ TopS h i (a + 1) b ov M1 ∧ WrM s M1 ∧ PH A (h + 1) M1 (vhd A (h + 1) ((tL x)[a]?.getD 0) s) M') → Lh G d kf Z k v0 M' := by
      rintro M' ⟨M1, he, hT1, hw1, hp⟩
      refine enc_one IH hv hs (hR.eq he.sr) he hT1 hw1 hp fun M2 hD => ?_
      rw [drop_cons (show a < (tL x).length by omega)] at kk
      cases hr : wval A dl ((tL x)[a]?.getD 0) s with
      | none =>
        rw [hr] at hD
        refine kk M2 ?_
        rw [show witem (wval A dl) (((tL x)[a]?.getD 0) :: (tL x).drop (a + 1)) s = (wval A dl ((tL x)[a]?.getD 0) s).bind (witem (wval A dl) ((tL x).drop (a + 1))) from rfl, hr]
        exact hD
      | some s2 =>
        rw [hr] at hD
        refine ih (a + 1) (by omega) s2 M2 hD.2.1 hD.2.2.2 (hR.eq hD.1.sr) hD.2.2.1 fun M3 hD3 => kk M3 ?_
        rw [show witem (wval A dl) (((tL x)[a]?.getD 0) :: (tL x).drop (a + 1)) s = (wval A dl ((tL x)[a]?.getD 0) s).bind (witem (wval A dl) ((tL x).drop (a + 1))) from rfl, hr]
        exact hD3.to hD.1
    rcases hkd with ⟨hov, hk9⟩ | ⟨hov, hk10⟩
    · exact l_enc_step hd (c_goI_O hG (Nat.le_refl 6) hwf hw hs hR hT hh hx (by omega) hbl hk9 (by omega) hov) hT.1 hh (hw.good hs) go hk
    · exact l_enc_step hd (c_goI_10 hG (Nat.le_refl 6) hwf hw hs hR hT hh hx (by omega) hbl hk10 (by omega) hov) hT.1 hh (hw.good hs) go hk
theorem enc_pairs (hG : Gok G) (hwf : wfA A) (hd : 7 ≤ d) (hk : k ≤ kf) {dl h i a : Nat} (hh : h < 12) (IH : Vst G A d kf k Z v0 dl (h + 1)) {x : Th} (hx : (aH A)[i]? = some x) (hkd : (tK x = 9 ∧ a ≤ (tL x).length) ∨ (tK x = 10 ∧ a = (tL x).length)) (hlv : (tV x).length = (tY x).length) :
    ∀ (n b : Nat), b + n = (tY x).length → ∀ (s : WS) (M : Mm), WrM s M → s.1.length ≤ 600 → RM A M → TopS h i a b False M → (∀ M2, DnT h i a (tY x).length True M (wpair (wval A dl) ((tY x).drop b) ((tV x).drop b) s) M2 → Lh G d kf Z k v0 M2) → Lh G d kf Z k v0 M := by
  intro n
  induction n with
  | zero =>
    intro b hb s M hw hs hR hT kk
    rw [List.drop_eq_nil_of_le (show (tY x).length ≤ b by omega)] at kk
    have eb : b = (tY x).length := by omega
    have go : ∀ M', (EqF (onS h) M M' ∧ TopS h i a b True M' ∧ WrM (strT 0 s) M') → Lh G d kf Z k v0 M' := by
      rintro M' ⟨he, hT1, hw1⟩
      refine kk M' ?_
      show DnT h i a (tY x).length True M (wstr 0 s) M'
      rw [(Lm_str 0).1 s hs]
      by_cases hl : (strT 0 s).1.length ≤ 600
      · rw [lim_in hl]; exact ⟨he, hw1, eb ▸ hT1, hl⟩
      · rw [lim_out hl]; exact ⟨he.ss (Nat.zero_le _), hw1.2.2.1.trans (bI_t (by omega))⟩
    rcases hkd with ⟨hk9, hal⟩ | ⟨hk10, hal⟩
    · by_cases hle : a < (tL x).length
      · exact l_enc_step hd (c_goP2_9T hG (Nat.le_refl 6) hwf hw hs hR hT hh hx (by omega) (by omega) hk9 hle (fun z => z) eb) hT.1 hh (hw.good hs) go hk
      · exact l_enc_step hd (c_goP2_9F hG (Nat.le_refl 6) hwf hw hs hR hT hh hx (by omega) (by omega) hk9 (by omega) (fun z => z) eb) hT.1 hh (hw.good hs) go hk
    · exact l_enc_step hd (c_goP2_10F hG (Nat.le_refl 6) hwf hw hs hR hT hh hx (by omega) (by omega) hk10 hal (fun z => z) eb) hT.1 hh (hw.good hs) go hk
  | succ n ih =>
    intro b hb s M hw hs hR hT kk
    have hv := (hwf.2.2.1 _ (at_mem hx)).2.2.1 _ (getD_mem (l := tV x) (j := b) (by omega))
    rw [drop_cons (show b < (tY x).length by omega), drop_cons (show b < (tV x).length by omega)] at kk
    have ek : ∀ (s : WS), wpair (wval A dl) (((tY x)[b]?.getD 0) :: (tY x).drop (b + 1)) (((tV x)[b]?.getD 0) :: (tV x).drop (b + 1)) s = (wstr ((tY x)[b]?.getD 0) s).bind fun s1 => (wval A dl ((tV x)[b]?.getD 0) s1).bind (wpair (wval A dl) ((tY x).drop (b + 1)) ((tV x).drop (b + 1))) := fun _ => rfl
    rw [ek, (Lm_str _).1 s hs] at kk
    have go : ∀ M', (∃ M1, EqF (onS h) M M1 ∧ TopS h i a (b + 1) False M1 ∧ WrM (strT ((tY x)[b]?.getD 0) s) M1 ∧ PH A (h + 1) M1 (vhd A (h + 1) ((tV x)[b]?.getD 0) (strT ((tY x)[b]?.getD 0) s)) M') → Lh G d kf Z k v0 M' := by
      rintro M' ⟨M1, he, hT1, hw1, hp⟩
      by_cases hl : (strT ((tY x)[b]?.getD 0) s).1.length ≤ 600
      · rw [lim_in hl] at kk
        refine enc_one IH hv hl (hR.eq he.sr) he hT1 hw1 hp fun M2 hD => ?_
        cases hr : wval A dl ((tV x)[b]?.getD 0) (strT ((tY x)[b]?.getD 0) s) with
        | none =>
          rw [hr] at hD
          refine kk M2 ?_
          show DnT h i a (tY x).length True M ((wval A dl ((tV x)[b]?.getD 0) (strT ((tY x)[b]?.getD 0) s)).bind (wpair (wval A dl) ((tY x).drop (b + 1)) ((tV x).drop (b + 1)))) M2
          rw [hr]
          exact hD
        | some s2 =>
          rw [hr] at hD
          refine ih (b + 1) (by omega) s2 M2 hD.2.1 hD.2.2.2 (hR.eq hD.1.sr) hD.2.2.1 fun M3 hD3 => kk M3 ?_
          show DnT h i a (tY x).length True M ((wval A dl ((tV x)[b]?.getD 0) (strT ((tY x)[b]?.getD 0) s)).bind (wpair (wval A dl) ((tY x).drop (b + 1)) ((tV x).drop (b + 1)))) M3
          rw [hr]
          exact hD3.to hD.1
      · rw [lim_out hl] at kk
        refine kk M' ?_
        refine ⟨(he.ss (Nat.zero_le _)).tr ?_, ?_⟩
        · exact (PH_bad hl hp).1
        · exact (PH_bad hl hp).2
    rcases hkd with ⟨hk9, hal⟩ | ⟨hk10, hal⟩
    · by_cases hle : a < (tL x).length
      · exact l_enc_step hd (c_goP1_9T hG (Nat.le_refl 6) hwf hw hs hR hT hh hx (by omega) (by omega) hk9 hle (fun z => z) (by omega)) hT.1 hh (hw.good hs) go hk
      · exact l_enc_step hd (c_goP1_9F hG (Nat.le_refl 6) hwf hw hs hR hT hh hx (by omega) (by omega) hk9 (by omega) (fun z => z) (by omega)) hT.1 hh (hw.good hs) go hk
    · exact l_enc_step hd (c_goP1_10F hG (Nat.le_refl 6) hwf hw hs hR hT hh hx (by omega) (by omega) hk10 hal (fun z => z) (by omega)) hT.1 hh (hw.good hs) go hk
theorem enc_end9 (hG : Gok G) (hwf : wfA A) (hd : 7 ≤ d) (hk : k ≤ kf) {h i a b : Nat} {ov : Prop} (hh : h < 12) {x : Th} (hx : (aH A)[i]? = some x) (ha : a = (tL x).length) (hbl : b ≤ (tY x).length) (hov : ov) {M0 M : Mm} {r : Option WS} (hD : DnT h i a b ov M0 r M) (hR : RM A M0) (kk : ∀ M2, Dn h M0 r M2 → Lh G d kf Z k v0 M2) : Lh G d kf Z k v0 M := by
  cases r with
  | none => exact kk M hD
  | some s =>
    refine l_enc_step hd (c_goE hG (Nat.le_refl 6) hwf hD.2.1 hD.2.2.2 (hR.eq hD.1.sr) hD.2.2.1 hh hx (by omega) hbl ha hov) hD.2.2.1.1 hh (hD.2.1.good hD.2.2.2) (fun M' q => kk M' ?_) hk
    exact ⟨hD.1.tr q.1, q.2.2, q.2.1, hD.2.2.2⟩
theorem enc_leaf {A : Ab} {G : Gd} {d kf k dl h : Nat} {Z : Zt} {v0 v : Int64} {s s1 : WS} {M0 M1 : Mm} (hw : WrM s M0) (hs : s.1.length ≤ 600) (ho : M0.1 (40, 0) 28 = nI h) (kk : ∀ M2, Dn h M0 ((vhd A h v s).bind fun q => (lim q.1).bind (insd A (recO A dl) q.2)) M2 → Lh G d kf Z k v0 M2) (hq : vhd A h v s = some (s1, none)) (hp : PH A h M0 (vhd A h v s) M1) : Lh G d kf Z k v0 M1 := by
  rw [hq] at kk hp
  refine kk M1 ?_
  show Dn h M0 ((lim s1).bind some) M1
  rw [bsome]
  by_cases hl : s1.1.length ≤ 600
  · rw [lim_in hl]; exact ⟨hp.1.s, hp.2, (hp.1 _ _ (by simp [onX])).1.trans ho, hl⟩
  · rw [lim_out hl]; exact ⟨hp.1.s, hp.2.2.2.1.trans (bI_t (by omega))⟩
theorem enc_val (hG : Gok G) (hwf : wfA A) (hd : 7 ≤ d) (hk : k ≤ kf) : ∀ (dl h : Nat), h + dl = 12 → Vst G A d kf k Z v0 dl h := by
  intro dl
  induction dl with
  | zero =>
    intro h hh v hv s M0 hw hs hR ho kk M1 hp
    rw [wval_vhd hwf hh hv hR.n40 hs] at kk
    cases hq : vhd A h v s with
    | none => rw [hq] at kk hp; exact kk M1 hp
    | some q =>
      obtain ⟨s1, r⟩ := q
      cases r with
      | none => exact enc_leaf hw hs ho kk hq hp
      | some i => exact absurd (vhd_push hq).2.2 (by omega)
  | succ dl IH =>
    intro h hh v hv s M0 hw hs hR ho kk M1 hp
    rw [wval_vhd hwf hh hv hR.n40 hs] at kk
    cases hq : vhd A h v s with
    | none => rw [hq] at kk hp; exact kk M1 hp
    | some q =>
      obtain ⟨s1, r⟩ := q
      cases r with
      | none => exact enc_leaf hw hs ho kk hq hp
      | some i =>
        obtain ⟨⟨x, hx, hkd⟩, -, h12⟩ := vhd_push hq
        have hh2 : h < 12 := by omega
        have IH1 := IH (h + 1) (by omega)
        rw [hq] at kk hp
        obtain ⟨he, hw1, hT⟩ := hp
        have hR1 := hR.eq he.sr
        have ht := hR.1.2.2.1 i x hx
        have hlv := ht.2.2.2.2.2.2.2.2.2.2.2.1
        by_cases hl : s1.1.length ≤ 600
        · have kk2 : ∀ M2, Dn h M1 (wins A (wval A dl) x s1) M2 → Lh G d kf Z k v0 M2 := fun M2 hD => kk M2 (by
            show Dn h M0 ((lim s1).bind (insd A (recO A (dl + 1)) (some i))) M2
            rw [lim_in hl]
            show Dn h M0 (insd A (recO A (dl + 1)) (some i) s1) M2
            rw [show insd A (recO A (dl + 1)) (some i) s1 = wins A (wval A dl) x s1 by simp only [insd, hx, recO]]
            cases hr : wins A (wval A dl) x s1 with
            | none => rw [hr] at hD; exact ⟨(he.ss (Nat.zero_le _)).tr hD.1, hD.2⟩
            | some s2 => rw [hr] at hD; exact ⟨he.tr hD.1, hD.2⟩)
          have hT5 := hT.2.2.2.2 x hx
          rcases hkd with hk9 | hk10
          · have hT0 : TopS h i 0 0 False M1 := ⟨hT.1, hT.2.1, hT.2.2.1, hT.2.2.2.1, hT5.trans (bI_iff ⟨fun z => absurd z.1 (by omega), fun z => z.elim⟩)⟩
            refine enc_pairs hG hwf hd hk hh2 IH1 hx (Or.inl ⟨hk9, Nat.zero_le _⟩) hlv _ 0 (Nat.zero_add _) s1 M1 hw1 hl hR1 hT0 fun M2 hD => ?_
            rw [List.drop_zero, List.drop_zero] at hD
            have ew : wins A (wval A dl) x s1 = (wpair (wval A dl) (tY x) (tV x) s1).bind (witem (wval A dl) (tL x)) := if_pos hk9
            rw [ew] at kk2
            cases hr : wpair (wval A dl) (tY x) (tV x) s1 with
            | none => rw [hr] at hD kk2; exact kk2 M2 hD
            | some s2 =>
              rw [hr] at hD kk2
              refine enc_items hG hwf hd hk hh2 IH1 hx (Or.inl ⟨trivial, Or.inl hk9⟩) (Nat.le_refl _) _ 0 (Nat.zero_add _) s2 M2 hD.2.1 hD.2.2.2 (hR1.eq hD.1.sr) hD.2.2.1 fun M3 hD3 => ?_
              rw [List.drop_zero] at hD3
              exact enc_end9 hG hwf hd hk hh2 hx rfl (Nat.le_refl _) trivial (hD3.to hD.1) hR1 kk2
          · have ew : wins A (wval A dl) x s1 = (witem (wval A dl) (tL x) s1).bind fun s1 => if dynA A x = true then wpair (wval A dl) (tY x) (tV x) s1 else some s1 := if_neg (by omega)
            rw [ew] at kk2
            by_cases hdy : dynA A x = true
            · have hT0 : TopS h i 0 0 False M1 := ⟨hT.1, hT.2.1, hT.2.2.1, hT.2.2.2.1, hT5.trans (bI_iff ⟨fun z => z.2 hdy, fun z => z.elim⟩)⟩
              refine enc_items hG hwf hd hk hh2 IH1 hx (Or.inr ⟨fun z => z, hk10⟩) (Nat.zero_le _) _ 0 (Nat.zero_add _) s1 M1 hw1 hl hR1 hT0 fun M2 hD => ?_
              rw [List.drop_zero] at hD
              cases hr : witem (wval A dl) (tL x) s1 with
              | none => rw [hr] at hD kk2; exact kk2 M2 hD
              | some s2 =>
                rw [hr] at hD kk2
                refine enc_pairs hG hwf hd hk hh2 IH1 hx (Or.inr ⟨hk10, rfl⟩) hlv _ 0 (Nat.zero_add _) s2 M2 hD.2.1 hD.2.2.2 (hR1.eq hD.1.sr) hD.2.2.1 fun M3 hD3 => ?_
                rw [List.drop_zero, List.drop_zero] at hD3
                refine enc_end9 hG hwf hd hk hh2 hx rfl (Nat.le_refl _) trivial (hD3.to hD.1) hR1 fun M4 hD4 => kk2 M4 ?_
                show Dn h M1 (if dynA A x = true then wpair (wval A dl) (tY x) (tV x) s2 else some s2) M4
                rw [if_pos hdy]; exact hD4
            · have hT0 : TopS h i 0 0 True M1 := ⟨hT.1, hT.2.1, hT.2.2.1, hT.2.2.2.1, hT5.trans (bI_iff ⟨fun z => trivial, fun z => ⟨hk10, hdy⟩⟩)⟩
              refine enc_items hG hwf hd hk hh2 IH1 hx (Or.inl ⟨trivial, Or.inr hk10⟩) (Nat.zero_le _) _ 0 (Nat.zero_add _) s1 M1 hw1 hl hR1 hT0 fun M2 hD => ?_
              rw [List.drop_zero] at hD
              refine enc_end9 hG hwf hd hk hh2 hx rfl (Nat.zero_le _) trivial hD hR1 fun M4 hD4 => kk2 M4 ?_
              cases hr : witem (wval A dl) (tL x) s1 with
              | none => rw [hr] at hD4; exact hD4
              | some s2 =>
                rw [hr] at hD4
                show Dn h M1 (if dynA A x = true then wpair (wval A dl) (tY x) (tV x) s2 else some s2) M4
                rw [if_neg hdy]; exact hD4
        · refine kk M1 ?_
          show Dn h M0 ((lim s1).bind (insd A (recO A (dl + 1)) (some i))) M1
          rw [lim_out hl]
          exact ⟨he.ss (Nat.zero_le _), hw1.2.2.1.trans (bI_t (by omega))⟩
end M7
