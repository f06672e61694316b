/-! WHAT THE MODEL HOLDS -/
def mTr (x : Tr) (M : Mm) (t : Nat) : Prop := M.2 (42, 0) t = rN x ∧ M.1 (43, 0) t = bI (rD x = true) ∧ M.1 (44, 0) t = nI (rM x).length ∧ LI (fun k => M.2 (45, 0) (3 * t + k)) (rM x) ∧ (rM x).length ≤ 3
def mTh (x : Th) (M : Mm) (i : Nat) : Prop := M.1 (46, 0) i = nI (tK x) ∧ M.1 (48, 0) i = nI (tL x).length ∧ M.1 (49, 0) i = trv x ∧ M.1 (51, 0) i = nI (tY x).length ∧ LI (fun k => M.2 (52, 0) (6 * i + k)) (tY x) ∧ LI (fun k => M.2 (53, 0) (6 * i + k)) (tV x) ∧
  (¬ tK x = 12 → LI (fun k => M.2 (50, 0) (8 * i + k)) (tL x)) ∧ (tK x = 8 → M.2 (47, 0) i = tD x) ∧ (tK x = 12 → ∀ k v, (tL x)[k]? = some v → uN (M.2 (47, 0) i) / 2 ^ (8 * k) % 256 = uN (sh4 v)) ∧ (tL x).length ≤ 8 ∧ (tY x).length ≤ 6 ∧ (tV x).length = (tY x).length ∧ tK x < 16
def Mn (A : Ab) (M : Mm) : Prop := LI (M.2 (41, 0)) (aW A) ∧ (∀ t x, (aT A)[t]? = some x → mTr x M t) ∧ (∀ i x, (aH A)[i]? = some x → mTh x M i) ∧ M.1 (40, 0) 17 = nI ((aA A).length + 1) ∧ LI (M.2 (54, 0)) (0 :: aA A) ∧ M.1 (40, 0) 19 = nI (aR A).length ∧ LN (M.1 (55, 0)) (aR A) ∧
  (aW A).length ≤ 40 ∧ (aT A).length ≤ 12 ∧ (aH A).length ≤ 40 ∧ (aA A).length ≤ 6 ∧ (aR A).length ≤ 600
def RM (A : Ab) (M : Mm) : Prop := Mn A M ∧ M.1 (40, 0) 1 = nI (aW A).length ∧ M.1 (40, 0) 3 = nI (aT A).length ∧ M.1 (40, 0) 8 = nI (aH A).length ∧ M.1 (40, 0) 21 = aF A
def onR (k : Ky) (j : Nat) : Prop := (41 ≤ k.1 ∧ k.1 ≤ 55) ∨ (k.1 = 40 ∧ (j = 1 ∨ j = 3 ∨ j = 8 ∨ j = 17 ∨ j = 19 ∨ j = 21))
theorem LI.to {f g : Nat → Int64} {l : List Int64} (h : LI f l) (hg : ∀ k, g k = f k) : LI g l := fun k x hx => (hg k).trans (h k x hx)
theorem LN.to {f g : Nat → Int32} {l : List Nat} (h : LN f l) (hg : ∀ k, g k = f k) : LN g l := fun k x hx => (hg k).trans (h k x hx)
theorem rr {r : Nat} (h : 41 ≤ r ∧ r ≤ 55) (j : Nat) : onR (r, 0) j := Or.inl h
theorem r4 {j : Nat} (h : j = 1 ∨ j = 3 ∨ j = 8 ∨ j = 17 ∨ j = 19 ∨ j = 21) : onR (40, 0) j := Or.inr ⟨rfl, h⟩
theorem mTr.eq {x : Tr} {M M1 : Mm} {t : Nat} (h : mTr x M t) (he : EqF onR M M1) : mTr x M1 t := by
  obtain ⟨a, b, c, e, f⟩ := h
  exact ⟨(he _ _ (rr (by decide) _)).2.trans a, (he _ _ (rr (by decide) _)).1.trans b, (he _ _ (rr (by decide) _)).1.trans c, e.to fun k => (he _ _ (rr (by decide) _)).2, f⟩
theorem mTh.eq {x : Th} {M M1 : Mm} {i : Nat} (h : mTh x M i) (he : EqF onR M M1) : mTh x M1 i := by
  obtain ⟨a, b, c, e, f, g, p, q, r, z⟩ := h
  refine ⟨(he _ _ (rr (by decide) _)).1.trans a, (he _ _ (rr (by decide) _)).1.trans b, (he _ _ (rr (by decide) _)).1.trans c, (he _ _ (rr (by decide) _)).1.trans e, f.to fun k => (he _ _ (rr (by decide) _)).2, g.to fun k => (he _ _ (rr (by decide) _)).2, fun hk => (p hk).to fun k => (he _ _ (rr (by decide) _)).2, fun hk => (he _ _ (rr (by decide) _)).2.trans (q hk), fun hk k v hv => ?_, z⟩
  rw [(he (47, 0) i (rr (by decide) _)).2]
  exact r hk k v hv
theorem RM.eq {A : Ab} {M M1 : Mm} (h : RM A M) (he : EqF onR M M1) : RM A M1 := by
  obtain ⟨⟨a, b, c, e, f, g, p, q⟩, r, s, t, u⟩ := h
  exact ⟨⟨a.to fun k => (he _ _ (rr (by decide) _)).2, fun t x hx => (b t x hx).eq he, fun i x hx => (c i x hx).eq he, (he _ _ (r4 (by decide))).1.trans e, f.to fun k => (he _ _ (rr (by decide) _)).2, (he _ _ (r4 (by decide))).1.trans g, p.to fun k => (he _ _ (rr (by decide) _)).1, q⟩,
    (he _ _ (r4 (by decide))).1.trans r, (he _ _ (r4 (by decide))).1.trans s, (he _ _ (r4 (by decide))).1.trans t, (he _ _ (r4 (by decide))).1.trans u⟩
theorem onXR {k : Ky} {j : Nat} (h : onR k j) : onX k j := by
  unfold onR at h; unfold onX; omega
theorem EqF.r {M M1 : Mm} (h : EqF onX M M1) : EqF onR M M1 := h.sub fun _ _ z => onXR z
theorem RM.n40 {A : Ab} {M : Mm} (h : RM A M) : (aH A).length ≤ 40 := h.1.2.2.2.2.2.2.2.2.2.1
theorem RM.n12 {A : Ab} {M : Mm} (h : RM A M) : (aT A).length ≤ 12 := h.1.2.2.2.2.2.2.2.2.1
theorem RM.nW {A : Ab} {M : Mm} (h : RM A M) : (aW A).length ≤ 40 := h.1.2.2.2.2.2.2.2.1
def trT (x : Tr) (t : Nat) (s : WS) : WS := match lfx (s.2.2.2.map lN) (lN t) with
  | some p => emT (numB (4 * p + 1)) s
  | none => strsT (rM x) (strT (rN x) (emT (numB (16 * (rM x).length + (if rD x = true then 8 else 0) + 3)) (addR t s)))
section M3
variable {G : Gd} {d : Nat} {M : Mm}
set_option maxHeartbeats 4000000 in
theorem l_memitRN (hG : Gok G) {s : WS} (hw0 : WrM s M) {t : Nat} (ht : t < 12) {kf k0 : Nat} {Z : Zt} : ∀ (n k : Nat), k + n = s.2.2.2.length → fx (fun j => (s.2.2.2.map lN)[j]?.getD 0) (lN t) k n = none → Fr G mX9_emitTraits d kf Z k0 36 [(0, .ref (ga G (40, 0))), (1, .int (nI t)), (2, .int (nI (s.2.2.2.length)))] [] M → Fr G mX9_emitTraits d kf Z k0 2 [(0, .ref (ga G (40, 0))), (1, .int (nI t)), (2, .int (nI k))] [] M := by
  intro n
  induction n with
  | zero =>
    intro k hk hf go
    have hq := hw0.2.2.2.2.2.2.2.2.2.2.2.1.len
    refine x_iload_n rfl rfl rfl ?_
    refine x_aload_n rfl rfl rfl ?_
    refine x_getIv (v := nI (s.2.2.2.length)) hw0.2.2.2.2.2.2.2.1 rfl rfl f_9_220 rfl (by decide) rfl ?_
    refine x_icmpN_ge (by omega) (by omega) rfl rfl (fun hc1 => ?_) (fun hc1 => absurd hc1 (by omega))
    exact (show k = s.2.2.2.length by omega) ▸ go
  | succ n ih =>
    intro k hk hf go
    have hkl : k < s.2.2.2.length := by omega
    have hq := hw0.2.2.2.2.2.2.2.2.2.2.2.1.len
    have hv := hw0.2.2.2.2.2.2.2.2.2.2.2.1.at hkl
    unfold fx at hf
    refine x_iload_n rfl rfl rfl ?_
    refine x_aload_n rfl rfl rfl ?_
    refine x_getIv (v := nI (s.2.2.2.length)) hw0.2.2.2.2.2.2.2.1 rfl rfl f_9_220 rfl (by decide) rfl ?_
    refine x_icmpN_ge (by omega) (by omega) rfl rfl (fun hc1 => absurd hc1 (by omega)) (fun hc1 => ?_)
    refine x_aload_n rfl rfl rfl ?_
    refine x_getR0 rfl rfl f_9_63 rfl (by decide) rfl rfl ?_
    refine x_iload_n rfl rfl rfl ?_
    refine x_ialdv (a := k) (v := nI (s.2.2.2[k]?.getD 0)) (hw0.2.2.2.2.2.2.2.2.1.at hkl) rfl rfl rfl (by decide) (by omega) (by decide) ?_
    refine x_iload_n rfl rfl rfl ?_
    refine x_icmpN_ne (by omega) (by omega) rfl rfl (fun hc2 => ?_) (fun hc2 => ?_)
    · refine x_iincN (a := k) (b := 1) rfl rfl rfl rfl rfl ?_
      refine x_goto rfl rfl ?_
      rw [if_neg (by rw [mapN_at hkl]; exact fun e => hc2 (lN_inj (by omega) (by omega) e))] at hf
      exact ih (k + 1) (by omega) hf go
    · rw [if_pos (by rw [mapN_at hkl, hc2])] at hf
      cases hf
set_option maxHeartbeats 4000000 in
theorem l_memitRK (hG : Gok G) {s : WS} (hw0 : WrM s M) {t : Nat} (ht : t < 12) {kf k0 : Nat} {Z : Zt} {p : Nat} : ∀ (n k : Nat), k + n = s.2.2.2.length → fx (fun j => (s.2.2.2.map lN)[j]?.getD 0) (lN t) k n = some p → Fr G mX9_emitTraits d kf Z k0 20 [(0, .ref (ga G (40, 0))), (1, .int (nI t)), (2, .int (nI p))] [] M → Fr G mX9_emitTraits d kf Z k0 2 [(0, .ref (ga G (40, 0))), (1, .int (nI t)), (2, .int (nI k))] [] M := by
  intro n
  induction n with
  | zero =>
    intro k hk hf go
    have hq := hw0.2.2.2.2.2.2.2.2.2.2.2.1.len
    cases hf
  | succ n ih =>
    intro k hk hf go
    have hkl : k < s.2.2.2.length := by omega
    have hq := hw0.2.2.2.2.2.2.2.2.2.2.2.1.len
    have hv := hw0.2.2.2.2.2.2.2.2.2.2.2.1.at hkl
    unfold fx at hf
    refine x_iload_n rfl rfl rfl ?_
    refine x_aload_n rfl rfl rfl ?_
    refine x_getIv (v := nI (s.2.2.2.length)) hw0.2.2.2.2.2.2.2.1 rfl rfl f_9_220 rfl (by decide) rfl ?_
    refine x_icmpN_ge (by omega) (by omega) rfl rfl (fun hc1 => absurd hc1 (by omega)) (fun hc1 => ?_)
    refine x_aload_n rfl rfl rfl ?_
    refine x_getR0 rfl rfl f_9_63 rfl (by decide) rfl rfl ?_
    refine x_iload_n rfl rfl rfl ?_
    refine x_ialdv (a := k) (v := nI (s.2.2.2[k]?.getD 0)) (hw0.2.2.2.2.2.2.2.2.1.at hkl) rfl rfl rfl (by decide) (by omega) (by decide) ?_
    refine x_iload_n rfl rfl rfl ?_
    refine x_icmpN_ne (by omega) (by omega) rfl rfl (fun hc2 => ?_) (fun hc2 => ?_)
    · refine x_iincN (a := k) (b := 1) rfl rfl rfl rfl rfl ?_
      refine x_goto rfl rfl ?_
      rw [if_neg (by rw [mapN_at hkl]; exact fun e => hc2 (lN_inj (by omega) (by omega) e))] at hf
      exact ih (k + 1) (by omega) hf go
    · rw [if_pos (by rw [mapN_at hkl, hc2])] at hf
      cases hf
      exact go
set_option maxHeartbeats 4000000 in
theorem l_memitTr (hG : Gok G) (hd : 3 ≤ d) {t : Nat} (ht : t < 12) {x : Tr} (hxo : trOK x) {M9 : Mm} (htr : mTr x M9 t) : ∀ (n j : Nat), j + n = (rM x).length → ∀ (s0 : WS) (M : Mm), WrM s0 M → EqF onX M9 M → s0.1.length + 11 * n < 1050 → FX G mX9_emitTraits d M9 (strsT ((rM x).drop j) s0) 99 [(0, .ref (ga G (40, 0))), (1, .int (nI t)), (2, .int (nI j))] [] M := by
  intro n
  have hl3 := hxo.2.1
  induction n with
  | zero =>
    intro j hj s0 M hw0 hS0 hb
    have htr0 := htr.eq hS0.r
    rw [List.drop_eq_nil_of_le (by omega)]
    refine x_iload_n rfl rfl rfl ?_
    refine x_aload_n rfl rfl rfl ?_
    refine x_getR0 rfl rfl f_9_20 rfl (by decide) rfl rfl ?_
    refine x_iload_n rfl rfl rfl ?_
    refine x_ialdv (a := t) (v := nI ((rM x).length)) htr0.2.2.1 rfl rfl rfl (by decide) (by omega) (by decide) ?_
    refine x_icmpN_ge (by omega) (by omega) rfl rfl (fun hc1 => ?_) (fun hc1 => absurd hc1 (by omega))
    exact xm_ret (by exact hw0) hS0 rfl rfl rfl
  | succ n ih =>
    intro j hj s0 M hw0 hS0 hb
    have htr0 := htr.eq hS0.r
    rw [drop_cons (show j < (rM x).length by omega)]
    show FX G mX9_emitTraits d M9 (strsT ((rM x).drop (j + 1)) (strT ((rM x)[j]?.getD 0) s0)) 99 _ [] M
    have htx := (hxo.2.2.2 _ (getD_mem (show j < (rM x).length by omega))).1
    have hgr := strT_len ((rM x)[j]?.getD 0) s0
    refine x_iload_n rfl rfl rfl ?_
    refine x_aload_n rfl rfl rfl ?_
    refine x_getR0 rfl rfl f_9_20 rfl (by decide) rfl rfl ?_
    refine x_iload_n rfl rfl rfl ?_
    refine x_ialdv (a := t) (v := nI ((rM x).length)) htr0.2.2.1 rfl rfl rfl (by decide) (by omega) (by decide) ?_
    refine x_icmpN_ge (by omega) (by omega) rfl rfl (fun hc1 => absurd hc1 (by omega)) (fun hc1 => ?_)
    refine x_aload_n rfl rfl rfl ?_
    refine x_aload_n rfl rfl rfl ?_
    refine x_getR0 rfl rfl f_9_24 rfl (by decide) rfl rfl ?_
    refine x_iconstN (b := 3) rfl rfl ?_
    refine x_iload_n rfl rfl rfl ?_
    refine x_imulN (a := 3) (b := t) rfl rfl ?_
    refine x_iload_n rfl rfl rfl ?_
    refine x_iaddN (a := 3 * t) (b := j) rfl rfl ?_
    refine x_laldv (a := (3 * t) + j) (v := (rM x)[j]?.getD 0) (htr0.2.2.2.1.at (by omega)) rfl rfl rfl (by decide) (by omega) (by decide) ?_
    refine xm_call (d2 := 2) (c_memitString hG (by omega) (s := s0) hw0 (by first | omega | (simp [emT, addT, addH, addR]; omega)) ((rM x)[j]?.getD 0) htx) hS0 rfl rfl v_9_205 rfl rfl (by decide) rfl rfl (Nat.le_of_ble_eq_true rfl) (by omega) (fun M1 hw1 hS1 => ?_)
    have htr1 := htr.eq hS1.r
    refine x_iincN (a := j) (b := 1) rfl rfl rfl rfl rfl ?_
    refine x_goto rfl rfl ?_
    exact ih (j + 1) (by omega) _ M1 hw1 hS1 (by omega)
set_option maxHeartbeats 4000000 in
set_option maxRecDepth 20000 in
theorem c_memitTraitsK (hG : Gok G) (hd : 3 ≤ d) {s : WS} (hw0 : WrM s M) (hb : s.1.length < 900) {t : Nat} (ht : t < 12) {x : Tr} (hxo : trOK x) {p : Nat} (hp : lfx (s.2.2.2.map lN) (lN t) = some p) : CX G mX9_emitTraits d [.ref (ga G (40, 0)), .int (nI t)] M (trT x t s) := by
  have hS0 : EqF onX M M := EqF.rf
  have hp0 := hp
  unfold lfx at hp0
  have hpl := lfx_lt hp
  rw [List.length_map] at hpl
  have hq := hw0.2.2.2.2.2.2.2.2.2.2.2.1.len
  refine xm_of hG okX9_emitTraits (by decide +kernel) rfl (Nat.le_of_ble_eq_true rfl) ?_
  refine x_iconstN (b := 0) rfl rfl ?_
  refine x_istore_n rfl rfl rfl rfl ?_
  refine l_memitRK (p := p) hG hw0 ht _ 0 (Nat.zero_add _) (by rw [List.length_map] at hp0; exact hp0) ?_
  refine x_aload_n rfl rfl rfl ?_
  refine x_iconstN (b := 4) rfl rfl ?_
  refine x_iload_n rfl rfl rfl ?_
  refine x_imulN (a := 4) (b := p) rfl rfl ?_
  refine x_iconstN (b := 1) rfl rfl ?_
  refine x_iaddN (a := 4 * p) (b := 1) rfl rfl ?_
  refine xm_call (d2 := 1) (c_memitNumber hG (by omega) (s := s) hw0 (by first | omega | (simp [emT, addT, addH, addR]; omega)) (n := (4 * p) + 1) (by omega)) hS0 rfl rfl v_9_190 rfl rfl (by decide) rfl rfl (Nat.le_of_ble_eq_true rfl) (by omega) (fun M1 hw1 hS1 => ?_)
  exact xm_ret (by unfold trT; rw [hp]; exact hw1) hS1 rfl rfl rfl
set_option maxHeartbeats 4000000 in
set_option maxRecDepth 20000 in
theorem c_memitTraitsD (hG : Gok G) (hd : 3 ≤ d) {s : WS} (hw0 : WrM s M) (hb : s.1.length < 900) {t : Nat} (ht : t < 12) {x : Tr} (hxo : trOK x) (htr : mTr x M t) (hp : lfx (s.2.2.2.map lN) (lN t) = none) (hdy : rD x = true) : CX G mX9_emitTraits d [.ref (ga G (40, 0)), .int (nI t)] M (strsT (rM x) (strT (rN x) (emT (numB (16 * (rM x).length + 8 + 3)) (addR t s)))) := by
  have hS0 : EqF onX M M := EqF.rf
  have hp0 := hp
  unfold lfx at hp0
  have htr0 := htr
  have hl3 := hxo.2.1
  have htx := hxo.1
  have hnl := numB_le (16 * (rM x).length + 8 + 3)
  have hnl2 := numB_le (16 * (rM x).length + 3)
  have hq := hw0.2.2.2.2.2.2.2.2.2.2.2.1.len
  refine xm_of hG okX9_emitTraits (by decide +kernel) rfl (Nat.le_of_ble_eq_true rfl) ?_
  refine x_iconstN (b := 0) rfl rfl ?_
  refine x_istore_n rfl rfl rfl rfl ?_
  refine l_memitRN hG hw0 ht _ 0 (Nat.zero_add _) (by rw [List.length_map] at hp0; exact hp0) ?_
  refine x_aload_n rfl rfl rfl ?_
  refine x_getR0 rfl rfl f_9_63 rfl (by decide) rfl rfl ?_
  refine x_aload_n rfl rfl rfl ?_
  refine x_getIv (v := nI (s.2.2.2.length)) hw0.2.2.2.2.2.2.2.1 rfl rfl f_9_220 rfl (by decide) rfl ?_
  refine x_iload_n rfl rfl rfl ?_
  refine x_iast (a := s.2.2.2.length) rfl rfl rfl (by decide) (by omega) (by decide) ?_
  refine x_aload_n rfl rfl rfl ?_
  refine x_dup rfl rfl rfl ?_
  refine x_getIv (v := nI (s.2.2.2.length)) (by first | exact hw0.2.2.2.2.2.2.2.1 | (rw [← hw0.2.2.2.2.2.2.2.1]; rfl) | simp [ui, ul, hw0.2.2.2.2.2.2.2.1]) rfl rfl f_9_220 rfl (by decide) rfl ?_
  refine x_iconstN (b := 1) rfl rfl ?_
  refine x_iaddN (a := s.2.2.2.length) (b := 1) rfl rfl ?_
  refine x_putI rfl rfl f_9_220 rfl rfl (by decide) rfl ?_
  have hw1 := hw0.pR ht hp
  have hS1 : EqF onX M (ui (ui M (58, 0) s.2.2.2.length (nI t)) (40, 0) 26 (nI (s.2.2.2.length + 1))) := (hS0.ui (by simp [onX])).ui (by simp [onX])
  have htr1 := htr.eq hS1.r
  have hb1 : (addR t s).1.length < 900 := hb
  refine x_aload_n rfl rfl rfl ?_
  refine x_bipush (v := nI 16) rfl rfl (by decide +kernel) ?_
  refine x_aload_n rfl rfl rfl ?_
  refine x_getR0 rfl rfl f_9_20 rfl (by decide) rfl rfl ?_
  refine x_iload_n rfl rfl rfl ?_
  refine x_ialdv (a := t) (v := nI ((rM x).length)) htr1.2.2.1 rfl rfl rfl (by decide) (by omega) (by decide) ?_
  refine x_imulN (a := 16) (b := (rM x).length) rfl rfl ?_
  refine x_aload_n rfl rfl rfl ?_
  refine x_getR0 rfl rfl f_9_16 rfl (by decide) rfl rfl ?_
  refine x_iload_n rfl rfl rfl ?_
  refine x_zaldv (a := t) (v := bI (rD x = true)) htr1.2.1 rfl rfl rfl (by decide) (by omega) (by decide) ?_
  refine x_ifB_eq rfl rfl (fun hc1 => absurd hdy hc1) (fun hc1 => ?_)
  refine x_bipush (v := nI 8) rfl rfl (by decide +kernel) ?_
  refine x_goto rfl rfl ?_
  refine x_iaddN (a := 16 * ((rM x).length)) (b := 8) rfl rfl ?_
  refine x_iconstN (b := 3) rfl rfl ?_
  refine x_iaddN (a := (16 * ((rM x).length)) + 8) (b := 3) rfl rfl ?_
  refine xm_call (d2 := 1) (c_memitNumber hG (by omega) (s := addR t s) hw1 (by first | omega | (simp [emT, addT, addH, addR]; omega)) (n := ((16 * ((rM x).length)) + 8) + 3) (by omega)) hS1 rfl rfl v_9_190 rfl rfl (by decide) rfl rfl (Nat.le_of_ble_eq_true rfl) (by omega) (fun M2 hw2 hS2 => ?_)
  have htr2 := htr.eq hS2.r
  refine x_aload_n rfl rfl rfl ?_
  refine x_aload_n rfl rfl rfl ?_
  refine x_getR0 rfl rfl f_9_13 rfl (by decide) rfl rfl ?_
  refine x_iload_n rfl rfl rfl ?_
  refine x_laldv (a := t) (v := rN x) htr2.1 rfl rfl rfl (by decide) (by omega) (by decide) ?_
  refine xm_call (d2 := 2) (c_memitString hG (by omega) (s := emT (numB (((16 * ((rM x).length)) + 8) + 3)) (addR t s)) hw2 (by first | omega | (simp [emT, addT, addH, addR]; omega)) (rN x) htx) hS2 rfl rfl v_9_205 rfl rfl (by decide) rfl rfl (Nat.le_of_ble_eq_true rfl) (by omega) (fun M3 hw3 hS3 => ?_)
  have htr3 := htr.eq hS3.r
  refine x_iconstN (b := 0) rfl rfl ?_
  refine x_istore_n rfl rfl rfl rfl ?_
  exact l_memitTr hG hd ht hxo htr _ 0 (Nat.zero_add _) _ M3 hw3 hS3 (by have := strT_len (rN x) (emT (numB (16 * (rM x).length + 8 + 3)) (addR t s)); simp [emT] at this ⊢; omega)
set_option maxHeartbeats 4000000 in
set_option maxRecDepth 20000 in
theorem c_memitTraitsS (hG : Gok G) (hd : 3 ≤ d) {s : WS} (hw0 : WrM s M) (hb : s.1.length < 900) {t : Nat} (ht : t < 12) {x : Tr} (hxo : trOK x) (htr : mTr x M t) (hp : lfx (s.2.2.2.map lN) (lN t) = none) (hdy : ¬ rD x = true) : CX G mX9_emitTraits d [.ref (ga G (40, 0)), .int (nI t)] M (strsT (rM x) (strT (rN x) (emT (numB (16 * (rM x).length + 0 + 3)) (addR t s)))) := by
  have hS0 : EqF onX M M := EqF.rf
  have hp0 := hp
  unfold lfx at hp0
  have htr0 := htr
  have hl3 := hxo.2.1
  have htx := hxo.1
  have hnl := numB_le (16 * (rM x).length + 0 + 3)
  have hnl2 := numB_le (16 * (rM x).length + 3)
  have hq := hw0.2.2.2.2.2.2.2.2.2.2.2.1.len
  refine xm_of hG okX9_emitTraits (by decide +kernel) rfl (Nat.le_of_ble_eq_true rfl) ?_
  refine x_iconstN (b := 0) rfl rfl ?_
  refine x_istore_n rfl rfl rfl rfl ?_
  refine l_memitRN hG hw0 ht _ 0 (Nat.zero_add _) (by rw [List.length_map] at hp0; exact hp0) ?_
  refine x_aload_n rfl rfl rfl ?_
  refine x_getR0 rfl rfl f_9_63 rfl (by decide) rfl rfl ?_
  refine x_aload_n rfl rfl rfl ?_
  refine x_getIv (v := nI (s.2.2.2.length)) hw0.2.2.2.2.2.2.2.1 rfl rfl f_9_220 rfl (by decide) rfl ?_
  refine x_iload_n rfl rfl rfl ?_
  refine x_iast (a := s.2.2.2.length) rfl rfl rfl (by decide) (by omega) (by decide) ?_
  refine x_aload_n rfl rfl rfl ?_
  refine x_dup rfl rfl rfl ?_
  refine x_getIv (v := nI (s.2.2.2.length)) (by first | exact hw0.2.2.2.2.2.2.2.1 | (rw [← hw0.2.2.2.2.2.2.2.1]; rfl) | simp [ui, ul, hw0.2.2.2.2.2.2.2.1]) rfl rfl f_9_220 rfl (by decide) rfl ?_
  refine x_iconstN (b := 1) rfl rfl ?_
  refine x_iaddN (a := s.2.2.2.length) (b := 1) rfl rfl ?_
  refine x_putI rfl rfl f_9_220 rfl rfl (by decide) rfl ?_
  have hw1 := hw0.pR ht hp
  have hS1 : EqF onX M (ui (ui M (58, 0) s.2.2.2.length (nI t)) (40, 0) 26 (nI (s.2.2.2.length + 1))) := (hS0.ui (by simp [onX])).ui (by simp [onX])
  have htr1 := htr.eq hS1.r
  have hb1 : (addR t s).1.length < 900 := hb
  refine x_aload_n rfl rfl rfl ?_
  refine x_bipush (v := nI 16) rfl rfl (by decide +kernel) ?_
  refine x_aload_n rfl rfl rfl ?_
  refine x_getR0 rfl rfl f_9_20 rfl (by decide) rfl rfl ?_
  refine x_iload_n rfl rfl rfl ?_
  refine x_ialdv (a := t) (v := nI ((rM x).length)) htr1.2.2.1 rfl rfl rfl (by decide) (by omega) (by decide) ?_
  refine x_imulN (a := 16) (b := (rM x).length) rfl rfl ?_
  refine x_aload_n rfl rfl rfl ?_
  refine x_getR0 rfl rfl f_9_16 rfl (by decide) rfl rfl ?_
  refine x_iload_n rfl rfl rfl ?_
  refine x_zaldv (a := t) (v := bI (rD x = true)) htr1.2.1 rfl rfl rfl (by decide) (by omega) (by decide) ?_
  refine x_ifB_eq rfl rfl (fun hc1 => ?_) (fun hc1 => absurd hc1 hdy)
  refine x_iconstN (b := 0) rfl rfl ?_
  refine x_iaddN (a := 16 * ((rM x).length)) (b := 0) rfl rfl ?_
  refine x_iconstN (b := 3) rfl rfl ?_
  refine x_iaddN (a := (16 * ((rM x).length)) + 0) (b := 3) rfl rfl ?_
  refine xm_call (d2 := 1) (c_memitNumber hG (by omega) (s := addR t s) hw1 (by first | omega | (simp [emT, addT, addH, addR]; omega)) (n := ((16 * ((rM x).length)) + 0) + 3) (by omega)) hS1 rfl rfl v_9_190 rfl rfl (by decide) rfl rfl (Nat.le_of_ble_eq_true rfl) (by omega) (fun M2 hw2 hS2 => ?_)
  have htr2 := htr.eq hS2.r
  refine x_aload_n rfl rfl rfl ?_
  refine x_aload_n rfl rfl rfl ?_
  refine x_getR0 rfl rfl f_9_13 rfl (by decide) rfl rfl ?_
  refine x_iload_n rfl rfl rfl ?_
  refine x_laldv (a := t) (v := rN x) htr2.1 rfl rfl rfl (by decide) (by omega) (by decide) ?_
  refine xm_call (d2 := 2) (c_memitString hG (by omega) (s := emT (numB (((16 * ((rM x).length)) + 0) + 3)) (addR t s)) hw2 (by first | omega | (simp [emT, addT, addH, addR]; omega)) (rN x) htx) hS2 rfl rfl v_9_205 rfl rfl (by decide) rfl rfl (Nat.le_of_ble_eq_true rfl) (by omega) (fun M3 hw3 hS3 => ?_)
  have htr3 := htr.eq hS3.r
  refine x_iconstN (b := 0) rfl rfl ?_
  refine x_istore_n rfl rfl rfl rfl ?_
  exact l_memitTr hG hd ht hxo htr _ 0 (Nat.zero_add _) _ M3 hw3 hS3 (by have := strT_len (rN x) (emT (numB (16 * (rM x).length + 0 + 3)) (addR t s)); simp [emT] at this ⊢; omega)
theorem c_memitTraits (hG : Gok G) (hd : 3 ≤ d) {s : WS} (hw0 : WrM s M) (hb : s.1.length < 900) {t : Nat} (ht : t < 12) {x : Tr} (hxo : trOK x) (htr : mTr x M t) : CX G mX9_emitTraits d [.ref (ga G (40, 0)), .int (nI t)] M (trT x t s) := by
  cases hp : lfx (s.2.2.2.map lN) (lN t) with
  | some p => exact c_memitTraitsK hG hd hw0 hb ht hxo hp
  | none =>
    unfold trT
    rw [hp]
    by_cases hdy : rD x = true
    · simp only [if_pos hdy]; exact c_memitTraitsD hG hd hw0 hb ht hxo htr hp hdy
    · simp only [if_neg hdy]; exact c_memitTraitsS hG hd hw0 hb ht hxo htr hp hdy
set_option maxHeartbeats 4000000 in
set_option maxRecDepth 20000 in
theorem c_mpush9 (hG : Gok G) (hd : 2 ≤ d) {h : Nat} (hh : M.1 (40, 0) 28 = nI h) (hh2 : h < 12) {n : Nat} (hn : M.1 (40, 0) 8 = nI n) (hn2 : n ≤ 40) {i : Nat} (hi : i < n) (hkd : M.1 (46, 0) i = nI 9) : Ct G mX9_push d [.ref (ga G (40, 0)), .int (nI i)] M (.inl none) (ui (ui (ui (ui (ui M (59, 0) h (nI i)) (60, 0) h (nI 0)) (61, 0) h (nI 0)) (62, 0) h (nI 0)) (40, 0) 28 (nI (h + 1))) 0 := by
  refine ct_of hG okX9_push (by decide +kernel) rfl (Nat.le_of_ble_eq_true rfl) ?_
  refine x_aload_n rfl rfl rfl ?_
  refine x_getR0 rfl rfl f_9_66 rfl (by decide) rfl rfl ?_
  refine x_aload_n rfl rfl rfl ?_
  refine x_getIv (v := nI h) hh rfl rfl f_9_196 rfl (by decide) rfl ?_
  refine x_iload_n rfl rfl rfl ?_
  refine x_iast (a := h) rfl rfl rfl (by decide) (by omega) (by decide) ?_
  refine x_aload_n rfl rfl rfl ?_
  refine x_getR0 rfl rfl f_9_69 rfl (by decide) rfl rfl ?_
  refine x_aload_n rfl rfl rfl ?_
  refine x_getIv (v := nI h) (by first | exact hh | (rw [← hh]; rfl) | simp [ui, ul, hh]) rfl rfl f_9_196 rfl (by decide) rfl ?_
  refine x_iconstN (b := 0) rfl rfl ?_
  refine x_iast (a := h) rfl rfl rfl (by decide) (by omega) (by decide) ?_
  refine x_aload_n rfl rfl rfl ?_
  refine x_getR0 rfl rfl f_9_72 rfl (by decide) rfl rfl ?_
  refine x_aload_n rfl rfl rfl ?_
  refine x_getIv (v := nI h) (by first | exact hh | (rw [← hh]; rfl) | simp [ui, ul, hh]) rfl rfl f_9_196 rfl (by decide) rfl ?_
  refine x_iconstN (b := 0) rfl rfl ?_
  refine x_iast (a := h) rfl rfl rfl (by decide) (by omega) (by decide) ?_
  refine x_aload_n rfl rfl rfl ?_
  refine x_getR0 rfl rfl f_9_75 rfl (by decide) rfl rfl ?_
  refine x_aload_n rfl rfl rfl ?_
  refine x_getIv (v := nI h) (by first | exact hh | (rw [← hh]; rfl) | simp [ui, ul, hh]) rfl rfl f_9_196 rfl (by decide) rfl ?_
  refine x_aload_n rfl rfl rfl ?_
  refine x_iload_n rfl rfl rfl ?_
  refine x_callVi (d2 := 1) (c_mhasPairs9 hG (Nat.le_refl 1) (n := n) (by first | exact hn | (rw [← hn]; rfl) | simp [ui, hn]) hn2 hi (by first | exact hkd | (rw [← hkd]; rfl) | simp [ui, hkd])) rfl rfl v_9_162 rfl rfl (by decide) rfl rfl (Nat.le_of_ble_eq_true rfl) (by omega) (by omega) ?_
  refine x_if_ne rfl rfl (fun _ => ?_) (fun hc1 => absurd hc1 (by decide +kernel))
  refine x_iconstN (b := 0) rfl rfl ?_
  refine x_zast (a := h) rfl rfl rfl (by decide) (by omega) (by decide) (by first | exact Or.inl rfl | exact Or.inr rfl | exact bI_01 _ | assumption) ?_
  refine x_aload_n rfl rfl rfl ?_
  refine x_dup rfl rfl rfl ?_
  refine x_getIv (v := nI h) (by first | exact hh | (rw [← hh]; rfl) | simp [ui, ul, hh]) rfl rfl f_9_196 rfl (by decide) rfl ?_
  refine x_iconstN (b := 1) rfl rfl ?_
  refine x_iaddN (a := h) (b := 1) rfl rfl ?_
  refine x_putI rfl rfl f_9_196 rfl rfl (by decide) rfl ?_
  exact x_retV rfl rfl rfl (by omega) rfl rfl
set_option maxHeartbeats 4000000 in
set_option maxRecDepth 20000 in
theorem c_mpush10D (hG : Gok G) (hd : 2 ≤ d) {h : Nat} (hh : M.1 (40, 0) 28 = nI h) (hh2 : h < 12) {n : Nat} (hn : M.1 (40, 0) 8 = nI n) (hn2 : n ≤ 40) {i : Nat} (hi : i < n) (hkd : M.1 (46, 0) i = nI 10) {t : Nat} (ht : t < 12) (dy : Prop) (htr : M.1 (49, 0) i = nI t) (hdy : M.1 (43, 0) t = bI dy) (hdd : dy) : Ct G mX9_push d [.ref (ga G (40, 0)), .int (nI i)] M (.inl none) (ui (ui (ui (ui (ui M (59, 0) h (nI i)) (60, 0) h (nI 0)) (61, 0) h (nI 0)) (62, 0) h (nI 0)) (40, 0) 28 (nI (h + 1))) 0 := by
  refine ct_of hG okX9_push (by decide +kernel) rfl (Nat.le_of_ble_eq_true rfl) ?_
  refine x_aload_n rfl rfl rfl ?_
  refine x_getR0 rfl rfl f_9_66 rfl (by decide) rfl rfl ?_
  refine x_aload_n rfl rfl rfl ?_
  refine x_getIv (v := nI h) hh rfl rfl f_9_196 rfl (by decide) rfl ?_
  refine x_iload_n rfl rfl rfl ?_
  refine x_iast (a := h) rfl rfl rfl (by decide) (by omega) (by decide) ?_
  refine x_aload_n rfl rfl rfl ?_
  refine x_getR0 rfl rfl f_9_69 rfl (by decide) rfl rfl ?_
  refine x_aload_n rfl rfl rfl ?_
  refine x_getIv (v := nI h) (by first | exact hh | (rw [← hh]; rfl) | simp [ui, ul, hh]) rfl rfl f_9_196 rfl (by decide) rfl ?_
  refine x_iconstN (b := 0) rfl rfl ?_
  refine x_iast (a := h) rfl rfl rfl (by decide) (by omega) (by decide) ?_
  refine x_aload_n rfl rfl rfl ?_
  refine x_getR0 rfl rfl f_9_72 rfl (by decide) rfl rfl ?_
  refine x_aload_n rfl rfl rfl ?_
  refine x_getIv (v := nI h) (by first | exact hh | (rw [← hh]; rfl) | simp [ui, ul, hh]) rfl rfl f_9_196 rfl (by decide) rfl ?_
  refine x_iconstN (b := 0) rfl rfl ?_
  refine x_iast (a := h) rfl rfl rfl (by decide) (by omega) (by decide) ?_
  refine x_aload_n rfl rfl rfl ?_
  refine x_getR0 rfl rfl f_9_75 rfl (by decide) rfl rfl ?_
  refine x_aload_n rfl rfl rfl ?_
  refine x_getIv (v := nI h) (by first | exact hh | (rw [← hh]; rfl) | simp [ui, ul, hh]) rfl rfl f_9_196 rfl (by decide) rfl ?_
  refine x_aload_n rfl rfl rfl ?_
  refine x_iload_n rfl rfl rfl ?_
  refine x_callVi (d2 := 1) (c_mhasPairs10 hG (Nat.le_refl 1) (n := n) (t := t) (by simp [ui, hn]) hn2 hi (by simp [ui, hkd]) ht dy (by simp [ui, htr]) (by simp [ui, hdy])) rfl rfl v_9_162 rfl rfl (by decide) rfl rfl (Nat.le_of_ble_eq_true rfl) (by omega) (by omega) ?_
  refine x_ifB_ne rfl rfl (fun hc1 => ?_) (fun hc1 => absurd hdd hc1)
  refine x_iconstN (b := 0) rfl rfl ?_
  refine x_zast (a := h) rfl rfl rfl (by decide) (by omega) (by decide) (by first | exact Or.inl rfl | exact Or.inr rfl | exact bI_01 _ | assumption) ?_
  refine x_aload_n rfl rfl rfl ?_
  refine x_dup rfl rfl rfl ?_
  refine x_getIv (v := nI h) (by first | exact hh | (rw [← hh]; rfl) | simp [ui, ul, hh]) rfl rfl f_9_196 rfl (by decide) rfl ?_
  refine x_iconstN (b := 1) rfl rfl ?_
  refine x_iaddN (a := h) (b := 1) rfl rfl ?_
  refine x_putI rfl rfl f_9_196 rfl rfl (by decide) rfl ?_
  exact x_retV rfl rfl rfl (by omega) rfl rfl
set_option maxHeartbeats 4000000 in
set_option maxRecDepth 20000 in
theorem c_mpush10S (hG : Gok G) (hd : 2 ≤ d) {h : Nat} (hh : M.1 (40, 0) 28 = nI h) (hh2 : h < 12) {n : Nat} (hn : M.1 (40, 0) 8 = nI n) (hn2 : n ≤ 40) {i : Nat} (hi : i < n) (hkd : M.1 (46, 0) i = nI 10) {t : Nat} (ht : t < 12) (dy : Prop) (htr : M.1 (49, 0) i = nI t) (hdy : M.1 (43, 0) t = bI dy) (hdd : ¬ dy) : Ct G mX9_push d [.ref (ga G (40, 0)), .int (nI i)] M (.inl none) (ui (ui (ui (ui (ui M (59, 0) h (nI i)) (60, 0) h (nI 0)) (61, 0) h (nI 0)) (62, 0) h (nI 1)) (40, 0) 28 (nI (h + 1))) 0 := by
  refine ct_of hG okX9_push (by decide +kernel) rfl (Nat.le_of_ble_eq_true rfl) ?_
  refine x_aload_n rfl rfl rfl ?_
  refine x_getR0 rfl rfl f_9_66 rfl (by decide) rfl rfl ?_
  refine x_aload_n rfl rfl rfl ?_
  refine x_getIv (v := nI h) hh rfl rfl f_9_196 rfl (by decide) rfl ?_
  refine x_iload_n rfl rfl rfl ?_
  refine x_iast (a := h) rfl rfl rfl (by decide) (by omega) (by decide) ?_
  refine x_aload_n rfl rfl rfl ?_
  refine x_getR0 rfl rfl f_9_69 rfl (by decide) rfl rfl ?_
  refine x_aload_n rfl rfl rfl ?_
  refine x_getIv (v := nI h) (by first | exact hh | (rw [← hh]; rfl) | simp [ui, ul, hh]) rfl rfl f_9_196 rfl (by decide) rfl ?_
  refine x_iconstN (b := 0) rfl rfl ?_
  refine x_iast (a := h) rfl rfl rfl (by decide) (by omega) (by decide) ?_
  refine x_aload_n rfl rfl rfl ?_
  refine x_getR0 rfl rfl f_9_72 rfl (by decide) rfl rfl ?_
  refine x_aload_n rfl rfl rfl ?_
  refine x_getIv (v := nI h) (by first | exact hh | (rw [← hh]; rfl) | simp [ui, ul, hh]) rfl rfl f_9_196 rfl (by decide) rfl ?_
  refine x_iconstN (b := 0) rfl rfl ?_
  refine x_iast (a := h) rfl rfl rfl (by decide) (by omega) (by decide) ?_
  refine x_aload_n rfl rfl rfl ?_
  refine x_getR0 rfl rfl f_9_75 rfl (by decide) rfl rfl ?_
  refine x_aload_n rfl rfl rfl ?_
  refine x_getIv (v := nI h) (by first | exact hh | (rw [← hh]; rfl) | simp [ui, ul, hh]) rfl rfl f_9_196 rfl (by decide) rfl ?_
  refine x_aload_n rfl rfl rfl ?_
  refine x_iload_n rfl rfl rfl ?_
  refine x_callVi (d2 := 1) (c_mhasPairs10 hG (Nat.le_refl 1) (n := n) (t := t) (by simp [ui, hn]) hn2 hi (by simp [ui, hkd]) ht dy (by simp [ui, htr]) (by simp [ui, hdy])) rfl rfl v_9_162 rfl rfl (by decide) rfl rfl (Nat.le_of_ble_eq_true rfl) (by omega) (by omega) ?_
  refine x_ifB_ne rfl rfl (fun hc1 => absurd hc1 hdd) (fun hc1 => ?_)
  refine x_iconstN (b := 1) rfl rfl ?_
  refine x_goto rfl rfl ?_
  refine x_zast (a := h) rfl rfl rfl (by decide) (by omega) (by decide) (by first | exact Or.inl rfl | exact Or.inr rfl | exact bI_01 _ | assumption) ?_
  refine x_aload_n rfl rfl rfl ?_
  refine x_dup rfl rfl rfl ?_
  refine x_getIv (v := nI h) (by first | exact hh | (rw [← hh]; rfl) | simp [ui, ul, hh]) rfl rfl f_9_196 rfl (by decide) rfl ?_
  refine x_iconstN (b := 1) rfl rfl ?_
  refine x_iaddN (a := h) (b := 1) rfl rfl ?_
  refine x_putI rfl rfl f_9_196 rfl rfl (by decide) rfl ?_
  exact x_retV rfl rfl rfl (by omega) rfl rfl
end M3
