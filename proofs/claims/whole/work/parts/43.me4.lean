/-- what writing a value leaves: the stack below h too -/
def onS (h : Nat) (k : Ky) (j : Nat) : Prop := k.1 ≠ 56 ∧ k.1 ≠ 57 ∧ k.1 ≠ 58 ∧ k.1 ≠ 63 ∧ (k.1 = 40 → j ≠ 22 ∧ j ≠ 24 ∧ j ≠ 26 ∧ j ≠ 33 ∧ j ≠ 35 ∧ j ≠ 28) ∧ (59 ≤ k.1 ∧ k.1 ≤ 62 → j < h)
theorem onSX {h : Nat} {k : Ky} {j : Nat} (z : onS h k j) : onX k j := by unfold onS at z; unfold onX; omega
theorem onRS {h : Nat} {k : Ky} {j : Nat} (z : onR k j) : onS h k j := by unfold onR at z; unfold onS; omega
theorem EqF.s {M M1 : Mm} {h : Nat} (z : EqF onX M M1) : EqF (onS h) M M1 := z.sub fun _ _ w => onSX w
theorem EqF.sr {M M1 : Mm} {h : Nat} (z : EqF (onS h) M M1) : EqF onR M M1 := z.sub fun _ _ w => onRS w
theorem EqF.ss {M M1 : Mm} {h h' : Nat} (z : EqF (onS h) M M1) (hh : h' ≤ h) : EqF (onS h') M M1 := z.sub fun k j w => by unfold onS at w ⊢; omega
def onV (k : Ky) (j : Nat) : Prop := k.1 = 56 ∨ k.1 = 57 ∨ k.1 = 58 ∨ k.1 = 63 ∨ (k.1 = 40 ∧ (j = 22 ∨ j = 24 ∨ j = 26 ∨ j = 33 ∨ j = 35))
theorem WrM.eq {s : WS} {M M1 : Mm} (h : WrM s M) (he : EqF onV M M1) : WrM s M1 := by
  obtain ⟨h1, h2, h3, h4, h5, h6, h7, h8, h9, z⟩ := h
  exact ⟨(he _ _ (by simp [onV])).1.trans h1, h2.to fun k => (he _ _ (by simp [onV])).1, (he _ _ (by simp [onV])).1.trans h3, (he _ _ (by simp [onV])).1.trans h4, h5.to fun k => (he _ _ (by simp [onV])).2, (he _ _ (by simp [onV])).1.trans h6, h7.to fun k => (he _ _ (by simp [onV])).1, (he _ _ (by simp [onV])).1.trans h8, h9.to fun k => (he _ _ (by simp [onV])).1, z⟩
def hdT (A : Ab) (x : Th) (s : WS) : WS :=
  if tK x = 8 then emT (eightB (tD x)) (emT (numB 1) s) else if tK x = 12 then emT (itB (tL x)) (emT (numB (2 * (tL x).length + 1)) s)
  else if tK x = 9 then emT (numB (2 * (tL x).length + 1)) s else match (aT A)[tT x]? with
    | some y => trT y (tT x) s
    | none => s
/-- what the model writes of a value before it goes into it -/
def thd (A : Ab) (h : Nat) (x : Th) (i : Nat) (s : WS) : Option (WS × Option Nat) := match lfx (s.2.2.1.map lN) (lN i) with
  | some p => some (emT (numB (2 * p)) s, none)
  | none => if h = 12 then none else some (hdT A x (addH i s), if tK x = 9 ∨ tK x = 10 then some i else none)
def vhd (A : Ab) (h : Nat) (v : Int64) (s : WS) : Option (WS × Option Nat) :=
  if uN v % 16 = 7 then (match (aH A)[uN (sh4 v)]? with
    | none => none
    | some x => thd A h x (uN (sh4 v)) (emT [tK x] s))
  else if uN v % 16 = 4 then some (emT (numB (uN (sh4 v) % 536870912)) (emT [4] s), none) else if uN v % 16 = 5 then some (emT (eightB ((aW A)[uN (sh4 v)]?.getD 0)) (emT [5] s), none)
  else if uN v % 16 = 6 then some (strT (sh4 v) (emT [6] s), none) else some (emT [uN v % 16] s, none)
def ovr (A : Ab) (x : Th) : Prop := tK x = 10 ∧ ¬ dynA A x = true
def Top (A : Ab) (h i : Nat) (M : Mm) : Prop := M.1 (40, 0) 28 = nI (h + 1) ∧ M.1 (59, 0) h = nI i ∧ M.1 (60, 0) h = nI 0 ∧ M.1 (61, 0) h = nI 0 ∧ ∀ x, (aH A)[i]? = some x → M.1 (62, 0) h = bI (ovr A x)
def PH (A : Ab) (h : Nat) (M : Mm) (r : Option (WS × Option Nat)) (M' : Mm) : Prop := match r with
  | none => EqF (onS 0) M M' ∧ M'.1 (40, 0) 35 = nI 1
  | some (s, none) => EqF onX M M' ∧ WrM s M'
  | some (s, some i) => EqF (onS h) M M' ∧ WrM s M' ∧ Top A h i M'
theorem mTh.eqx {x : Th} {M M1 : Mm} {i : Nat} (h : mTh x M i) (he : EqF onX M M1) : mTh x M1 i := h.eq he.r
theorem ui_v {M : Mm} {k k' : Ky} {j j' : Nat} {x : Int32} : (ui M k j x).1 k' j' = if k' = k ∧ j' = j then x else M.1 k' j' := rfl
theorem Fr_w {G : Gd} {y : Mt} {d : Nat} {M M0 : Mm} {s : WS} {pc : Nat} {lv : List (Nat × Value)} {st : List Value} (h : FX G y d M0 s pc lv st M) : Fr G y d 0 (Ze G (.inl none) (fun M' => EqF onX M0 M' ∧ WrM s M') 0) 0 pc lv st M := h
section M4
variable {G : Gd} {d : Nat} {M : Mm} {A : Ab}
set_option maxHeartbeats 4000000 in
theorem l_memitHN (hG : Gok G) {s : WS} (hw0 : WrM s M) {i : Nat} (hi : i < 40) {kf k0 : Nat} {Z : Zt} : ∀ (n k : Nat), k + n = s.2.2.1.length → fx (fun j => (s.2.2.1.map lN)[j]?.getD 0) (lN i) k n = none → Fr G mX9_emitThing d kf Z k0 44 [(0, .ref (ga G (40, 0))), (1, .int (nI i)), (2, .int (nI (s.2.2.1.length)))] [] M → Fr G mX9_emitThing d kf Z k0 12 [(0, .ref (ga G (40, 0))), (1, .int (nI i)), (2, .int (nI k))] [] M := by
  intro n
  induction n with
  | zero =>
    intro k hk hf go
    have hq := hw0.2.2.2.2.2.2.2.2.2.2.1.len
    refine x_iload_n rfl rfl rfl ?_
    refine x_aload_n rfl rfl rfl ?_
    refine x_getIv (v := nI (s.2.2.1.length)) hw0.2.2.2.2.2.1 rfl rfl f_9_211 rfl (by decide) rfl ?_
    refine x_icmpN_ge (by omega) (by omega) rfl rfl (fun hc1 => ?_) (fun hc1 => absurd hc1 (by omega))
    exact (show k = s.2.2.1.length by omega) ▸ go
  | succ n ih =>
    intro k hk hf go
    have hkl : k < s.2.2.1.length := by omega
    have hq := hw0.2.2.2.2.2.2.2.2.2.2.1.len
    have hv := hw0.2.2.2.2.2.2.2.2.2.2.1.at hkl
    unfold fx at hf
    refine x_iload_n rfl rfl rfl ?_
    refine x_aload_n rfl rfl rfl ?_
    refine x_getIv (v := nI (s.2.2.1.length)) hw0.2.2.2.2.2.1 rfl rfl f_9_211 rfl (by decide) rfl ?_
    refine x_icmpN_ge (by omega) (by omega) rfl rfl (fun hc1 => absurd hc1 (by omega)) (fun hc1 => ?_)
    refine x_aload_n rfl rfl rfl ?_
    refine x_getR0 rfl rfl f_9_60 rfl (by decide) rfl rfl ?_
    refine x_iload_n rfl rfl rfl ?_
    refine x_ialdv (a := k) (v := nI (s.2.2.1[k]?.getD 0)) (hw0.2.2.2.2.2.2.1.at hkl) rfl rfl rfl (by decide) (by omega) (by decide) ?_
    refine x_iload_n rfl rfl rfl ?_
    refine x_icmpN_ne (by omega) (by omega) rfl rfl (fun hc2 => ?_) (fun hc2 => ?_)
    · refine x_iincN (a := k) (b := 1) rfl rfl rfl rfl rfl ?_
      refine x_goto rfl rfl ?_
      rw [if_neg (by rw [mapN_at hkl]; exact fun e => hc2 (lN_inj (by omega) (by omega) e))] at hf
      exact ih (k + 1) (by omega) hf go
    · rw [if_pos (by rw [mapN_at hkl, hc2])] at hf
      cases hf
set_option maxHeartbeats 4000000 in
theorem l_memitHK (hG : Gok G) {s : WS} (hw0 : WrM s M) {i : Nat} (hi : i < 40) {kf k0 : Nat} {Z : Zt} {p : Nat} : ∀ (n k : Nat), k + n = s.2.2.1.length → fx (fun j => (s.2.2.1.map lN)[j]?.getD 0) (lN i) k n = some p → Fr G mX9_emitThing d kf Z k0 30 [(0, .ref (ga G (40, 0))), (1, .int (nI i)), (2, .int (nI p))] [] M → Fr G mX9_emitThing d kf Z k0 12 [(0, .ref (ga G (40, 0))), (1, .int (nI i)), (2, .int (nI k))] [] M := by
  intro n
  induction n with
  | zero =>
    intro k hk hf go
    have hq := hw0.2.2.2.2.2.2.2.2.2.2.1.len
    cases hf
  | succ n ih =>
    intro k hk hf go
    have hkl : k < s.2.2.1.length := by omega
    have hq := hw0.2.2.2.2.2.2.2.2.2.2.1.len
    have hv := hw0.2.2.2.2.2.2.2.2.2.2.1.at hkl
    unfold fx at hf
    refine x_iload_n rfl rfl rfl ?_
    refine x_aload_n rfl rfl rfl ?_
    refine x_getIv (v := nI (s.2.2.1.length)) hw0.2.2.2.2.2.1 rfl rfl f_9_211 rfl (by decide) rfl ?_
    refine x_icmpN_ge (by omega) (by omega) rfl rfl (fun hc1 => absurd hc1 (by omega)) (fun hc1 => ?_)
    refine x_aload_n rfl rfl rfl ?_
    refine x_getR0 rfl rfl f_9_60 rfl (by decide) rfl rfl ?_
    refine x_iload_n rfl rfl rfl ?_
    refine x_ialdv (a := k) (v := nI (s.2.2.1[k]?.getD 0)) (hw0.2.2.2.2.2.2.1.at hkl) rfl rfl rfl (by decide) (by omega) (by decide) ?_
    refine x_iload_n rfl rfl rfl ?_
    refine x_icmpN_ne (by omega) (by omega) rfl rfl (fun hc2 => ?_) (fun hc2 => ?_)
    · refine x_iincN (a := k) (b := 1) rfl rfl rfl rfl rfl ?_
      refine x_goto rfl rfl ?_
      rw [if_neg (by rw [mapN_at hkl]; exact fun e => hc2 (lN_inj (by omega) (by omega) e))] at hf
      exact ih (k + 1) (by omega) hf go
    · rw [if_pos (by rw [mapN_at hkl, hc2])] at hf
      cases hf
      exact go
set_option maxHeartbeats 4000000 in
theorem l_memitB (hG : Gok G) (hd : 1 ≤ d) {i : Nat} (hi : i < 40) {x : Th} (hk : tK x = 12) {M9 : Mm} (ht : mTh x M9 i) : ∀ (n j : Nat), j + n = (tL x).length → ∀ (s0 : WS) (M : Mm), WrM s0 M → EqF onX M9 M → s0.1.length + n < 99990 → FX G mX9_emitThing d M9 (emT (itB ((tL x).drop j)) s0) 135 [(0, .ref (ga G (40, 0))), (1, .int (nI i)), (2, .int (nI j))] [] M := by
  intro n
  have hl8 := ht.2.2.2.2.2.2.2.2.2.1
  induction n with
  | zero =>
    intro j hj s0 M hw0 hS0 hb
    have ht0 := ht.eqx hS0
    rw [List.drop_eq_nil_of_le (by omega), show emT (itB []) s0 = s0 from emT_nil s0]
    refine x_iload_n rfl rfl rfl ?_
    refine x_aload_n rfl rfl rfl ?_
    refine x_getR0 rfl rfl f_9_33 rfl (by decide) rfl rfl ?_
    refine x_iload_n rfl rfl rfl ?_
    refine x_ialdv (a := i) (v := nI ((tL x).length)) ht0.2.1 rfl rfl rfl (by decide) (by omega) (by decide) ?_
    refine x_icmpN_ge (by omega) (by omega) rfl rfl (fun hc1 => ?_) (fun hc1 => absurd hc1 (by omega))
    refine x_goto rfl rfl ?_
    exact xm_ret (by exact hw0) hS0 rfl rfl rfl
  | succ n ih =>
    intro j hj s0 M hw0 hS0 hb
    have ht0 := ht.eqx hS0
    have hjl : j < (tL x).length := by omega
    have hby := ht0.2.2.2.2.2.2.2.2.1 hk j _ (List.getElem?_eq_getElem hjl)
    rw [show (tL x)[j] = (tL x)[j]?.getD 0 by rw [List.getElem?_eq_getElem hjl]; rfl] at hby
    rw [drop_cons hjl, show itB (((tL x)[j]?.getD 0) :: (tL x).drop (j + 1)) = (uN (sh4 ((tL x)[j]?.getD 0))) :: itB ((tL x).drop (j + 1)) from rfl, emT_cons]
    refine x_iload_n rfl rfl rfl ?_
    refine x_aload_n rfl rfl rfl ?_
    refine x_getR0 rfl rfl f_9_33 rfl (by decide) rfl rfl ?_
    refine x_iload_n rfl rfl rfl ?_
    refine x_ialdv (a := i) (v := nI ((tL x).length)) ht0.2.1 rfl rfl rfl (by decide) (by omega) (by decide) ?_
    refine x_icmpN_ge (by omega) (by omega) rfl rfl (fun hc1 => absurd hc1 (by omega)) (fun hc1 => ?_)
    refine x_aload_n rfl rfl rfl ?_
    refine x_aload_n rfl rfl rfl ?_
    refine x_getR0 rfl rfl f_9_30 rfl (by decide) rfl rfl ?_
    refine x_iload_n rfl rfl rfl ?_
    refine x_lald (a := i) rfl rfl rfl (by decide) (by omega) (by decide) ?_
    refine x_bipush (v := nI 8) rfl rfl (by decide +kernel) ?_
    refine x_iload_n rfl rfl rfl ?_
    refine x_imulN (a := 8) (b := j) rfl rfl ?_
    refine x_lushr rfl rfl ?_
    refine x_ldc2 (v := 255) rfl rfl k_9_104 ?_
    refine x_land rfl rfl ?_
    refine x_l2i rfl rfl ?_
    refine x_topI (v := nI (uN (sh4 ((tL x)[j]?.getD 0)))) (by rw [l2i_ub _ (by omega), hby]) ?_
    refine xm_call (d2 := 0) (c_memit hG  (s := s0) hw0 (by first | omega | (simp [emT, addT, addH, addR]; omega)) (uN (sh4 ((tL x)[j]?.getD 0)))) hS0 rfl rfl v_9_183 rfl rfl (by decide) rfl rfl (Nat.le_of_ble_eq_true rfl) (by omega) (fun M1 hw1 hS1 => ?_)
    refine x_iincN (a := j) (b := 1) rfl rfl rfl rfl rfl ?_
    refine x_goto rfl rfl ?_
    exact ih (j + 1) (by omega) _ M1 hw1 hS1 (by simp [emT]; omega)
set_option maxHeartbeats 4000000 in
set_option maxRecDepth 20000 in
theorem c_mthK (hG : Gok G) (hd : 4 ≤ d) (hwf : wfA A) {s : WS} (hw0 : WrM s M) (hb : s.1.length < 800) (hR : RM A M) {h : Nat} (hh : M.1 (40, 0) 28 = nI h) (hh2 : h ≤ 12) {i : Nat} {x : Th} (hx : (aH A)[i]? = some x) {p : Nat} (hp : lfx (s.2.2.1.map lN) (lN i) = some p) : Ce G mX9_emitThing d [.ref (ga G (40, 0)), .int (nI i)] M (.inl none) (fun M' => EqF onX M M' ∧ WrM (emT (numB (2 * p)) (emT [tK x] s)) M') 0 := by
  have hS0 : EqF onX M M := EqF.rf
  have ht := hR.1.2.2.1 i x hx
  have ht0 := ht
  have hil := at_lt hx
  have hn40 := hR.n40
  have hl8 := ht.2.2.2.2.2.2.2.2.2.1
  have hk16 := ht.2.2.2.2.2.2.2.2.2.2.2.2
  have hok := hwf.2.2.1 _ (at_mem hx)
  have hn1 := numB_le 1
  refine ce_of hG okX9_emitThing (by decide +kernel) rfl (Nat.le_of_ble_eq_true rfl) ?_
  refine x_aload_n rfl rfl rfl ?_
  refine x_aload_n rfl rfl rfl ?_
  refine x_getR0 rfl rfl f_9_27 rfl (by decide) rfl rfl ?_
  refine x_iload_n rfl rfl rfl ?_
  refine x_ialdv (a := i) (v := nI (tK x)) ht0.1 rfl rfl rfl (by decide) (by omega) (by decide) ?_
  refine x_callVe (k2 := 0) (d2 := 0) (c_memit hG  (s := s) hw0 (by first | omega | (simp [emT, addT, addH, addR]; omega)) (tK x)) rfl rfl v_9_183 rfl rfl (by decide) rfl rfl (Nat.le_of_ble_eq_true rfl) (by omega) (Nat.zero_le _) (fun M1 q1 => ?_)
  have hS1 := hS0.tr q1.1
  have hw1 := q1.2
  have ht1 := ht.eqx hS1
  refine x_iconstN (b := 0) rfl rfl ?_
  refine x_istore_n rfl rfl rfl rfl ?_
  have hp1 : lfx ((emT [tK x] s).2.2.1.map lN) (lN i) = some p := hp
  have hp2 := hp1
  unfold lfx at hp2
  rw [List.length_map] at hp2
  have hpl := lfx_lt hp
  rw [List.length_map] at hpl
  have hq := hw0.2.2.2.2.2.2.2.2.2.2.1.len
  refine l_memitHK (p := p) hG hw1 (by omega) _ 0 (Nat.zero_add _) hp2 ?_
  refine x_aload_n rfl rfl rfl ?_
  refine x_iconstN (b := 2) rfl rfl ?_
  refine x_iload_n rfl rfl rfl ?_
  refine x_imulN (a := 2) (b := p) rfl rfl ?_
  refine x_callVe (k2 := 0) (d2 := 1) (c_memitNumber hG (by omega) (s := emT [tK x] (s)) hw1 (by first | omega | (simp [emT, addT, addH, addR]; omega)) (n := 2 * p) (by omega)) rfl rfl v_9_190 rfl rfl (by decide) rfl rfl (Nat.le_of_ble_eq_true rfl) (by omega) (Nat.zero_le _) (fun M2 q2 => ?_)
  have hS2 := hS1.tr q2.1
  have hw2 := q2.2
  have ht2 := ht.eqx hS2
  exact fr_e (x_vret rfl rfl rfl (Nat.zero_le _)) ⟨hS2, hw2⟩
set_option maxHeartbeats 4000000 in
set_option maxRecDepth 20000 in
theorem c_mthX (hG : Gok G) (hd : 4 ≤ d) (hwf : wfA A) {s : WS} (hw0 : WrM s M) (hb : s.1.length < 800) (hR : RM A M) {h : Nat} (hh : M.1 (40, 0) 28 = nI h) (hh2 : h ≤ 12) {i : Nat} {x : Th} (hx : (aH A)[i]? = some x) (hp : lfx (s.2.2.1.map lN) (lN i) = none) (hh3 : h = 12) : Ce G mX9_emitThing d [.ref (ga G (40, 0)), .int (nI i)] M (.inl none) (fun M' => EqF (onS 0) M M' ∧ M'.1 (40, 0) 35 = nI 1) 0 := by
  have hS0 : EqF onX M M := EqF.rf
  have ht := hR.1.2.2.1 i x hx
  have ht0 := ht
  have hil := at_lt hx
  have hn40 := hR.n40
  have hl8 := ht.2.2.2.2.2.2.2.2.2.1
  have hk16 := ht.2.2.2.2.2.2.2.2.2.2.2.2
  have hok := hwf.2.2.1 _ (at_mem hx)
  have hn1 := numB_le 1
  refine ce_of hG okX9_emitThing (by decide +kernel) rfl (Nat.le_of_ble_eq_true rfl) ?_
  refine x_aload_n rfl rfl rfl ?_
  refine x_aload_n rfl rfl rfl ?_
  refine x_getR0 rfl rfl f_9_27 rfl (by decide) rfl rfl ?_
  refine x_iload_n rfl rfl rfl ?_
  refine x_ialdv (a := i) (v := nI (tK x)) ht0.1 rfl rfl rfl (by decide) (by omega) (by decide) ?_
  refine x_callVe (k2 := 0) (d2 := 0) (c_memit hG  (s := s) hw0 (by first | omega | (simp [emT, addT, addH, addR]; omega)) (tK x)) rfl rfl v_9_183 rfl rfl (by decide) rfl rfl (Nat.le_of_ble_eq_true rfl) (by omega) (Nat.zero_le _) (fun M1 q1 => ?_)
  have hS1 := hS0.tr q1.1
  have hw1 := q1.2
  have ht1 := ht.eqx hS1
  refine x_iconstN (b := 0) rfl rfl ?_
  refine x_istore_n rfl rfl rfl rfl ?_
  have hp1 : lfx ((emT [tK x] s).2.2.1.map lN) (lN i) = none := hp
  have hp2 := hp1
  unfold lfx at hp2
  rw [List.length_map] at hp2
  refine l_memitHN hG hw1 (by omega) _ 0 (Nat.zero_add _) hp2 ?_
  refine x_aload_n rfl rfl rfl ?_
  refine x_getIv (v := nI h) ((hS1 _ _ (by simp [onX])).1.trans hh) rfl rfl f_9_196 rfl (by decide) rfl ?_
  refine x_bipush (v := nI 12) rfl rfl (by decide +kernel) ?_
  refine x_icmpN_ne (by omega) (by omega) rfl rfl (fun hc1 => absurd hc1 (by omega)) (fun hc1 => ?_)
  refine x_aload_n rfl rfl rfl ?_
  refine x_iconstN (b := 1) rfl rfl ?_
  refine x_putZ rfl rfl f_9_179 rfl rfl (by decide) rfl (by first | exact Or.inl rfl | exact Or.inr rfl | exact bI_01 _ | assumption) ?_
  exact fr_e (x_vret rfl rfl rfl (Nat.zero_le _)) ⟨hS1.s.ui (by simp [onS]), by simp [ui]⟩
set_option maxHeartbeats 4000000 in
set_option maxRecDepth 20000 in
theorem c_mth8 (hG : Gok G) (hd : 4 ≤ d) (hwf : wfA A) {s : WS} (hw0 : WrM s M) (hb : s.1.length < 800) (hR : RM A M) {h : Nat} (hh : M.1 (40, 0) 28 = nI h) (hh2 : h ≤ 12) {i : Nat} {x : Th} (hx : (aH A)[i]? = some x) (hk : tK x = 8) (hp : lfx (s.2.2.1.map lN) (lN i) = none) (hh3 : ¬ h = 12) : Ce G mX9_emitThing d [.ref (ga G (40, 0)), .int (nI i)] M (.inl none) (fun M' => EqF onX M M' ∧ WrM (hdT A x (addH i (emT [tK x] s))) M') 0 := by
  have hS0 : EqF onX M M := EqF.rf
  have ht := hR.1.2.2.1 i x hx
  have ht0 := ht
  have hil := at_lt hx
  have hn40 := hR.n40
  have hl8 := ht.2.2.2.2.2.2.2.2.2.1
  have hk16 := ht.2.2.2.2.2.2.2.2.2.2.2.2
  have hok := hwf.2.2.1 _ (at_mem hx)
  have hn1 := numB_le 1
  refine ce_of hG okX9_emitThing (by decide +kernel) rfl (Nat.le_of_ble_eq_true rfl) ?_
  refine x_aload_n rfl rfl rfl ?_
  refine x_aload_n rfl rfl rfl ?_
  refine x_getR0 rfl rfl f_9_27 rfl (by decide) rfl rfl ?_
  refine x_iload_n rfl rfl rfl ?_
  refine x_ialdv (a := i) (v := nI (tK x)) ht0.1 rfl rfl rfl (by decide) (by omega) (by decide) ?_
  refine x_callVe (k2 := 0) (d2 := 0) (c_memit hG  (s := s) hw0 (by first | omega | (simp [emT, addT, addH, addR]; omega)) (tK x)) rfl rfl v_9_183 rfl rfl (by decide) rfl rfl (Nat.le_of_ble_eq_true rfl) (by omega) (Nat.zero_le _) (fun M1 q1 => ?_)
  have hS1 := hS0.tr q1.1
  have hw1 := q1.2
  have ht1 := ht.eqx hS1
  refine x_iconstN (b := 0) rfl rfl ?_
  refine x_istore_n rfl rfl rfl rfl ?_
  have hp1 : lfx ((emT [tK x] s).2.2.1.map lN) (lN i) = none := hp
  have hp2 := hp1
  unfold lfx at hp2
  rw [List.length_map] at hp2
  refine l_memitHN hG hw1 (by omega) _ 0 (Nat.zero_add _) hp2 ?_
  refine x_aload_n rfl rfl rfl ?_
  refine x_getIv (v := nI h) ((hS1 _ _ (by simp [onX])).1.trans hh) rfl rfl f_9_196 rfl (by decide) rfl ?_
  refine x_bipush (v := nI 12) rfl rfl (by decide +kernel) ?_
  refine x_icmpN_ne (by omega) (by omega) rfl rfl (fun hc1 => ?_) (fun hc1 => absurd hc1 (by omega))
  have hlen : (emT [tK x] s).2.2.1.length < 40 := by have := (hw1.pH (t := i) (by omega) hp1).2.2.2.2.2.2.2.2.2.2.1.len; simp [addH] at this; omega
  refine x_aload_n rfl rfl rfl ?_
  refine x_getR0 rfl rfl f_9_60 rfl (by decide) rfl rfl ?_
  refine x_aload_n rfl rfl rfl ?_
  refine x_getIv (v := nI ((emT [tK x] s).2.2.1.length)) hw1.2.2.2.2.2.1 rfl rfl f_9_211 rfl (by decide) rfl ?_
  refine x_iload_n rfl rfl rfl ?_
  refine x_iast (a := (emT [tK x] s).2.2.1.length) rfl rfl rfl (by decide) (by omega) (by decide) ?_
  refine x_aload_n rfl rfl rfl ?_
  refine x_dup rfl rfl rfl ?_
  refine x_getIv (v := nI ((emT [tK x] s).2.2.1.length)) (by first | exact hw1.2.2.2.2.2.1 | (rw [← hw1.2.2.2.2.2.1]; rfl) | simp [ui, ul, hw1.2.2.2.2.2.1]) rfl rfl f_9_211 rfl (by decide) rfl ?_
  refine x_iconstN (b := 1) rfl rfl ?_
  refine x_iaddN (a := (emT [tK x] s).2.2.1.length) (b := 1) rfl rfl ?_
  refine x_putI rfl rfl f_9_211 rfl rfl (by decide) rfl ?_
  have hw2 := hw1.pH (t := i) (by omega) hp1
  have hS2 : EqF onX M (ui (ui M1 (57, 0) ((emT [tK x] s).2.2.1.length) (nI i)) (40, 0) 24 (nI (((emT [tK x] s).2.2.1.length) + 1))) := (hS1.ui (by simp [onX])).ui (by simp [onX])
  have ht2 := ht.eqx hS2
  have hb2 : (addH i (emT [tK x] s)).1.length < 801 := by simp [addH, emT]; omega
  refine x_aload_n rfl rfl rfl ?_
  refine x_getR0 rfl rfl f_9_27 rfl (by decide) rfl rfl ?_
  refine x_iload_n rfl rfl rfl ?_
  refine x_ialdv (a := i) (v := nI 8) (ht2.1.trans (by rw [hk])) rfl rfl rfl (by decide) (by omega) (by decide) ?_
  refine x_bipush (v := nI 8) rfl rfl (by decide +kernel) ?_
  refine x_icmpN_ne (by omega) (by omega) rfl rfl (fun hc2 => absurd hc2 (by omega)) (fun hc2 => ?_)
  refine x_aload_n rfl rfl rfl ?_
  refine x_iconstN (b := 1) rfl rfl ?_
  refine x_callVe (k2 := 0) (d2 := 1) (c_memitNumber hG (by omega) (s := addH i (emT [tK x] s)) hw2 (by first | omega | (simp [emT, addT, addH, addR]; omega)) (n := 1) (by omega)) rfl rfl v_9_190 rfl rfl (by decide) rfl rfl (Nat.le_of_ble_eq_true rfl) (by omega) (Nat.zero_le _) (fun M3 q3 => ?_)
  have hS3 := hS2.tr q3.1
  have hw3 := q3.2
  have ht3 := ht.eqx hS3
  refine x_aload_n rfl rfl rfl ?_
  refine x_aload_n rfl rfl rfl ?_
  refine x_getR0 rfl rfl f_9_30 rfl (by decide) rfl rfl ?_
  refine x_iload_n rfl rfl rfl ?_
  refine x_laldv (a := i) (v := tD x) (ht3.2.2.2.2.2.2.2.1 hk) rfl rfl rfl (by decide) (by omega) (by decide) ?_
  refine x_callVe (k2 := 0) (d2 := 1) (c_memitEight hG (by omega) (s := emT (numB (1)) (addH i (emT [tK x] s))) hw3 (by first | omega | (simp [emT, addT, addH, addR]; omega)) (tD x)) rfl rfl v_9_201 rfl rfl (by decide) rfl rfl (Nat.le_of_ble_eq_true rfl) (by omega) (Nat.zero_le _) (fun M4 q4 => ?_)
  have hS4 := hS3.tr q4.1
  have hw4 := q4.2
  have ht4 := ht.eqx hS4
  refine x_goto rfl rfl ?_
  exact fr_e (x_vret rfl rfl rfl (Nat.zero_le _)) ⟨hS4, (by rw [show hdT A x (addH i (emT [tK x] s)) = _ from if_pos hk]; exact hw4)⟩
set_option maxHeartbeats 4000000 in
set_option maxRecDepth 20000 in
theorem c_mth12 (hG : Gok G) (hd : 4 ≤ d) (hwf : wfA A) {s : WS} (hw0 : WrM s M) (hb : s.1.length < 800) (hR : RM A M) {h : Nat} (hh : M.1 (40, 0) 28 = nI h) (hh2 : h ≤ 12) {i : Nat} {x : Th} (hx : (aH A)[i]? = some x) (hk : tK x = 12) (hp : lfx (s.2.2.1.map lN) (lN i) = none) (hh3 : ¬ h = 12) : Ce G mX9_emitThing d [.ref (ga G (40, 0)), .int (nI i)] M (.inl none) (fun M' => EqF onX M M' ∧ WrM (hdT A x (addH i (emT [tK x] s))) M') 0 := by
  have hS0 : EqF onX M M := EqF.rf
  have ht := hR.1.2.2.1 i x hx
  have ht0 := ht
  have hil := at_lt hx
  have hn40 := hR.n40
  have hl8 := ht.2.2.2.2.2.2.2.2.2.1
  have hk16 := ht.2.2.2.2.2.2.2.2.2.2.2.2
  have hok := hwf.2.2.1 _ (at_mem hx)
  have hn1 := numB_le 1
  have hhd : hdT A x (addH i (emT [tK x] s)) = emT (itB (tL x)) (emT (numB (2 * (tL x).length + 1)) (addH i (emT [tK x] s))) := by unfold hdT; rw [if_neg (by omega), if_pos hk]
  rw [hhd]
  refine ce_of hG okX9_emitThing (by decide +kernel) rfl (Nat.le_of_ble_eq_true rfl) ?_
  refine x_aload_n rfl rfl rfl ?_
  refine x_aload_n rfl rfl rfl ?_
  refine x_getR0 rfl rfl f_9_27 rfl (by decide) rfl rfl ?_
  refine x_iload_n rfl rfl rfl ?_
  refine x_ialdv (a := i) (v := nI (tK x)) ht0.1 rfl rfl rfl (by decide) (by omega) (by decide) ?_
  refine x_callVe (k2 := 0) (d2 := 0) (c_memit hG  (s := s) hw0 (by first | omega | (simp [emT, addT, addH, addR]; omega)) (tK x)) rfl rfl v_9_183 rfl rfl (by decide) rfl rfl (Nat.le_of_ble_eq_true rfl) (by omega) (Nat.zero_le _) (fun M1 q1 => ?_)
  have hS1 := hS0.tr q1.1
  have hw1 := q1.2
  have ht1 := ht.eqx hS1
  refine x_iconstN (b := 0) rfl rfl ?_
  refine x_istore_n rfl rfl rfl rfl ?_
  have hp1 : lfx ((emT [tK x] s).2.2.1.map lN) (lN i) = none := hp
  have hp2 := hp1
  unfold lfx at hp2
  rw [List.length_map] at hp2
  refine l_memitHN hG hw1 (by omega) _ 0 (Nat.zero_add _) hp2 ?_
  refine x_aload_n rfl rfl rfl ?_
  refine x_getIv (v := nI h) ((hS1 _ _ (by simp [onX])).1.trans hh) rfl rfl f_9_196 rfl (by decide) rfl ?_
  refine x_bipush (v := nI 12) rfl rfl (by decide +kernel) ?_
  refine x_icmpN_ne (by omega) (by omega) rfl rfl (fun hc1 => ?_) (fun hc1 => absurd hc1 (by omega))
  have hlen : (emT [tK x] s).2.2.1.length < 40 := by have := (hw1.pH (t := i) (by omega) hp1).2.2.2.2.2.2.2.2.2.2.1.len; simp [addH] at this; omega
  refine x_aload_n rfl rfl rfl ?_
  refine x_getR0 rfl rfl f_9_60 rfl (by decide) rfl rfl ?_
  refine x_aload_n rfl rfl rfl ?_
  refine x_getIv (v := nI ((emT [tK x] s).2.2.1.length)) hw1.2.2.2.2.2.1 rfl rfl f_9_211 rfl (by decide) rfl ?_
  refine x_iload_n rfl rfl rfl ?_
  refine x_iast (a := (emT [tK x] s).2.2.1.length) rfl rfl rfl (by decide) (by omega) (by decide) ?_
  refine x_aload_n rfl rfl rfl ?_
  refine x_dup rfl rfl rfl ?_
  refine x_getIv (v := nI ((emT [tK x] s).2.2.1.length)) (by first | exact hw1.2.2.2.2.2.1 | (rw [← hw1.2.2.2.2.2.1]; rfl) | simp [ui, ul, hw1.2.2.2.2.2.1]) rfl rfl f_9_211 rfl (by decide) rfl ?_
  refine x_iconstN (b := 1) rfl rfl ?_
  refine x_iaddN (a := (emT [tK x] s).2.2.1.length) (b := 1) rfl rfl ?_
  refine x_putI rfl rfl f_9_211 rfl rfl (by decide) rfl ?_
  have hw2 := hw1.pH (t := i) (by omega) hp1
  have hS2 : EqF onX M (ui (ui M1 (57, 0) ((emT [tK x] s).2.2.1.length) (nI i)) (40, 0) 24 (nI (((emT [tK x] s).2.2.1.length) + 1))) := (hS1.ui (by simp [onX])).ui (by simp [onX])
  have ht2 := ht.eqx hS2
  have hb2 : (addH i (emT [tK x] s)).1.length < 801 := by simp [addH, emT]; omega
  refine x_aload_n rfl rfl rfl ?_
  refine x_getR0 rfl rfl f_9_27 rfl (by decide) rfl rfl ?_
  refine x_iload_n rfl rfl rfl ?_
  refine x_ialdv (a := i) (v := nI 12) (ht2.1.trans (by rw [hk])) rfl rfl rfl (by decide) (by omega) (by decide) ?_
  refine x_bipush (v := nI 8) rfl rfl (by decide +kernel) ?_
  refine x_icmpN_ne (by omega) (by omega) rfl rfl (fun hc2 => ?_) (fun hc2 => absurd hc2 (by omega))
  refine x_aload_n rfl rfl rfl ?_
  refine x_getR0 rfl rfl f_9_27 rfl (by decide) rfl rfl ?_
  refine x_iload_n rfl rfl rfl ?_
  refine x_ialdv (a := i) (v := nI 12) (ht2.1.trans (by rw [hk])) rfl rfl rfl (by decide) (by omega) (by decide) ?_
  refine x_bipush (v := nI 12) rfl rfl (by decide +kernel) ?_
  refine x_icmpN_ne (by omega) (by omega) rfl rfl (fun hc3 => absurd hc3 (by omega)) (fun hc3 => ?_)
  refine x_aload_n rfl rfl rfl ?_
  refine x_iconstN (b := 2) rfl rfl ?_
  refine x_aload_n rfl rfl rfl ?_
  refine x_getR0 rfl rfl f_9_33 rfl (by decide) rfl rfl ?_
  refine x_iload_n rfl rfl rfl ?_
  refine x_ialdv (a := i) (v := nI ((tL x).length)) ht2.2.1 rfl rfl rfl (by decide) (by omega) (by decide) ?_
  refine x_imulN (a := 2) (b := (tL x).length) rfl rfl ?_
  refine x_iconstN (b := 1) rfl rfl ?_
  refine x_iaddN (a := 2 * ((tL x).length)) (b := 1) rfl rfl ?_
  refine x_callVe (k2 := 0) (d2 := 1) (c_memitNumber hG (by omega) (s := addH i (emT [tK x] s)) hw2 (by first | omega | (simp [emT, addT, addH, addR]; omega)) (n := (2 * ((tL x).length)) + 1) (by omega)) rfl rfl v_9_190 rfl rfl (by decide) rfl rfl (Nat.le_of_ble_eq_true rfl) (by omega) (Nat.zero_le _) (fun M3 q3 => ?_)
  have hS3 := hS2.tr q3.1
  have hw3 := q3.2
  have ht3 := ht.eqx hS3
  refine x_iconstN (b := 0) rfl rfl ?_
  refine x_istore_n rfl rfl rfl rfl ?_
  exact Fr_w (l_memitB hG (by omega) (by omega) hk ht _ 0 (Nat.zero_add _) _ M3 hw3 hS3 (by have := numB_le (2 * (tL x).length + 1); simp [emT, addH]; omega))
set_option maxHeartbeats 4000000 in
set_option maxRecDepth 20000 in
theorem c_mth9 (hG : Gok G) (hd : 4 ≤ d) (hwf : wfA A) {s : WS} (hw0 : WrM s M) (hb : s.1.length < 800) (hR : RM A M) {h : Nat} (hh : M.1 (40, 0) 28 = nI h) (hh2 : h ≤ 12) {i : Nat} {x : Th} (hx : (aH A)[i]? = some x) (hk : tK x = 9) (hp : lfx (s.2.2.1.map lN) (lN i) = none) (hh3 : ¬ h = 12) : Ce G mX9_emitThing d [.ref (ga G (40, 0)), .int (nI i)] M (.inl none) (fun M' => EqF (onS h) M M' ∧ WrM (hdT A x (addH i (emT [tK x] s))) M' ∧ Top A h i M') 0 := by
  have hS0 : EqF onX M M := EqF.rf
  have ht := hR.1.2.2.1 i x hx
  have ht0 := ht
  have hil := at_lt hx
  have hn40 := hR.n40
  have hl8 := ht.2.2.2.2.2.2.2.2.2.1
  have hk16 := ht.2.2.2.2.2.2.2.2.2.2.2.2
  have hok := hwf.2.2.1 _ (at_mem hx)
  have hn1 := numB_le 1
  have hhd : hdT A x (addH i (emT [tK x] s)) = emT (numB (2 * (tL x).length + 1)) (addH i (emT [tK x] s)) := by unfold hdT; rw [if_neg (by omega), if_neg (by omega), if_pos hk]
  rw [hhd]
  refine ce_of hG okX9_emitThing (by decide +kernel) rfl (Nat.le_of_ble_eq_true rfl) ?_
  refine x_aload_n rfl rfl rfl ?_
  refine x_aload_n rfl rfl rfl ?_
  refine x_getR0 rfl rfl f_9_27 rfl (by decide) rfl rfl ?_
  refine x_iload_n rfl rfl rfl ?_
  refine x_ialdv (a := i) (v := nI (tK x)) ht0.1 rfl rfl rfl (by decide) (by omega) (by decide) ?_
  refine x_callVe (k2 := 0) (d2 := 0) (c_memit hG  (s := s) hw0 (by first | omega | (simp [emT, addT, addH, addR]; omega)) (tK x)) rfl rfl v_9_183 rfl rfl (by decide) rfl rfl (Nat.le_of_ble_eq_true rfl) (by omega) (Nat.zero_le _) (fun M1 q1 => ?_)
  have hS1 := hS0.tr q1.1
  have hw1 := q1.2
  have ht1 := ht.eqx hS1
  refine x_iconstN (b := 0) rfl rfl ?_
  refine x_istore_n rfl rfl rfl rfl ?_
  have hp1 : lfx ((emT [tK x] s).2.2.1.map lN) (lN i) = none := hp
  have hp2 := hp1
  unfold lfx at hp2
  rw [List.length_map] at hp2
  refine l_memitHN hG hw1 (by omega) _ 0 (Nat.zero_add _) hp2 ?_
  refine x_aload_n rfl rfl rfl ?_
  refine x_getIv (v := nI h) ((hS1 _ _ (by simp [onX])).1.trans hh) rfl rfl f_9_196 rfl (by decide) rfl ?_
  refine x_bipush (v := nI 12) rfl rfl (by decide +kernel) ?_
  refine x_icmpN_ne (by omega) (by omega) rfl rfl (fun hc1 => ?_) (fun hc1 => absurd hc1 (by omega))
  have hlen : (emT [tK x] s).2.2.1.length < 40 := by have := (hw1.pH (t := i) (by omega) hp1).2.2.2.2.2.2.2.2.2.2.1.len; simp [addH] at this; omega
  refine x_aload_n rfl rfl rfl ?_
  refine x_getR0 rfl rfl f_9_60 rfl (by decide) rfl rfl ?_
  refine x_aload_n rfl rfl rfl ?_
  refine x_getIv (v := nI ((emT [tK x] s).2.2.1.length)) hw1.2.2.2.2.2.1 rfl rfl f_9_211 rfl (by decide) rfl ?_
  refine x_iload_n rfl rfl rfl ?_
  refine x_iast (a := (emT [tK x] s).2.2.1.length) rfl rfl rfl (by decide) (by omega) (by decide) ?_
  refine x_aload_n rfl rfl rfl ?_
  refine x_dup rfl rfl rfl ?_
  refine x_getIv (v := nI ((emT [tK x] s).2.2.1.length)) (by first | exact hw1.2.2.2.2.2.1 | (rw [← hw1.2.2.2.2.2.1]; rfl) | simp [ui, ul, hw1.2.2.2.2.2.1]) rfl rfl f_9_211 rfl (by decide) rfl ?_
  refine x_iconstN (b := 1) rfl rfl ?_
  refine x_iaddN (a := (emT [tK x] s).2.2.1.length) (b := 1) rfl rfl ?_
  refine x_putI rfl rfl f_9_211 rfl rfl (by decide) rfl ?_
  have hw2 := hw1.pH (t := i) (by omega) hp1
  have hS2 : EqF onX M (ui (ui M1 (57, 0) ((emT [tK x] s).2.2.1.length) (nI i)) (40, 0) 24 (nI (((emT [tK x] s).2.2.1.length) + 1))) := (hS1.ui (by simp [onX])).ui (by simp [onX])
  have ht2 := ht.eqx hS2
  have hb2 : (addH i (emT [tK x] s)).1.length < 801 := by simp [addH, emT]; omega
  refine x_aload_n rfl rfl rfl ?_
  refine x_getR0 rfl rfl f_9_27 rfl (by decide) rfl rfl ?_
  refine x_iload_n rfl rfl rfl ?_
  refine x_ialdv (a := i) (v := nI 9) (ht2.1.trans (by rw [hk])) rfl rfl rfl (by decide) (by omega) (by decide) ?_
  refine x_bipush (v := nI 8) rfl rfl (by decide +kernel) ?_
  refine x_icmpN_ne (by omega) (by omega) rfl rfl (fun hc2 => ?_) (fun hc2 => absurd hc2 (by omega))
  refine x_aload_n rfl rfl rfl ?_
  refine x_getR0 rfl rfl f_9_27 rfl (by decide) rfl rfl ?_
  refine x_iload_n rfl rfl rfl ?_
  refine x_ialdv (a := i) (v := nI 9) (ht2.1.trans (by rw [hk])) rfl rfl rfl (by decide) (by omega) (by decide) ?_
  refine x_bipush (v := nI 12) rfl rfl (by decide +kernel) ?_
  refine x_icmpN_ne (by omega) (by omega) rfl rfl (fun hc3 => ?_) (fun hc3 => absurd hc3 (by omega))
  refine x_aload_n rfl rfl rfl ?_
  refine x_getR0 rfl rfl f_9_27 rfl (by decide) rfl rfl ?_
  refine x_iload_n rfl rfl rfl ?_
  refine x_ialdv (a := i) (v := nI 9) (ht2.1.trans (by rw [hk])) rfl rfl rfl (by decide) (by omega) (by decide) ?_
  refine x_bipush (v := nI 9) rfl rfl (by decide +kernel) ?_
  refine x_icmpN_ne (by omega) (by omega) rfl rfl (fun hc4 => absurd hc4 (by omega)) (fun hc4 => ?_)
  refine x_aload_n rfl rfl rfl ?_
  refine x_iconstN (b := 2) rfl rfl ?_
  refine x_aload_n rfl rfl rfl ?_
  refine x_getR0 rfl rfl f_9_33 rfl (by decide) rfl rfl ?_
  refine x_iload_n rfl rfl rfl ?_
  refine x_ialdv (a := i) (v := nI ((tL x).length)) ht2.2.1 rfl rfl rfl (by decide) (by omega) (by decide) ?_
  refine x_imulN (a := 2) (b := (tL x).length) rfl rfl ?_
  refine x_iconstN (b := 1) rfl rfl ?_
  refine x_iaddN (a := 2 * ((tL x).length)) (b := 1) rfl rfl ?_
  refine x_callVe (k2 := 0) (d2 := 1) (c_memitNumber hG (by omega) (s := addH i (emT [tK x] s)) hw2 (by first | omega | (simp [emT, addT, addH, addR]; omega)) (n := (2 * ((tL x).length)) + 1) (by omega)) rfl rfl v_9_190 rfl rfl (by decide) rfl rfl (Nat.le_of_ble_eq_true rfl) (by omega) (Nat.zero_le _) (fun M3 q3 => ?_)
  have hS3 := hS2.tr q3.1
  have hw3 := q3.2
  have ht3 := ht.eqx hS3
  refine x_aload_n rfl rfl rfl ?_
  refine x_iload_n rfl rfl rfl ?_
  refine x_callVv (d2 := 2) (c_mpush9 (h := h) (n := (aH A).length) hG (Nat.le_refl 2) ((hS3 _ _ (by simp [onX])).1.trans hh) (by omega) ((hS3 _ _ (by simp [onX])).1.trans hR.2.2.2.1) hn40 hil (ht3.1.trans (by rw [hk]))) rfl rfl v_9_214 rfl rfl (by decide) rfl rfl (Nat.le_of_ble_eq_true rfl) (by omega) (by omega) ?_
  refine x_goto rfl rfl ?_
  exact fr_e (x_vret rfl rfl rfl (Nat.zero_le _)) ⟨((((hS3.s.ui (by simp [onS])).ui (by simp [onS])).ui (by simp [onS])).ui (by simp [onS])).ui (by simp [onS]), hw3.eq (((((EqF.rf.ui (by simp [onV])).ui (by simp [onV])).ui (by simp [onV])).ui (by simp [onV])).ui (by simp [onV])), by simp [ui], by simp [ui], by simp [ui], by simp [ui], fun x' hx' => by cases hx.symm.trans hx'; simp only [ui_v]; exact (bI_f (fun z => absurd z.1 (by omega))).symm⟩
set_option maxHeartbeats 4000000 in
set_option maxRecDepth 20000 in
theorem c_mth10D (hG : Gok G) (hd : 4 ≤ d) (hwf : wfA A) {s : WS} (hw0 : WrM s M) (hb : s.1.length < 800) (hR : RM A M) {h : Nat} (hh : M.1 (40, 0) 28 = nI h) (hh2 : h ≤ 12) {i : Nat} {x : Th} (hx : (aH A)[i]? = some x) (hk : tK x = 10) (hp : lfx (s.2.2.1.map lN) (lN i) = none) (hh3 : ¬ h = 12) {y : Tr} (hy : (aT A)[tT x]? = some y) (hdd : rD y = true) : Ce G mX9_emitThing d [.ref (ga G (40, 0)), .int (nI i)] M (.inl none) (fun M' => EqF (onS h) M M' ∧ WrM (hdT A x (addH i (emT [tK x] s))) M' ∧ Top A h i M') 0 := by
  have hS0 : EqF onX M M := EqF.rf
  have ht := hR.1.2.2.1 i x hx
  have ht0 := ht
  have hil := at_lt hx
  have hn40 := hR.n40
  have hl8 := ht.2.2.2.2.2.2.2.2.2.1
  have hk16 := ht.2.2.2.2.2.2.2.2.2.2.2.2
  have hok := hwf.2.2.1 _ (at_mem hx)
  have hn1 := numB_le 1
  have hhd : hdT A x (addH i (emT [tK x] s)) = trT y (tT x) (addH i (emT [tK x] s)) := by unfold hdT; rw [if_neg (by omega), if_neg (by omega), if_neg (by omega), hy]
  rw [hhd]
  have hyl := at_lt hy
  have hn12 := hR.n12
  have hdy : dynA A x = rD y := by unfold dynA; rw [hy]
  refine ce_of hG okX9_emitThing (by decide +kernel) rfl (Nat.le_of_ble_eq_true rfl) ?_
  refine x_aload_n rfl rfl rfl ?_
  refine x_aload_n rfl rfl rfl ?_
  refine x_getR0 rfl rfl f_9_27 rfl (by decide) rfl rfl ?_
  refine x_iload_n rfl rfl rfl ?_
  refine x_ialdv (a := i) (v := nI (tK x)) ht0.1 rfl rfl rfl (by decide) (by omega) (by decide) ?_
  refine x_callVe (k2 := 0) (d2 := 0) (c_memit hG  (s := s) hw0 (by first | omega | (simp [emT, addT, addH, addR]; omega)) (tK x)) rfl rfl v_9_183 rfl rfl (by decide) rfl rfl (Nat.le_of_ble_eq_true rfl) (by omega) (Nat.zero_le _) (fun M1 q1 => ?_)
  have hS1 := hS0.tr q1.1
  have hw1 := q1.2
  have ht1 := ht.eqx hS1
  refine x_iconstN (b := 0) rfl rfl ?_
  refine x_istore_n rfl rfl rfl rfl ?_
  have hp1 : lfx ((emT [tK x] s).2.2.1.map lN) (lN i) = none := hp
  have hp2 := hp1
  unfold lfx at hp2
  rw [List.length_map] at hp2
  refine l_memitHN hG hw1 (by omega) _ 0 (Nat.zero_add _) hp2 ?_
  refine x_aload_n rfl rfl rfl ?_
  refine x_getIv (v := nI h) ((hS1 _ _ (by simp [onX])).1.trans hh) rfl rfl f_9_196 rfl (by decide) rfl ?_
  refine x_bipush (v := nI 12) rfl rfl (by decide +kernel) ?_
  refine x_icmpN_ne (by omega) (by omega) rfl rfl (fun hc1 => ?_) (fun hc1 => absurd hc1 (by omega))
  have hlen : (emT [tK x] s).2.2.1.length < 40 := by have := (hw1.pH (t := i) (by omega) hp1).2.2.2.2.2.2.2.2.2.2.1.len; simp [addH] at this; omega
  refine x_aload_n rfl rfl rfl ?_
  refine x_getR0 rfl rfl f_9_60 rfl (by decide) rfl rfl ?_
  refine x_aload_n rfl rfl rfl ?_
  refine x_getIv (v := nI ((emT [tK x] s).2.2.1.length)) hw1.2.2.2.2.2.1 rfl rfl f_9_211 rfl (by decide) rfl ?_
  refine x_iload_n rfl rfl rfl ?_
  refine x_iast (a := (emT [tK x] s).2.2.1.length) rfl rfl rfl (by decide) (by omega) (by decide) ?_
  refine x_aload_n rfl rfl rfl ?_
  refine x_dup rfl rfl rfl ?_
  refine x_getIv (v := nI ((emT [tK x] s).2.2.1.length)) (by first | exact hw1.2.2.2.2.2.1 | (rw [← hw1.2.2.2.2.2.1]; rfl) | simp [ui, ul, hw1.2.2.2.2.2.1]) rfl rfl f_9_211 rfl (by decide) rfl ?_
  refine x_iconstN (b := 1) rfl rfl ?_
  refine x_iaddN (a := (emT [tK x] s).2.2.1.length) (b := 1) rfl rfl ?_
  refine x_putI rfl rfl f_9_211 rfl rfl (by decide) rfl ?_
  have hw2 := hw1.pH (t := i) (by omega) hp1
  have hS2 : EqF onX M (ui (ui M1 (57, 0) ((emT [tK x] s).2.2.1.length) (nI i)) (40, 0) 24 (nI (((emT [tK x] s).2.2.1.length) + 1))) := (hS1.ui (by simp [onX])).ui (by simp [onX])
  have ht2 := ht.eqx hS2
  have hb2 : (addH i (emT [tK x] s)).1.length < 801 := by simp [addH, emT]; omega
  refine x_aload_n rfl rfl rfl ?_
  refine x_getR0 rfl rfl f_9_27 rfl (by decide) rfl rfl ?_
  refine x_iload_n rfl rfl rfl ?_
  refine x_ialdv (a := i) (v := nI 10) (ht2.1.trans (by rw [hk])) rfl rfl rfl (by decide) (by omega) (by decide) ?_
  refine x_bipush (v := nI 8) rfl rfl (by decide +kernel) ?_
  refine x_icmpN_ne (by omega) (by omega) rfl rfl (fun hc2 => ?_) (fun hc2 => absurd hc2 (by omega))
  refine x_aload_n rfl rfl rfl ?_
  refine x_getR0 rfl rfl f_9_27 rfl (by decide) rfl rfl ?_
  refine x_iload_n rfl rfl rfl ?_
  refine x_ialdv (a := i) (v := nI 10) (ht2.1.trans (by rw [hk])) rfl rfl rfl (by decide) (by omega) (by decide) ?_
  refine x_bipush (v := nI 12) rfl rfl (by decide +kernel) ?_
  refine x_icmpN_ne (by omega) (by omega) rfl rfl (fun hc3 => ?_) (fun hc3 => absurd hc3 (by omega))
  refine x_aload_n rfl rfl rfl ?_
  refine x_getR0 rfl rfl f_9_27 rfl (by decide) rfl rfl ?_
  refine x_iload_n rfl rfl rfl ?_
  refine x_ialdv (a := i) (v := nI 10) (ht2.1.trans (by rw [hk])) rfl rfl rfl (by decide) (by omega) (by decide) ?_
  refine x_bipush (v := nI 9) rfl rfl (by decide +kernel) ?_
  refine x_icmpN_ne (by omega) (by omega) rfl rfl (fun hc4 => ?_) (fun hc4 => absurd hc4 (by omega))
  refine x_aload_n rfl rfl rfl ?_
  refine x_aload_n rfl rfl rfl ?_
  refine x_getR0 rfl rfl f_9_36 rfl (by decide) rfl rfl ?_
  refine x_iload_n rfl rfl rfl ?_
  refine x_ialdv (a := i) (v := nI (tT x)) (ht2.2.2.1.trans (if_pos hk)) rfl rfl rfl (by decide) (by omega) (by decide) ?_
  refine x_callVe (k2 := 0) (d2 := 3) (c_memitTraits hG (by omega) (s := addH i (emT [tK x] s)) hw2 (by first | omega | (simp [emT, addT, addH, addR]; omega)) (t := tT x) (by omega) (x := y) (hwf.1 _ (at_mem hy)) ((hR.1.2.1 _ _ hy).eq hS2.r)) rfl rfl v_9_217 rfl rfl (by decide) rfl rfl (Nat.le_of_ble_eq_true rfl) (by omega) (Nat.zero_le _) (fun M3 q3 => ?_)
  have hS3 := hS2.tr q3.1
  have hw3 := q3.2
  have ht3 := ht.eqx hS3
  refine x_aload_n rfl rfl rfl ?_
  refine x_iload_n rfl rfl rfl ?_
  refine x_callVv (d2 := 2) (c_mpush10D (h := h) (n := (aH A).length) (t := tT x) hG (Nat.le_refl 2) ((hS3 _ _ (by simp [onX])).1.trans hh) (by omega) ((hS3 _ _ (by simp [onX])).1.trans hR.2.2.2.1) hn40 hil (ht3.1.trans (by rw [hk])) (by omega) (rD y = true) (ht3.2.2.1.trans (if_pos hk)) ((hR.1.2.1 _ _ hy).eq hS3.r).2.1 hdd) rfl rfl v_9_214 rfl rfl (by decide) rfl rfl (Nat.le_of_ble_eq_true rfl) (by omega) (by omega) ?_
  exact fr_e (x_vret rfl rfl rfl (Nat.zero_le _)) ⟨((((hS3.s.ui (by simp [onS])).ui (by simp [onS])).ui (by simp [onS])).ui (by simp [onS])).ui (by simp [onS]), hw3.eq (((((EqF.rf.ui (by simp [onV])).ui (by simp [onV])).ui (by simp [onV])).ui (by simp [onV])).ui (by simp [onV])), by simp [ui], by simp [ui], by simp [ui], by simp [ui], fun x' hx' => by cases hx.symm.trans hx'; simp only [ui_v]; exact (bI_f (fun z => z.2 (hdy.trans hdd))).symm⟩
set_option maxHeartbeats 4000000 in
set_option maxRecDepth 20000 in
theorem c_mth10S (hG : Gok G) (hd : 4 ≤ d) (hwf : wfA A) {s : WS} (hw0 : WrM s M) (hb : s.1.length < 800) (hR : RM A M) {h : Nat} (hh : M.1 (40, 0) 28 = nI h) (hh2 : h ≤ 12) {i : Nat} {x : Th} (hx : (aH A)[i]? = some x) (hk : tK x = 10) (hp : lfx (s.2.2.1.map lN) (lN i) = none) (hh3 : ¬ h = 12) {y : Tr} (hy : (aT A)[tT x]? = some y) (hdd : ¬ rD y = true) : Ce G mX9_emitThing d [.ref (ga G (40, 0)), .int (nI i)] M (.inl none) (fun M' => EqF (onS h) M M' ∧ WrM (hdT A x (addH i (emT [tK x] s))) M' ∧ Top A h i M') 0 := by
  have hS0 : EqF onX M M := EqF.rf
  have ht := hR.1.2.2.1 i x hx
  have ht0 := ht
  have hil := at_lt hx
  have hn40 := hR.n40
  have hl8 := ht.2.2.2.2.2.2.2.2.2.1
  have hk16 := ht.2.2.2.2.2.2.2.2.2.2.2.2
  have hok := hwf.2.2.1 _ (at_mem hx)
  have hn1 := numB_le 1
  have hhd : hdT A x (addH i (emT [tK x] s)) = trT y (tT x) (addH i (emT [tK x] s)) := by unfold hdT; rw [if_neg (by omega), if_neg (by omega), if_neg (by omega), hy]
  rw [hhd]
  have hyl := at_lt hy
  have hn12 := hR.n12
  have hdy : dynA A x = rD y := by unfold dynA; rw [hy]
  refine ce_of hG okX9_emitThing (by decide +kernel) rfl (Nat.le_of_ble_eq_true rfl) ?_
  refine x_aload_n rfl rfl rfl ?_
  refine x_aload_n rfl rfl rfl ?_
  refine x_getR0 rfl rfl f_9_27 rfl (by decide) rfl rfl ?_
  refine x_iload_n rfl rfl rfl ?_
  refine x_ialdv (a := i) (v := nI (tK x)) ht0.1 rfl rfl rfl (by decide) (by omega) (by decide) ?_
  refine x_callVe (k2 := 0) (d2 := 0) (c_memit hG  (s := s) hw0 (by first | omega | (simp [emT, addT, addH, addR]; omega)) (tK x)) rfl rfl v_9_183 rfl rfl (by decide) rfl rfl (Nat.le_of_ble_eq_true rfl) (by omega) (Nat.zero_le _) (fun M1 q1 => ?_)
  have hS1 := hS0.tr q1.1
  have hw1 := q1.2
  have ht1 := ht.eqx hS1
  refine x_iconstN (b := 0) rfl rfl ?_
  refine x_istore_n rfl rfl rfl rfl ?_
  have hp1 : lfx ((emT [tK x] s).2.2.1.map lN) (lN i) = none := hp
  have hp2 := hp1
  unfold lfx at hp2
  rw [List.length_map] at hp2
  refine l_memitHN hG hw1 (by omega) _ 0 (Nat.zero_add _) hp2 ?_
  refine x_aload_n rfl rfl rfl ?_
  refine x_getIv (v := nI h) ((hS1 _ _ (by simp [onX])).1.trans hh) rfl rfl f_9_196 rfl (by decide) rfl ?_
  refine x_bipush (v := nI 12) rfl rfl (by decide +kernel) ?_
  refine x_icmpN_ne (by omega) (by omega) rfl rfl (fun hc1 => ?_) (fun hc1 => absurd hc1 (by omega))
  have hlen : (emT [tK x] s).2.2.1.length < 40 := by have := (hw1.pH (t := i) (by omega) hp1).2.2.2.2.2.2.2.2.2.2.1.len; simp [addH] at this; omega
  refine x_aload_n rfl rfl rfl ?_
  refine x_getR0 rfl rfl f_9_60 rfl (by decide) rfl rfl ?_
  refine x_aload_n rfl rfl rfl ?_
  refine x_getIv (v := nI ((emT [tK x] s).2.2.1.length)) hw1.2.2.2.2.2.1 rfl rfl f_9_211 rfl (by decide) rfl ?_
  refine x_iload_n rfl rfl rfl ?_
  refine x_iast (a := (emT [tK x] s).2.2.1.length) rfl rfl rfl (by decide) (by omega) (by decide) ?_
  refine x_aload_n rfl rfl rfl ?_
  refine x_dup rfl rfl rfl ?_
  refine x_getIv (v := nI ((emT [tK x] s).2.2.1.length)) (by first | exact hw1.2.2.2.2.2.1 | (rw [← hw1.2.2.2.2.2.1]; rfl) | simp [ui, ul, hw1.2.2.2.2.2.1]) rfl rfl f_9_211 rfl (by decide) rfl ?_
  refine x_iconstN (b := 1) rfl rfl ?_
  refine x_iaddN (a := (emT [tK x] s).2.2.1.length) (b := 1) rfl rfl ?_
  refine x_putI rfl rfl f_9_211 rfl rfl (by decide) rfl ?_
  have hw2 := hw1.pH (t := i) (by omega) hp1
  have hS2 : EqF onX M (ui (ui M1 (57, 0) ((emT [tK x] s).2.2.1.length) (nI i)) (40, 0) 24 (nI (((emT [tK x] s).2.2.1.length) + 1))) := (hS1.ui (by simp [onX])).ui (by simp [onX])
  have ht2 := ht.eqx hS2
  have hb2 : (addH i (emT [tK x] s)).1.length < 801 := by simp [addH, emT]; omega
  refine x_aload_n rfl rfl rfl ?_
  refine x_getR0 rfl rfl f_9_27 rfl (by decide) rfl rfl ?_
  refine x_iload_n rfl rfl rfl ?_
  refine x_ialdv (a := i) (v := nI 10) (ht2.1.trans (by rw [hk])) rfl rfl rfl (by decide) (by omega) (by decide) ?_
  refine x_bipush (v := nI 8) rfl rfl (by decide +kernel) ?_
  refine x_icmpN_ne (by omega) (by omega) rfl rfl (fun hc2 => ?_) (fun hc2 => absurd hc2 (by omega))
  refine x_aload_n rfl rfl rfl ?_
  refine x_getR0 rfl rfl f_9_27 rfl (by decide) rfl rfl ?_
  refine x_iload_n rfl rfl rfl ?_
  refine x_ialdv (a := i) (v := nI 10) (ht2.1.trans (by rw [hk])) rfl rfl rfl (by decide) (by omega) (by decide) ?_
  refine x_bipush (v := nI 12) rfl rfl (by decide +kernel) ?_
  refine x_icmpN_ne (by omega) (by omega) rfl rfl (fun hc3 => ?_) (fun hc3 => absurd hc3 (by omega))
  refine x_aload_n rfl rfl rfl ?_
  refine x_getR0 rfl rfl f_9_27 rfl (by decide) rfl rfl ?_
  refine x_iload_n rfl rfl rfl ?_
  refine x_ialdv (a := i) (v := nI 10) (ht2.1.trans (by rw [hk])) rfl rfl rfl (by decide) (by omega) (by decide) ?_
  refine x_bipush (v := nI 9) rfl rfl (by decide +kernel) ?_
  refine x_icmpN_ne (by omega) (by omega) rfl rfl (fun hc4 => ?_) (fun hc4 => absurd hc4 (by omega))
  refine x_aload_n rfl rfl rfl ?_
  refine x_aload_n rfl rfl rfl ?_
  refine x_getR0 rfl rfl f_9_36 rfl (by decide) rfl rfl ?_
  refine x_iload_n rfl rfl rfl ?_
  refine x_ialdv (a := i) (v := nI (tT x)) (ht2.2.2.1.trans (if_pos hk)) rfl rfl rfl (by decide) (by omega) (by decide) ?_
  refine x_callVe (k2 := 0) (d2 := 3) (c_memitTraits hG (by omega) (s := addH i (emT [tK x] s)) hw2 (by first | omega | (simp [emT, addT, addH, addR]; omega)) (t := tT x) (by omega) (x := y) (hwf.1 _ (at_mem hy)) ((hR.1.2.1 _ _ hy).eq hS2.r)) rfl rfl v_9_217 rfl rfl (by decide) rfl rfl (Nat.le_of_ble_eq_true rfl) (by omega) (Nat.zero_le _) (fun M3 q3 => ?_)
  have hS3 := hS2.tr q3.1
  have hw3 := q3.2
  have ht3 := ht.eqx hS3
  refine x_aload_n rfl rfl rfl ?_
  refine x_iload_n rfl rfl rfl ?_
  refine x_callVv (d2 := 2) (c_mpush10S (h := h) (n := (aH A).length) (t := tT x) hG (Nat.le_refl 2) ((hS3 _ _ (by simp [onX])).1.trans hh) (by omega) ((hS3 _ _ (by simp [onX])).1.trans hR.2.2.2.1) hn40 hil (ht3.1.trans (by rw [hk])) (by omega) (rD y = true) (ht3.2.2.1.trans (if_pos hk)) ((hR.1.2.1 _ _ hy).eq hS3.r).2.1 hdd) rfl rfl v_9_214 rfl rfl (by decide) rfl rfl (Nat.le_of_ble_eq_true rfl) (by omega) (by omega) ?_
  exact fr_e (x_vret rfl rfl rfl (Nat.zero_le _)) ⟨((((hS3.s.ui (by simp [onS])).ui (by simp [onS])).ui (by simp [onS])).ui (by simp [onS])).ui (by simp [onS]), hw3.eq (((((EqF.rf.ui (by simp [onV])).ui (by simp [onV])).ui (by simp [onV])).ui (by simp [onV])).ui (by simp [onV])), by simp [ui], by simp [ui], by simp [ui], by simp [ui], fun x' hx' => by cases hx.symm.trans hx'; simp only [ui_v]; exact (bI_t ⟨hk, fun z => hdd (hdy.symm.trans z)⟩).symm⟩
end M4
