/-! THE MODEL WHERE IT WRITES: frames by fields, and what is written without a bound -/
def EqF (on : Ky → Nat → Prop) (M M' : Mm) : Prop := ∀ (k : Ky) (j : Nat), on k j → M'.1 k j = M.1 k j ∧ M'.2 k j = M.2 k j
theorem EqF.rf {on : Ky → Nat → Prop} {M : Mm} : EqF on M M := fun _ _ _ => ⟨rfl, rfl⟩
theorem EqF.tr {on : Ky → Nat → Prop} {M M1 M2 : Mm} (h : EqF on M M1) (h2 : EqF on M1 M2) : EqF on M M2 := fun k j hk => ⟨(h2 k j hk).1.trans (h k j hk).1, (h2 k j hk).2.trans (h k j hk).2⟩
theorem EqF.ui {on : Ky → Nat → Prop} {M M1 : Mm} {k : Ky} {j : Nat} {x : Int32} (h : EqF on M M1) (hk : ¬ on k j) : EqF on M (ui M1 k j x) := by
  intro k' j' hk'
  refine ⟨(ui_ne ?_).trans (h k' j' hk').1, (h k' j' hk').2⟩
  by_cases e : k' = k
  · exact Or.inr fun e2 => hk (e ▸ e2 ▸ hk')
  · exact Or.inl e
theorem EqF.ul {on : Ky → Nat → Prop} {M M1 : Mm} {k : Ky} {j : Nat} {x : Int64} (h : EqF on M M1) (hk : ¬ on k j) : EqF on M (ul M1 k j x) := by
  intro k' j' hk'
  refine ⟨(h k' j' hk').1, (ul_ne ?_).trans (h k' j' hk').2⟩
  by_cases e : k' = k
  · exact Or.inr fun e2 => hk (e ▸ e2 ▸ hk')
  · exact Or.inl e
theorem EqF.sub {on on' : Ky → Nat → Prop} {M M1 : Mm} (h : EqF on M M1) (hs : ∀ k j, on' k j → on k j) : EqF on' M M1 := fun k j hk => h k j (hs k j hk)
/-- what writing bytes, texts and traits leaves -/
def onX (k : Ky) (j : Nat) : Prop := k.1 ≠ 56 ∧ k.1 ≠ 57 ∧ k.1 ≠ 58 ∧ k.1 ≠ 63 ∧ (k.1 = 40 → j ≠ 22 ∧ j ≠ 24 ∧ j ≠ 26 ∧ j ≠ 33 ∧ j ≠ 35)
def WrM (s : WS) (M : Mm) : Prop := M.1 (40, 0) 33 = nI s.1.length ∧ LN (M.1 (63, 0)) (s.1.take 600) ∧ M.1 (40, 0) 35 = bI (600 < s.1.length) ∧ M.1 (40, 0) 22 = nI s.2.1.length ∧ LI (M.2 (56, 0)) s.2.1 ∧
  M.1 (40, 0) 24 = nI s.2.2.1.length ∧ LN (M.1 (57, 0)) s.2.2.1 ∧ M.1 (40, 0) 26 = nI s.2.2.2.length ∧ LN (M.1 (58, 0)) s.2.2.2 ∧ 2 * s.2.1.length ≤ s.1.length ∧ Nd 40 s.2.2.1 ∧ Nd 12 s.2.2.2 ∧ ¬ (0 : Int64) ∈ s.2.1
def emT (l : List Nat) (s : WS) : WS := (s.1 ++ l, s.2)
theorem emT_cons (b : Nat) (l : List Nat) (s : WS) : emT (b :: l) s = emT l (emT [b] s) := by simp [emT]
theorem emT_app (l l' : List Nat) (s : WS) : emT (l ++ l') s = emT l' (emT l s) := by simp [emT]
theorem emT_nil (s : WS) : emT [] s = s := by simp [emT]
def strT (t : Int64) (s : WS) : WS := match lfx s.2.1 t with
  | some p => emT (numB (2 * p)) s
  | none => addT t (emT (ltF t 0 (cz (uN t) 0 7)) (emT (numB (2 * cz (uN t) 0 7 + 1)) s))
def strsT : List Int64 → WS → WS
  | [], s => s
  | t :: l, s => strsT l (strT t s)
def CX (G : Gd) (y : Mt) (d : Nat) (av : List Value) (M : Mm) (s : WS) : Prop := Ce G y d av M (.inl none) (fun M' => EqF onX M M' ∧ WrM s M') 0
def FX (G : Gd) (y : Mt) (d : Nat) (M0 : Mm) (s : WS) (pc : Nat) (lv : List (Nat × Value)) (st : List Value) (M : Mm) : Prop := Fr G y d 0 (Ze G (.inl none) (fun M' => EqF onX M0 M' ∧ WrM s M') 0) 0 pc lv st M
section XM
variable {G : Gd} {y : Mt} {d : Nat} {pc n t : Nat} {lv lv' : List (Nat × Value)} {st : List Value} {M M0 : Mm} {s : WS}
theorem xm_call {y2 : Mt} {d2 np idx : Nat} {q : Ky} {ci : Nat} {u : u_T × Nat} {As rest : List Value} {s1 : WS} (hC : CX G y2 d2 (.ref (ga G q) :: As) M s1) (hS : EqF onX M0 M) (hi : tget (yT y) pc = some (.invokevirtual idx, n, t)) (hn : pc + 3 = n) (hl : LkV (yC y) idx y2 np)
    (hs : shp q.1 = some (.inl ci)) (hcl : vwCl[ci]? = some ((yN y2).cls, u)) (hc : q.2 < cnt q.1) (hnp : As.length = np) (hst : st = As.reverse ++ .ref (ga G q) :: rest) (hW : (rest.map fun v => v.category).sum ≤ 8) (hd : d2 + 1 ≤ d)
    (kk : ∀ (M1 : Mm), WrM s1 M1 → EqF onX M0 M1 → FX G y d M0 s n lv rest M1) : FX G y d M0 s pc lv st M :=
  x_callVe (k2 := 0) hC hi hn hl hs hcl hc hnp hst hW hd (Nat.zero_le _) (fun M2 h => kk M2 h.2 (hS.tr h.1))
theorem xm_ret (hw : WrM s M) (hS : EqF onX M0 M) (hi : tget (yT y) pc = some (.return_, n, t)) (hn : pc + 1 = n) (hv : yR y = none) : FX G y d M0 s pc lv [] M :=
  fr_e (x_vret hi hn hv (Nat.le_refl _)) ⟨hS, hw⟩
theorem xm_of {av : List Value} (hG : Gok G) (ok : okT y) (hp : plainName (yN y).cls = true) (hc : (yN y).cls = cnm (yC y)) (hl : (lg_sl av).length ≤ yL y) (body : FX G y d M s 0 (lv_args 0 av) [] M) : CX G y d av M s := ce_of hG ok hp hc hl body
end XM
theorem l2i_ub (x : Int64) {k : Nat} (hk : k < 64) : ((x.toUInt64 >>> ((nI k).toInt64.toUInt64 &&& Int64.toUInt64 63)).toInt64 &&& 255).toInt32 = nI (uN x / 2 ^ k % 256) := by
  rw [l2i_small (by rw [uN_255, uN_sk x hk]; omega), uN_255, uN_sk x hk]
theorem cz_0 {u : Nat} : ∀ {n i : Nat}, u / 2 ^ (8 * i) = 0 → cz u i n = 0
  | 0, i, h => rfl
  | n + 1, i, h => by
    rw [cz_s, cz_0 (by rw [← div_step, h]), h]; rfl
theorem nl_cz {u : Nat} : ∀ {n i : Nat}, txN n (u / 2 ^ (8 * i)) → nl u i (n + 1) = i + cz u i n
  | 0, i, h => by rw [nl_s, if_pos (show u / 2 ^ (8 * i) = 0 from h)]; rfl
  | n + 1, i, h => by
    rcases h with h | ⟨h1, h2⟩
    · rw [nl_s, if_pos h, cz_0 h]; rfl
    · have h0 : ¬ u / 2 ^ (8 * i) = 0 := fun e => h1.1 (by rw [e])
      rw [nl_s, if_neg h0, nl_cz (by rw [← div_step]; exact h2), cz_s, if_neg h1.1]
      omega
theorem nl_of {t : Int64} (h : isTx t) : nl (uN t) 0 8 = cz (uN t) 0 7 := by
  have h2 : txN 7 (uN t / 2 ^ (8 * 0)) := by rw [show uN t / 2 ^ (8 * 0) = uN t by simp]; exact h
  rw [nl_cz h2]; omega
theorem WrM.emit {s : WS} {M : Mm} {b : Nat} (h : WrM s M) (hl : s.1.length < 600) : WrM (emT [b] s) (ui (ui M (63, 0) s.1.length (nI b)) (40, 0) 33 (nI (s.1.length + 1))) := by
  obtain ⟨h1, h2, h3, h4, h5, h6, h7, h8, h9, ha, hb, hc, hd⟩ := h
  have hq : EqF (fun k j => k.1 ≠ 63 ∧ (k.1 = 40 → j ≠ 33)) M (ui (ui M (63, 0) s.1.length (nI b)) (40, 0) 33 (nI (s.1.length + 1))) := (EqF.rf.ui (by simp)).ui (by simp)
  have q : ∀ j, j ≠ 33 → ((40, 0) : Ky).1 ≠ 63 ∧ (((40, 0) : Ky).1 = 40 → j ≠ 33) := fun j h => ⟨by decide, fun _ => h⟩
  refine ⟨?_, ?_, ?_, (hq _ 22 (q _ (by decide))).1.trans h4, fun k x hx => (hq (56, 0) k (by simp)).2.trans (h5 k x hx), (hq _ 24 (q _ (by decide))).1.trans h6, fun k x hx => (hq (57, 0) k (by simp)).1.trans (h7 k x hx), (hq _ 26 (q _ (by decide))).1.trans h8, fun k x hx => (hq (58, 0) k (by simp)).1.trans (h9 k x hx), ?_, hb, hc, hd⟩
  · simp [ui, emT]
  · rw [List.take_of_length_le (by omega)] at h2
    rw [List.take_of_length_le (by simp [emT]; omega)]
    exact h2.push (fun k hk => by simp [ui]; omega) (by simp [ui])
  · refine (hq _ 35 (q _ (by decide))).1.trans (h3.trans ?_)
    rw [bI_f (by omega), bI_f (by simp [emT]; omega)]
  · simp [emT]; omega
theorem WrM.emitX {s : WS} {M : Mm} {b : Nat} (h : WrM s M) (hl : ¬ s.1.length < 600) : WrM (emT [b] s) (ui (ui M (40, 0) 35 (nI 1)) (40, 0) 33 (nI (s.1.length + 1))) := by
  obtain ⟨h1, h2, h3, h4, h5, h6, h7, h8, h9, ha, hb, hc, hd⟩ := h
  have hq : EqF (fun k j => k.1 = 40 → j ≠ 33 ∧ j ≠ 35) M (ui (ui M (40, 0) 35 (nI 1)) (40, 0) 33 (nI (s.1.length + 1))) := (EqF.rf.ui (by simp)).ui (by simp)
  refine ⟨?_, ?_, ?_, (hq _ 22 (by decide)).1.trans h4, fun k x hx => (hq (56, 0) k (by simp)).2.trans (h5 k x hx), (hq _ 24 (by decide)).1.trans h6, fun k x hx => (hq (57, 0) k (by simp)).1.trans (h7 k x hx), (hq _ 26 (by decide)).1.trans h8, fun k x hx => (hq (58, 0) k (by simp)).1.trans (h9 k x hx), ?_, hb, hc, hd⟩
  · simp [ui, emT]
  · rw [show (emT [b] s).1.take 600 = s.1.take 600 from List.take_append_of_le_length (by omega)]
    exact fun k x hx => (hq (63, 0) k (by simp)).1.trans (h2 k x hx)
  · rw [bI_t (by simp [emT]; omega)]; simp [ui]
  · simp [emT]; omega
theorem WrM.pT {s : WS} {M : Mm} {t : Int64} (h : WrM s M) (ht : ¬ t = 0) (hl : 2 * (s.2.1.length + 1) ≤ s.1.length) : WrM (addT t s) (ui (ul M (56, 0) s.2.1.length t) (40, 0) 22 (nI (s.2.1.length + 1))) := by
  obtain ⟨h1, h2, h3, h4, h5, h6, h7, h8, h9, ha, hb, hc, hd⟩ := h
  have hq : EqF (fun k j => k.1 ≠ 56 ∧ (k.1 = 40 → j ≠ 22)) M (ui (ul M (56, 0) s.2.1.length t) (40, 0) 22 (nI (s.2.1.length + 1))) := (EqF.rf.ul (by simp)).ui (by simp)
  rw [show addT t s = (s.1, s.2.1 ++ [t], s.2.2) from if_neg ht]
  refine ⟨(hq _ 33 (by decide)).1.trans h1, fun k x hx => (hq (63, 0) k (by simp)).1.trans (h2 k x hx), (hq _ 35 (by decide)).1.trans h3, ?_, ?_, (hq _ 24 (by decide)).1.trans h6, fun k x hx => (hq (57, 0) k (by simp)).1.trans (h7 k x hx), (hq _ 26 (by decide)).1.trans h8, fun k x hx => (hq (58, 0) k (by simp)).1.trans (h9 k x hx), ?_, hb, hc, ?_⟩
  · simp [ui]
  · exact h5.push (fun k hk => by simp [ui, ul]; omega) (by simp [ui, ul])
  · simp; omega
  · simp; exact ⟨hd, fun e => ht e.symm⟩
theorem WrM.pH {s : WS} {M : Mm} {t : Nat} (h : WrM s M) (ht : t < 40) (hl : lfx (s.2.2.1.map lN) (lN t) = none) : WrM (addH t s) (ui (ui M (57, 0) s.2.2.1.length (nI t)) (40, 0) 24 (nI (s.2.2.1.length + 1))) := by
  obtain ⟨h1, h2, h3, h4, h5, h6, h7, h8, h9, ha, hb, hc, hd⟩ := h
  have hq : EqF (fun k j => k.1 ≠ 57 ∧ (k.1 = 40 → j ≠ 24)) M (ui (ui M (57, 0) s.2.2.1.length (nI t)) (40, 0) 24 (nI (s.2.2.1.length + 1))) := (EqF.rf.ui (by simp)).ui (by simp)
  refine ⟨(hq _ 33 (by decide)).1.trans h1, fun k x hx => (hq (63, 0) k (by simp)).1.trans (h2 k x hx), (hq _ 35 (by decide)).1.trans h3, (hq _ 22 (by decide)).1.trans h4, fun k x hx => (hq (56, 0) k (by simp)).2.trans (h5 k x hx), ?_, ?_, (hq _ 26 (by decide)).1.trans h8, fun k x hx => (hq (58, 0) k (by simp)).1.trans (h9 k x hx), ha, hb.push (lfx_mem hl) ht, hc, hd⟩
  · simp [ui, addH]
  · exact h7.push (fun k hk => by simp [ui]; omega) (by simp [ui])
theorem WrM.pR {s : WS} {M : Mm} {t : Nat} (h : WrM s M) (ht : t < 12) (hl : lfx (s.2.2.2.map lN) (lN t) = none) : WrM (addR t s) (ui (ui M (58, 0) s.2.2.2.length (nI t)) (40, 0) 26 (nI (s.2.2.2.length + 1))) := by
  obtain ⟨h1, h2, h3, h4, h5, h6, h7, h8, h9, ha, hb, hc, hd⟩ := h
  have hq : EqF (fun k j => k.1 ≠ 58 ∧ (k.1 = 40 → j ≠ 26)) M (ui (ui M (58, 0) s.2.2.2.length (nI t)) (40, 0) 26 (nI (s.2.2.2.length + 1))) := (EqF.rf.ui (by simp)).ui (by simp)
  refine ⟨(hq _ 33 (by decide)).1.trans h1, fun k x hx => (hq (63, 0) k (by simp)).1.trans (h2 k x hx), (hq _ 35 (by decide)).1.trans h3, (hq _ 22 (by decide)).1.trans h4, fun k x hx => (hq (56, 0) k (by simp)).2.trans (h5 k x hx), (hq _ 24 (by decide)).1.trans h6, fun k x hx => (hq (57, 0) k (by simp)).1.trans (h7 k x hx), ?_, ?_, ha, hb, hc.push (lfx_mem hl) ht, hd⟩
  · simp [ui, addR]
  · exact h9.push (fun k hk => by simp [ui]; omega) (by simp [ui])
section M1
variable {G : Gd} {d : Nat} {M : Mm}
set_option maxHeartbeats 4000000 in
set_option maxRecDepth 20000 in
theorem c_memitO (hG : Gok G) (b : Nat) {n : Nat} (hn : M.1 (40, 0) 33 = nI n) (hn2 : n < 600) : Ct G mX9_emit d [.ref (ga G (40, 0)), .int (nI b)] M (.inl none) (ui (ui M (63, 0) n (nI b)) (40, 0) 33 (nI (n + 1))) 0 := by
  refine ct_of hG okX9_emit (by decide +kernel) rfl (Nat.le_of_ble_eq_true rfl) ?_
  refine x_aload_n rfl rfl rfl ?_
  refine x_getIv (v := nI n) hn rfl rfl f_9_176 rfl (by decide) rfl ?_
  refine x_sipush (v := nI 600) rfl rfl (by decide +kernel) ?_
  refine x_icmpN_ge (by omega) (by omega) rfl rfl (fun hc1 => absurd hc1 (by omega)) (fun hc1 => ?_)
  refine x_aload_n rfl rfl rfl ?_
  refine x_getR0 rfl rfl f_9_78 rfl (by decide) rfl rfl ?_
  refine x_aload_n rfl rfl rfl ?_
  refine x_getIv (v := nI n) hn rfl rfl f_9_176 rfl (by decide) rfl ?_
  refine x_iload_n rfl rfl rfl ?_
  refine x_iast (a := n) rfl rfl rfl (by decide) (by omega) (by decide) ?_
  refine x_goto rfl rfl ?_
  refine x_aload_n rfl rfl rfl ?_
  refine x_dup rfl rfl rfl ?_
  refine x_getIv (v := nI n) (by first | exact hn | (rw [← hn]; rfl) | simp [ui, ul, hn]) rfl rfl f_9_176 rfl (by decide) rfl ?_
  refine x_iconstN (b := 1) rfl rfl ?_
  refine x_iaddN (a := n) (b := 1) rfl rfl ?_
  refine x_putI rfl rfl f_9_176 rfl rfl (by decide) rfl ?_
  exact x_retV rfl rfl rfl (by omega) rfl rfl
set_option maxHeartbeats 4000000 in
set_option maxRecDepth 20000 in
theorem c_memitX (hG : Gok G) (b : Nat) {n : Nat} (hn : M.1 (40, 0) 33 = nI n) (hn2 : 600 ≤ n) (hn3 : n < 100000) : Ct G mX9_emit d [.ref (ga G (40, 0)), .int (nI b)] M (.inl none) (ui (ui M (40, 0) 35 (nI 1)) (40, 0) 33 (nI (n + 1))) 0 := by
  refine ct_of hG okX9_emit (by decide +kernel) rfl (Nat.le_of_ble_eq_true rfl) ?_
  refine x_aload_n rfl rfl rfl ?_
  refine x_getIv (v := nI n) hn rfl rfl f_9_176 rfl (by decide) rfl ?_
  refine x_sipush (v := nI 600) rfl rfl (by decide +kernel) ?_
  refine x_icmpN_ge (by omega) (by omega) rfl rfl (fun hc1 => ?_) (fun hc1 => absurd hc1 (by omega))
  refine x_aload_n rfl rfl rfl ?_
  refine x_iconstN (b := 1) rfl rfl ?_
  refine x_putZ rfl rfl f_9_179 rfl rfl (by decide) rfl (by first | exact Or.inl rfl | exact Or.inr rfl | exact bI_01 _ | assumption) ?_
  refine x_aload_n rfl rfl rfl ?_
  refine x_dup rfl rfl rfl ?_
  refine x_getIv (v := nI n) (by first | exact hn | (rw [← hn]; rfl) | simp [ui, ul, hn]) rfl rfl f_9_176 rfl (by decide) rfl ?_
  refine x_iconstN (b := 1) rfl rfl ?_
  refine x_iaddN (a := n) (b := 1) rfl rfl ?_
  refine x_putI rfl rfl f_9_176 rfl rfl (by decide) rfl ?_
  exact x_retV rfl rfl rfl (by omega) rfl rfl
theorem c_memit (hG : Gok G) {s : WS} (hw0 : WrM s M) (hb : s.1.length < 100000) (b : Nat) : CX G mX9_emit d [.ref (ga G (40, 0)), .int (nI b)] M (emT [b] s) := by
  by_cases h : s.1.length < 600
  · exact Ct.e (c_memitO hG b hw0.1 h) ⟨(EqF.rf.ui (by simp [onX])).ui (by simp [onX]), hw0.emit h⟩
  · exact Ct.e (c_memitX hG b hw0.1 (by omega) hb) ⟨(EqF.rf.ui (by simp [onX])).ui (by simp [onX]), hw0.emitX h⟩
set_option maxHeartbeats 4000000 in
set_option maxRecDepth 20000 in
theorem c_memitNumberA (hG : Gok G) (hd : 1 ≤ d) {s : WS} (hw0 : WrM s M) (hb : s.1.length < 99990) {n : Nat} (hn : n < 536870912) (hc : n < 128) : CX G mX9_emitNumber d [.ref (ga G (40, 0)), .int (nI n)] M (emT [n] s) := by
  have hS0 : EqF onX M M := EqF.rf
  refine xm_of hG okX9_emitNumber (by decide +kernel) rfl (Nat.le_of_ble_eq_true rfl) ?_
  refine x_iload_n rfl rfl rfl ?_
  refine x_sipush (v := nI 128) rfl rfl (by decide +kernel) ?_
  refine x_icmpN_ge (by omega) (by omega) rfl rfl (fun hc1 => absurd hc1 (by omega)) (fun hc1 => ?_)
  refine x_aload_n rfl rfl rfl ?_
  refine x_iload_n rfl rfl rfl ?_
  refine xm_call (d2 := 0) (c_memit hG  (s := s) hw0 (by first | omega | (simp [emT, addT, addH, addR]; omega)) (n)) hS0 rfl rfl v_9_183 rfl rfl (by decide) rfl rfl (Nat.le_of_ble_eq_true rfl) (by omega) (fun M1 hw1 hS1 => ?_)
  refine x_goto rfl rfl ?_
  exact xm_ret (by simpa [emT] using hw1) hS1 rfl rfl rfl
set_option maxHeartbeats 4000000 in
set_option maxRecDepth 20000 in
theorem c_memitNumberB (hG : Gok G) (hd : 1 ≤ d) {s : WS} (hw0 : WrM s M) (hb : s.1.length < 99990) {n : Nat} (hn : n < 536870912) (hc : n < 16384 ∧ 128 ≤ n) : CX G mX9_emitNumber d [.ref (ga G (40, 0)), .int (nI n)] M (emT [128 + n / 128, n % 128] s) := by
  have hS0 : EqF onX M M := EqF.rf
  refine xm_of hG okX9_emitNumber (by decide +kernel) rfl (Nat.le_of_ble_eq_true rfl) ?_
  refine x_iload_n rfl rfl rfl ?_
  refine x_sipush (v := nI 128) rfl rfl (by decide +kernel) ?_
  refine x_icmpN_ge (by omega) (by omega) rfl rfl (fun hc1 => ?_) (fun hc1 => absurd hc1 (by omega))
  refine x_iload_n rfl rfl rfl ?_
  refine x_sipush (v := nI 16384) rfl rfl (by decide +kernel) ?_
  refine x_icmpN_ge (by omega) (by omega) rfl rfl (fun hc2 => absurd hc2 (by omega)) (fun hc2 => ?_)
  refine x_aload_n rfl rfl rfl ?_
  refine x_sipush (v := nI 128) rfl rfl (by decide +kernel) ?_
  refine x_iload_n rfl rfl rfl ?_
  refine x_sipush (v := nI 128) rfl rfl (by decide +kernel) ?_
  refine x_idivN (a := n) (b := 128) (by omega) (by omega) (by omega) rfl rfl ?_
  refine x_iaddN (a := 128) (b := n / 128) rfl rfl ?_
  refine xm_call (d2 := 0) (c_memit hG  (s := s) hw0 (by first | omega | (simp [emT, addT, addH, addR]; omega)) (128 + (n / 128))) hS0 rfl rfl v_9_183 rfl rfl (by decide) rfl rfl (Nat.le_of_ble_eq_true rfl) (by omega) (fun M1 hw1 hS1 => ?_)
  refine x_aload_n rfl rfl rfl ?_
  refine x_iload_n rfl rfl rfl ?_
  refine x_sipush (v := nI 128) rfl rfl (by decide +kernel) ?_
  refine x_iremN (a := n) (b := 128) (by omega) (by omega) (by omega) rfl rfl ?_
  refine xm_call (d2 := 0) (c_memit hG  (s := emT [128 + (n / 128)] (s)) hw1 (by first | omega | (simp [emT, addT, addH, addR]; omega)) (n % 128)) hS1 rfl rfl v_9_183 rfl rfl (by decide) rfl rfl (Nat.le_of_ble_eq_true rfl) (by omega) (fun M2 hw2 hS2 => ?_)
  refine x_goto rfl rfl ?_
  exact xm_ret (by simpa [emT] using hw2) hS2 rfl rfl rfl
set_option maxHeartbeats 4000000 in
set_option maxRecDepth 20000 in
theorem c_memitNumberC (hG : Gok G) (hd : 1 ≤ d) {s : WS} (hw0 : WrM s M) (hb : s.1.length < 99990) {n : Nat} (hn : n < 536870912) (hc : n < 2097152 ∧ 16384 ≤ n) : CX G mX9_emitNumber d [.ref (ga G (40, 0)), .int (nI n)] M (emT [128 + n / 16384, 128 + n / 128 % 128, n % 128] s) := by
  have hS0 : EqF onX M M := EqF.rf
  refine xm_of hG okX9_emitNumber (by decide +kernel) rfl (Nat.le_of_ble_eq_true rfl) ?_
  refine x_iload_n rfl rfl rfl ?_
  refine x_sipush (v := nI 128) rfl rfl (by decide +kernel) ?_
  refine x_icmpN_ge (by omega) (by omega) rfl rfl (fun hc1 => ?_) (fun hc1 => absurd hc1 (by omega))
  refine x_iload_n rfl rfl rfl ?_
  refine x_sipush (v := nI 16384) rfl rfl (by decide +kernel) ?_
  refine x_icmpN_ge (by omega) (by omega) rfl rfl (fun hc2 => ?_) (fun hc2 => absurd hc2 (by omega))
  refine x_iload_n rfl rfl rfl ?_
  refine x_ldc (v := 2097152) rfl rfl k_9_187 ?_
  refine x_topI (v := nI 2097152) (by decide +kernel) ?_
  refine x_icmpN_ge (by omega) (by omega) rfl rfl (fun hc3 => absurd hc3 (by omega)) (fun hc3 => ?_)
  refine x_aload_n rfl rfl rfl ?_
  refine x_sipush (v := nI 128) rfl rfl (by decide +kernel) ?_
  refine x_iload_n rfl rfl rfl ?_
  refine x_sipush (v := nI 16384) rfl rfl (by decide +kernel) ?_
  refine x_idivN (a := n) (b := 16384) (by omega) (by omega) (by omega) rfl rfl ?_
  refine x_iaddN (a := 128) (b := n / 16384) rfl rfl ?_
  refine xm_call (d2 := 0) (c_memit hG  (s := s) hw0 (by first | omega | (simp [emT, addT, addH, addR]; omega)) (128 + (n / 16384))) hS0 rfl rfl v_9_183 rfl rfl (by decide) rfl rfl (Nat.le_of_ble_eq_true rfl) (by omega) (fun M1 hw1 hS1 => ?_)
  refine x_aload_n rfl rfl rfl ?_
  refine x_sipush (v := nI 128) rfl rfl (by decide +kernel) ?_
  refine x_iload_n rfl rfl rfl ?_
  refine x_sipush (v := nI 128) rfl rfl (by decide +kernel) ?_
  refine x_idivN (a := n) (b := 128) (by omega) (by omega) (by omega) rfl rfl ?_
  refine x_sipush (v := nI 128) rfl rfl (by decide +kernel) ?_
  refine x_iremN (a := n / 128) (b := 128) (by omega) (by omega) (by omega) rfl rfl ?_
  refine x_iaddN (a := 128) (b := (n / 128) % 128) rfl rfl ?_
  refine xm_call (d2 := 0) (c_memit hG  (s := emT [128 + (n / 16384)] (s)) hw1 (by first | omega | (simp [emT, addT, addH, addR]; omega)) (128 + ((n / 128) % 128))) hS1 rfl rfl v_9_183 rfl rfl (by decide) rfl rfl (Nat.le_of_ble_eq_true rfl) (by omega) (fun M2 hw2 hS2 => ?_)
  refine x_aload_n rfl rfl rfl ?_
  refine x_iload_n rfl rfl rfl ?_
  refine x_sipush (v := nI 128) rfl rfl (by decide +kernel) ?_
  refine x_iremN (a := n) (b := 128) (by omega) (by omega) (by omega) rfl rfl ?_
  refine xm_call (d2 := 0) (c_memit hG  (s := emT [128 + ((n / 128) % 128)] (emT [128 + (n / 16384)] (s))) hw2 (by first | omega | (simp [emT, addT, addH, addR]; omega)) (n % 128)) hS2 rfl rfl v_9_183 rfl rfl (by decide) rfl rfl (Nat.le_of_ble_eq_true rfl) (by omega) (fun M3 hw3 hS3 => ?_)
  refine x_goto rfl rfl ?_
  exact xm_ret (by simpa [emT] using hw3) hS3 rfl rfl rfl
set_option maxHeartbeats 4000000 in
set_option maxRecDepth 20000 in
theorem c_memitNumberD (hG : Gok G) (hd : 1 ≤ d) {s : WS} (hw0 : WrM s M) (hb : s.1.length < 99990) {n : Nat} (hn : n < 536870912) (hc : 2097152 ≤ n) : CX G mX9_emitNumber d [.ref (ga G (40, 0)), .int (nI n)] M (emT [128 + n / 4194304, 128 + n / 32768 % 128, 128 + n / 256 % 128, n % 256] s) := by
  have hS0 : EqF onX M M := EqF.rf
  refine xm_of hG okX9_emitNumber (by decide +kernel) rfl (Nat.le_of_ble_eq_true rfl) ?_
  refine x_iload_n rfl rfl rfl ?_
  refine x_sipush (v := nI 128) rfl rfl (by decide +kernel) ?_
  refine x_icmpN_ge (by omega) (by omega) rfl rfl (fun hc1 => ?_) (fun hc1 => absurd hc1 (by omega))
  refine x_iload_n rfl rfl rfl ?_
  refine x_sipush (v := nI 16384) rfl rfl (by decide +kernel) ?_
  refine x_icmpN_ge (by omega) (by omega) rfl rfl (fun hc2 => ?_) (fun hc2 => absurd hc2 (by omega))
  refine x_iload_n rfl rfl rfl ?_
  refine x_ldc (v := 2097152) rfl rfl k_9_187 ?_
  refine x_topI (v := nI 2097152) (by decide +kernel) ?_
  refine x_icmpN_ge (by omega) (by omega) rfl rfl (fun hc3 => ?_) (fun hc3 => absurd hc3 (by omega))
  refine x_aload_n rfl rfl rfl ?_
  refine x_sipush (v := nI 128) rfl rfl (by decide +kernel) ?_
  refine x_iload_n rfl rfl rfl ?_
  refine x_ldc (v := 4194304) rfl rfl k_9_188 ?_
  refine x_topI (v := nI 4194304) (by decide +kernel) ?_
  refine x_idivN (a := n) (b := 4194304) (by omega) (by omega) (by omega) rfl rfl ?_
  refine x_iaddN (a := 128) (b := n / 4194304) rfl rfl ?_
  refine xm_call (d2 := 0) (c_memit hG  (s := s) hw0 (by first | omega | (simp [emT, addT, addH, addR]; omega)) (128 + (n / 4194304))) hS0 rfl rfl v_9_183 rfl rfl (by decide) rfl rfl (Nat.le_of_ble_eq_true rfl) (by omega) (fun M1 hw1 hS1 => ?_)
  refine x_aload_n rfl rfl rfl ?_
  refine x_sipush (v := nI 128) rfl rfl (by decide +kernel) ?_
  refine x_iload_n rfl rfl rfl ?_
  refine x_ldc (v := 32768) rfl rfl k_9_189 ?_
  refine x_topI (v := nI 32768) (by decide +kernel) ?_
  refine x_idivN (a := n) (b := 32768) (by omega) (by omega) (by omega) rfl rfl ?_
  refine x_sipush (v := nI 128) rfl rfl (by decide +kernel) ?_
  refine x_iremN (a := n / 32768) (b := 128) (by omega) (by omega) (by omega) rfl rfl ?_
  refine x_iaddN (a := 128) (b := (n / 32768) % 128) rfl rfl ?_
  refine xm_call (d2 := 0) (c_memit hG  (s := emT [128 + (n / 4194304)] (s)) hw1 (by first | omega | (simp [emT, addT, addH, addR]; omega)) (128 + ((n / 32768) % 128))) hS1 rfl rfl v_9_183 rfl rfl (by decide) rfl rfl (Nat.le_of_ble_eq_true rfl) (by omega) (fun M2 hw2 hS2 => ?_)
  refine x_aload_n rfl rfl rfl ?_
  refine x_sipush (v := nI 128) rfl rfl (by decide +kernel) ?_
  refine x_iload_n rfl rfl rfl ?_
  refine x_sipush (v := nI 256) rfl rfl (by decide +kernel) ?_
  refine x_idivN (a := n) (b := 256) (by omega) (by omega) (by omega) rfl rfl ?_
  refine x_sipush (v := nI 128) rfl rfl (by decide +kernel) ?_
  refine x_iremN (a := n / 256) (b := 128) (by omega) (by omega) (by omega) rfl rfl ?_
  refine x_iaddN (a := 128) (b := (n / 256) % 128) rfl rfl ?_
  refine xm_call (d2 := 0) (c_memit hG  (s := emT [128 + ((n / 32768) % 128)] (emT [128 + (n / 4194304)] (s))) hw2 (by first | omega | (simp [emT, addT, addH, addR]; omega)) (128 + ((n / 256) % 128))) hS2 rfl rfl v_9_183 rfl rfl (by decide) rfl rfl (Nat.le_of_ble_eq_true rfl) (by omega) (fun M3 hw3 hS3 => ?_)
  refine x_aload_n rfl rfl rfl ?_
  refine x_iload_n rfl rfl rfl ?_
  refine x_sipush (v := nI 256) rfl rfl (by decide +kernel) ?_
  refine x_iremN (a := n) (b := 256) (by omega) (by omega) (by omega) rfl rfl ?_
  refine xm_call (d2 := 0) (c_memit hG  (s := emT [128 + ((n / 256) % 128)] (emT [128 + ((n / 32768) % 128)] (emT [128 + (n / 4194304)] (s)))) hw3 (by first | omega | (simp [emT, addT, addH, addR]; omega)) (n % 256)) hS3 rfl rfl v_9_183 rfl rfl (by decide) rfl rfl (Nat.le_of_ble_eq_true rfl) (by omega) (fun M4 hw4 hS4 => ?_)
  exact xm_ret (by simpa [emT] using hw4) hS4 rfl rfl rfl
theorem c_memitNumber (hG : Gok G) (hd : 1 ≤ d) {s : WS} (hw0 : WrM s M) (hb : s.1.length < 99990) {n : Nat} (hn : n < 536870912) : CX G mX9_emitNumber d [.ref (ga G (40, 0)), .int (nI n)] M (emT (numB n) s) := by
  unfold numB
  by_cases h1 : n < 128
  · rw [if_pos h1]; exact c_memitNumberA hG hd hw0 hb hn h1
  rw [if_neg h1]
  by_cases h2 : n < 16384
  · rw [if_pos h2]; exact c_memitNumberB hG hd hw0 hb hn ⟨h2, by omega⟩
  rw [if_neg h2]
  by_cases h3 : n < 2097152
  · rw [if_pos h3]; exact c_memitNumberC hG hd hw0 hb hn ⟨h3, by omega⟩
  rw [if_neg h3]
  exact c_memitNumberD hG hd hw0 hb hn (by omega)
set_option maxHeartbeats 4000000 in
set_option maxRecDepth 20000 in
theorem c_memitEight (hG : Gok G) (hd : 1 ≤ d) {s : WS} (hw0 : WrM s M) (hb : s.1.length < 99990) (v : Int64) : CX G mX9_emitEight d [.ref (ga G (40, 0)), .long (v)] M (emT (eightB v) s) := by
  have hS0 : EqF onX M M := EqF.rf
  refine xm_of hG okX9_emitEight (by decide +kernel) rfl (Nat.le_of_ble_eq_true rfl) ?_
  refine x_bipush (v := nI 56) rfl rfl (by decide +kernel) ?_
  refine x_istore_n rfl rfl rfl rfl ?_
  refine x_iload_n rfl rfl rfl ?_
  refine x_if_lt rfl rfl (fun hc1 => absurd hc1 (by decide +kernel)) (fun _ => ?_)
  refine x_aload_n rfl rfl rfl ?_
  refine x_lload_n rfl rfl rfl ?_
  refine x_iload_n rfl rfl rfl ?_
  refine x_lushr rfl rfl ?_
  refine x_ldc2 (v := 255) rfl rfl k_9_104 ?_
  refine x_land rfl rfl ?_
  refine x_l2i rfl rfl ?_
  refine x_topI (v := nI (uN v / 2 ^ 56 % 256)) (l2i_ub v (by omega)) ?_
  refine xm_call (d2 := 0) (c_memit hG  (s := s) hw0 (by first | omega | (simp [emT, addT, addH, addR]; omega)) (uN v / 2 ^ 56 % 256)) hS0 rfl rfl v_9_183 rfl rfl (by decide) rfl rfl (Nat.le_of_ble_eq_true rfl) (by omega) (fun M1 hw1 hS1 => ?_)
  refine x_iinc (v := nI 48) rfl rfl rfl (by decide +kernel) rfl rfl ?_
  refine x_goto rfl rfl ?_
  refine x_iload_n rfl rfl rfl ?_
  refine x_if_lt rfl rfl (fun hc2 => absurd hc2 (by decide +kernel)) (fun _ => ?_)
  refine x_aload_n rfl rfl rfl ?_
  refine x_lload_n rfl rfl rfl ?_
  refine x_iload_n rfl rfl rfl ?_
  refine x_lushr rfl rfl ?_
  refine x_ldc2 (v := 255) rfl rfl k_9_104 ?_
  refine x_land rfl rfl ?_
  refine x_l2i rfl rfl ?_
  refine x_topI (v := nI (uN v / 2 ^ 48 % 256)) (l2i_ub v (by omega)) ?_
  refine xm_call (d2 := 0) (c_memit hG  (s := emT [uN v / 2 ^ 56 % 256] (s)) hw1 (by first | omega | (simp [emT, addT, addH, addR]; omega)) (uN v / 2 ^ 48 % 256)) hS1 rfl rfl v_9_183 rfl rfl (by decide) rfl rfl (Nat.le_of_ble_eq_true rfl) (by omega) (fun M2 hw2 hS2 => ?_)
  refine x_iinc (v := nI 40) rfl rfl rfl (by decide +kernel) rfl rfl ?_
  refine x_goto rfl rfl ?_
  refine x_iload_n rfl rfl rfl ?_
  refine x_if_lt rfl rfl (fun hc3 => absurd hc3 (by decide +kernel)) (fun _ => ?_)
  refine x_aload_n rfl rfl rfl ?_
  refine x_lload_n rfl rfl rfl ?_
  refine x_iload_n rfl rfl rfl ?_
  refine x_lushr rfl rfl ?_
  refine x_ldc2 (v := 255) rfl rfl k_9_104 ?_
  refine x_land rfl rfl ?_
  refine x_l2i rfl rfl ?_
  refine x_topI (v := nI (uN v / 2 ^ 40 % 256)) (l2i_ub v (by omega)) ?_
  refine xm_call (d2 := 0) (c_memit hG  (s := emT [uN v / 2 ^ 48 % 256] (emT [uN v / 2 ^ 56 % 256] (s))) hw2 (by first | omega | (simp [emT, addT, addH, addR]; omega)) (uN v / 2 ^ 40 % 256)) hS2 rfl rfl v_9_183 rfl rfl (by decide) rfl rfl (Nat.le_of_ble_eq_true rfl) (by omega) (fun M3 hw3 hS3 => ?_)
  refine x_iinc (v := nI 32) rfl rfl rfl (by decide +kernel) rfl rfl ?_
  refine x_goto rfl rfl ?_
  refine x_iload_n rfl rfl rfl ?_
  refine x_if_lt rfl rfl (fun hc4 => absurd hc4 (by decide +kernel)) (fun _ => ?_)
  refine x_aload_n rfl rfl rfl ?_
  refine x_lload_n rfl rfl rfl ?_
  refine x_iload_n rfl rfl rfl ?_
  refine x_lushr rfl rfl ?_
  refine x_ldc2 (v := 255) rfl rfl k_9_104 ?_
  refine x_land rfl rfl ?_
  refine x_l2i rfl rfl ?_
  refine x_topI (v := nI (uN v / 2 ^ 32 % 256)) (l2i_ub v (by omega)) ?_
  refine xm_call (d2 := 0) (c_memit hG  (s := emT [uN v / 2 ^ 40 % 256] (emT [uN v / 2 ^ 48 % 256] (emT [uN v / 2 ^ 56 % 256] (s)))) hw3 (by first | omega | (simp [emT, addT, addH, addR]; omega)) (uN v / 2 ^ 32 % 256)) hS3 rfl rfl v_9_183 rfl rfl (by decide) rfl rfl (Nat.le_of_ble_eq_true rfl) (by omega) (fun M4 hw4 hS4 => ?_)
  refine x_iinc (v := nI 24) rfl rfl rfl (by decide +kernel) rfl rfl ?_
  refine x_goto rfl rfl ?_
  refine x_iload_n rfl rfl rfl ?_
  refine x_if_lt rfl rfl (fun hc5 => absurd hc5 (by decide +kernel)) (fun _ => ?_)
  refine x_aload_n rfl rfl rfl ?_
  refine x_lload_n rfl rfl rfl ?_
  refine x_iload_n rfl rfl rfl ?_
  refine x_lushr rfl rfl ?_
  refine x_ldc2 (v := 255) rfl rfl k_9_104 ?_
  refine x_land rfl rfl ?_
  refine x_l2i rfl rfl ?_
  refine x_topI (v := nI (uN v / 2 ^ 24 % 256)) (l2i_ub v (by omega)) ?_
  refine xm_call (d2 := 0) (c_memit hG  (s := emT [uN v / 2 ^ 32 % 256] (emT [uN v / 2 ^ 40 % 256] (emT [uN v / 2 ^ 48 % 256] (emT [uN v / 2 ^ 56 % 256] (s))))) hw4 (by first | omega | (simp [emT, addT, addH, addR]; omega)) (uN v / 2 ^ 24 % 256)) hS4 rfl rfl v_9_183 rfl rfl (by decide) rfl rfl (Nat.le_of_ble_eq_true rfl) (by omega) (fun M5 hw5 hS5 => ?_)
  refine x_iinc (v := nI 16) rfl rfl rfl (by decide +kernel) rfl rfl ?_
  refine x_goto rfl rfl ?_
  refine x_iload_n rfl rfl rfl ?_
  refine x_if_lt rfl rfl (fun hc6 => absurd hc6 (by decide +kernel)) (fun _ => ?_)
  refine x_aload_n rfl rfl rfl ?_
  refine x_lload_n rfl rfl rfl ?_
  refine x_iload_n rfl rfl rfl ?_
  refine x_lushr rfl rfl ?_
  refine x_ldc2 (v := 255) rfl rfl k_9_104 ?_
  refine x_land rfl rfl ?_
  refine x_l2i rfl rfl ?_
  refine x_topI (v := nI (uN v / 2 ^ 16 % 256)) (l2i_ub v (by omega)) ?_
  refine xm_call (d2 := 0) (c_memit hG  (s := emT [uN v / 2 ^ 24 % 256] (emT [uN v / 2 ^ 32 % 256] (emT [uN v / 2 ^ 40 % 256] (emT [uN v / 2 ^ 48 % 256] (emT [uN v / 2 ^ 56 % 256] (s)))))) hw5 (by first | omega | (simp [emT, addT, addH, addR]; omega)) (uN v / 2 ^ 16 % 256)) hS5 rfl rfl v_9_183 rfl rfl (by decide) rfl rfl (Nat.le_of_ble_eq_true rfl) (by omega) (fun M6 hw6 hS6 => ?_)
  refine x_iinc (v := nI 8) rfl rfl rfl (by decide +kernel) rfl rfl ?_
  refine x_goto rfl rfl ?_
  refine x_iload_n rfl rfl rfl ?_
  refine x_if_lt rfl rfl (fun hc7 => absurd hc7 (by decide +kernel)) (fun _ => ?_)
  refine x_aload_n rfl rfl rfl ?_
  refine x_lload_n rfl rfl rfl ?_
  refine x_iload_n rfl rfl rfl ?_
  refine x_lushr rfl rfl ?_
  refine x_ldc2 (v := 255) rfl rfl k_9_104 ?_
  refine x_land rfl rfl ?_
  refine x_l2i rfl rfl ?_
  refine x_topI (v := nI (uN v / 2 ^ 8 % 256)) (l2i_ub v (by omega)) ?_
  refine xm_call (d2 := 0) (c_memit hG  (s := emT [uN v / 2 ^ 16 % 256] (emT [uN v / 2 ^ 24 % 256] (emT [uN v / 2 ^ 32 % 256] (emT [uN v / 2 ^ 40 % 256] (emT [uN v / 2 ^ 48 % 256] (emT [uN v / 2 ^ 56 % 256] (s))))))) hw6 (by first | omega | (simp [emT, addT, addH, addR]; omega)) (uN v / 2 ^ 8 % 256)) hS6 rfl rfl v_9_183 rfl rfl (by decide) rfl rfl (Nat.le_of_ble_eq_true rfl) (by omega) (fun M7 hw7 hS7 => ?_)
  refine x_iinc (v := nI 0) rfl rfl rfl (by decide +kernel) rfl rfl ?_
  refine x_goto rfl rfl ?_
  refine x_iload_n rfl rfl rfl ?_
  refine x_if_lt rfl rfl (fun hc8 => absurd hc8 (by decide +kernel)) (fun _ => ?_)
  refine x_aload_n rfl rfl rfl ?_
  refine x_lload_n rfl rfl rfl ?_
  refine x_iload_n rfl rfl rfl ?_
  refine x_lushr rfl rfl ?_
  refine x_ldc2 (v := 255) rfl rfl k_9_104 ?_
  refine x_land rfl rfl ?_
  refine x_l2i rfl rfl ?_
  refine x_topI (v := nI (uN v / 2 ^ 0 % 256)) (l2i_ub v (by omega)) ?_
  refine xm_call (d2 := 0) (c_memit hG  (s := emT [uN v / 2 ^ 8 % 256] (emT [uN v / 2 ^ 16 % 256] (emT [uN v / 2 ^ 24 % 256] (emT [uN v / 2 ^ 32 % 256] (emT [uN v / 2 ^ 40 % 256] (emT [uN v / 2 ^ 48 % 256] (emT [uN v / 2 ^ 56 % 256] (s)))))))) hw7 (by first | omega | (simp [emT, addT, addH, addR]; omega)) (uN v / 2 ^ 0 % 256)) hS7 rfl rfl v_9_183 rfl rfl (by decide) rfl rfl (Nat.le_of_ble_eq_true rfl) (by omega) (fun M8 hw8 hS8 => ?_)
  refine x_iinc (v := (-8)) rfl rfl rfl (by decide +kernel) rfl rfl ?_
  refine x_goto rfl rfl ?_
  refine x_iload_n rfl rfl rfl ?_
  refine x_if_lt rfl rfl (fun _ => ?_) (fun hc9 => absurd (by decide +kernel) hc9)
  exact xm_ret (by unfold eightB; simpa [emT] using hw8) hS8 rfl rfl rfl
end M1
