theorem wb_some {b : Nat} {s s1 : WS} (h : wb b s = some s1) : s1 = (s.1 ++ [b], s.2) ∧ s.1.length < 600 := by
  unfold wb at h
  by_cases hl : s.1.length < 600
  · rw [if_pos hl] at h; cases h; exact ⟨rfl, hl⟩
  · rw [if_neg hl] at h; cases h
theorem wbs_some : ∀ {l : List Nat} {s s1 : WS}, wbs l s = some s1 → s1 = (s.1 ++ l, s.2)
  | [], s, s1, h => by cases h; simp
  | b :: l, s, s1, h => by
    have h2 : (wb b s).bind (wbs l) = some s1 := h
    cases hb : wb b s with
    | none => rw [hb] at h2; cases h2
    | some s2 =>
      rw [hb] at h2
      have := wbs_some (show wbs l s2 = some s1 from h2)
      rw [this, (wb_some hb).1]; simp
theorem bsome (x : Option WS) : x.bind some = x := by cases x <;> rfl
theorem fx_none {f : Nat → Int64} {e : Int64} : ∀ {n i : Nat}, fx f e i n = none → ∀ k, i ≤ k → k < i + n → ¬ f k = e
  | 0, i, h, k, h1, h2 => by omega
  | n + 1, i, h, k, h1, h2 => by
    unfold fx at h
    by_cases hf : f i = e
    · rw [if_pos hf] at h; cases h
    · rw [if_neg hf] at h
      by_cases hk : k = i
      · rw [hk]; exact hf
      · exact fx_none h k (by omega) (by omega)
theorem lfx_mem {l : List Nat} {t : Nat} (h : lfx (l.map lN) (lN t) = none) : ¬ t ∈ l := by
  intro hm
  obtain ⟨k, hk, e⟩ := List.mem_iff_getElem.mp hm
  refine fx_none h k (Nat.zero_le _) (by simp; omega) ?_
  simp [List.getElem?_map, List.getElem?_eq_getElem hk, e]
theorem numB_pos (n : Nat) : 1 ≤ (numB n).length := by
  unfold numB
  split
  · simp
  · split
    · simp
    · split <;> simp
theorem nI_m1 {p : Nat} (h : p < 2147483648) : ¬ nI p = -1 := by
  intro e
  have := congrArg Int32.toInt e
  rw [nI_toInt h] at this
  have h2 : ((-1 : Int32)).toInt = -1 := by decide +kernel
  omega
theorem WrC.l20 {s : WS} {M : Mm} (h : WrC s M) : M.1 (20, 0) 1 = nI s.2.1.length := h.2.2.2.1.1
theorem WrC.l22 {s : WS} {M : Mm} (h : WrC s M) : M.1 (22, 0) 1 = nI s.2.2.1.length := by have := h.2.2.2.2.1.1; rwa [List.length_map] at this
theorem WrC.l24 {s : WS} {M : Mm} (h : WrC s M) : M.1 (24, 0) 1 = nI s.2.2.2.length := by have := h.2.2.2.2.2.1.1; rwa [List.length_map] at this
theorem WrC.x20 {s : WS} {M : Mm} (h : WrC s M) (e : Int64) : fx (M.2 (21, 0)) e 0 s.2.1.length = lfx s.2.1 e := h.2.2.2.1.2.fx
theorem WrC.x22 {s : WS} {M : Mm} (h : WrC s M) (e : Int64) : fx (M.2 (23, 0)) e 0 s.2.2.1.length = lfx (s.2.2.1.map lN) e := by have := h.2.2.2.2.1.2.fx (e := e); rwa [List.length_map] at this
theorem WrC.x24 {s : WS} {M : Mm} (h : WrC s M) (e : Int64) : fx (M.2 (25, 0)) e 0 s.2.2.2.length = lfx (s.2.2.2.map lN) e := by have := h.2.2.2.2.2.1.2.fx (e := e); rwa [List.length_map] at this
theorem WrC.b22 {s : WS} {M : Mm} (h : WrC s M) : s.2.2.1.length ≤ 40 := h.2.2.2.2.2.2.2.1.len
theorem WrC.b24 {s : WS} {M : Mm} (h : WrC s M) : s.2.2.2.length ≤ 12 := h.2.2.2.2.2.2.2.2.len
theorem WrC.b20 {s : WS} {M : Mm} (h : WrC s M) : s.2.1.length ≤ 300 := by have := h.2.2.2.2.2.2.1; have := h.2.2.1; omega
theorem WrC.pT {s : WS} {M : Mm} {t : Int64} (h : WrC s M) (ht : ¬ t = 0) (hl : 2 * (s.2.1.length + 1) ≤ s.1.length) : WrC (addT t s) (ui (ul M (21, 0) s.2.1.length t) (20, 0) 1 (nI (s.2.1.length + 1))) := by
  obtain ⟨h1, h2, h3, h4, h5, h6, h7, h8, h9⟩ := h
  have hq : Eqn (fun r => r ≠ 20 ∧ r ≠ 21) M (ui (ul M (21, 0) s.2.1.length t) (20, 0) 1 (nI (s.2.1.length + 1))) := (Eqn.rf.ul (by omega)).ui (by omega)
  rw [show addT t s = (s.1, s.2.1 ++ [t], s.2.2) from if_neg ht]
  refine ⟨(hq (19, 0) (by decide) 5).1.trans h1, fun k x hx => (hq (26, 0) (by decide) k).1.trans (h2 k x hx), h3, ⟨?_, ?_⟩, h5.eqn hq (by decide) (by decide), h6.eqn hq (by decide) (by decide), ?_, h8, h9⟩
  · simp [ui]
  · exact h4.2.push (fun k hk => by simp [ui, ul]; omega) (by simp [ui, ul])
  · simp; omega
theorem WrC.pH {s : WS} {M : Mm} {t : Nat} (h : WrC s M) (ht : t < 40) (hl : lfx (s.2.2.1.map lN) (lN t) = none) : WrC (addH t s) (ui (ul M (23, 0) s.2.2.1.length (lN t)) (22, 0) 1 (nI (s.2.2.1.length + 1))) := by
  obtain ⟨h1, h2, h3, h4, h5, h6, h7, h8, h9⟩ := h
  have hq : Eqn (fun r => r ≠ 22 ∧ r ≠ 23) M (ui (ul M (23, 0) s.2.2.1.length (lN t)) (22, 0) 1 (nI (s.2.2.1.length + 1))) := (Eqn.rf.ul (by omega)).ui (by omega)
  refine ⟨(hq (19, 0) (by decide) 5).1.trans h1, fun k x hx => (hq (26, 0) (by decide) k).1.trans (h2 k x hx), h3, h4.eqn hq (by decide) (by decide), ⟨?_, ?_⟩, h6.eqn hq (by decide) (by decide), h7, h8.push (lfx_mem hl) ht, h9⟩
  · simp [ui, addH]
  · rw [show (addH t s).2.2.1.map lN = s.2.2.1.map lN ++ [lN t] by simp [addH]]
    exact h5.2.push (fun k hk => by simp at hk; simp [ui, ul]; omega) (by simp [ui, ul])
theorem WrC.pR {s : WS} {M : Mm} {t : Nat} (h : WrC s M) (ht : t < 12) (hl : lfx (s.2.2.2.map lN) (lN t) = none) : WrC (addR t s) (ui (ul M (25, 0) s.2.2.2.length (lN t)) (24, 0) 1 (nI (s.2.2.2.length + 1))) := by
  obtain ⟨h1, h2, h3, h4, h5, h6, h7, h8, h9⟩ := h
  have hq : Eqn (fun r => r ≠ 24 ∧ r ≠ 25) M (ui (ul M (25, 0) s.2.2.2.length (lN t)) (24, 0) 1 (nI (s.2.2.2.length + 1))) := (Eqn.rf.ul (by omega)).ui (by omega)
  refine ⟨(hq (19, 0) (by decide) 5).1.trans h1, fun k x hx => (hq (26, 0) (by decide) k).1.trans (h2 k x hx), h3, h4.eqn hq (by decide) (by decide), h5.eqn hq (by decide) (by decide), ⟨?_, ?_⟩, h7, h8, h9.push (lfx_mem hl) ht⟩
  · simp [ui, addR]
  · rw [show (addR t s).2.2.2.map lN = s.2.2.2.map lN ++ [lN t] by simp [addR]]
    exact h6.2.push (fun k hk => by simp at hk; simp [ui, ul]; omega) (by simp [ui, ul])
theorem cz_pos {t : Int64} (h : isTx t) (h0 : ¬ t = 0) : 1 ≤ cz (uN t) 0 7 := by
  have h1 : txN 7 (uN t) := h
  rw [uN_eq0] at h0
  unfold txN at h1
  rw [cz_s]
  simp only [Nat.mul_zero, Nat.pow_zero, Nat.div_one]
  rcases h1 with h1 | h1
  · exact absurd h1 h0
  · rw [if_neg (by omega)]; omega
section W2
variable {G : Gd} {d : Nat} {M : Mm} {s0 : WS}
set_option maxHeartbeats 4000000 in
set_option maxRecDepth 20000 in
theorem c_writeStringK (hG : Gok G) (hd : 8 ≤ d) (hw0 : WrC s0 M) (t : Int64) {p : Nat} (hp : lfx s0.2.1 t = some p) : CW G mX7_writeString d [.ref (ga G (19, 0)), .long (t)] M ((wbs (numB (2 * p)) s0).bind some) := by
  have hS0 : Eqn onW M M := Eqn.rf
  have hb := hw0.b20
  have hpl := lfx_lt hp
  refine w_of hG okX7_writeString (by decide +kernel) rfl (Nat.le_of_ble_eq_true rfl) ?_
  refine x_aload_n rfl rfl rfl ?_
  refine x_getR0 rfl rfl f_7_14 rfl (by decide) rfl rfl ?_
  refine x_lload_n rfl rfl rfl ?_
  refine x_callVi (d2 := 0) (c_LL_placeOf (len := s0.2.1.length) hG (lk_20 (by decide)) (t) hw0.l20 (by omega)) rfl rfl v_7_81 rfl rfl (by decide) rfl rfl (Nat.le_of_ble_eq_true rfl) (by omega) (by omega) ?_
  refine x_topI (v := nI p) (by rw [hw0.x20, hp]; rfl) ?_
  refine x_istore_n rfl rfl rfl rfl ?_
  refine x_iload_n rfl rfl rfl ?_
  refine x_iconst (v := -1) rfl rfl (by decide +kernel) ?_
  refine x_icmp_eq rfl rfl (fun hc1 => absurd hc1 (nI_m1 (by omega))) (fun hc1 => ?_)
  refine x_aload_n rfl rfl rfl ?_
  refine x_iconstN (b := 2) rfl rfl ?_
  refine x_iload_n rfl rfl rfl ?_
  refine x_imulN (a := 2) (b := p) rfl rfl ?_
  refine w_callV (d2 := 7) (c_writeNumber hG (by omega) hw0 (n := 2 * p) (by omega)) hS0 rfl rfl v_7_57 rfl rfl (by decide) rfl rfl (Nat.le_of_ble_eq_true rfl) (by omega) (fun s1 M1 e1 hw1 hS1 => ?_)
  exact w_ret rfl hw1 hS1 rfl rfl rfl
set_option maxHeartbeats 4000000 in
theorem l_writeString (hG : Gok G) (hd : 8 ≤ d) (t : Int64) {m : Nat} (hm : m ≤ 7) {M9 : Mm} : ∀ (n i : Nat), i + n = m → ∀ (s0 : WS) (M : Mm), WrC s0 M → Eqn onW M9 M → (¬ t = 0 → 2 * (s0.2.1.length + 1) ≤ s0.1.length + n) → FW G mX7_writeString d M9 ((wbs (ltF t i n) s0).bind fun s2 => some (addT t s2)) 41 [(0, .ref (ga G (19, 0))), (1, .long (t)), (3, .int ((-1))), (4, .int (nI m)), (5, .int (nI i))] [] M := by
  intro n
  induction n with
  | zero =>
    intro i hi s0 M hw0 hS0 hb
    show FW G mX7_writeString d M9 (some (addT t s0)) 41 _ [] M
    refine x_iload rfl rfl rfl ?_
    refine x_iload rfl rfl rfl ?_
    refine x_icmpN_ge (by omega) (by omega) rfl rfl (fun hc1 => ?_) (fun hc1 => absurd hc1 (by omega))
    refine x_lload_n rfl rfl rfl ?_
    refine x_lconst (v := 0) rfl rfl (by decide +kernel) ?_
    refine x_lc_eq rfl rfl rfl rfl (fun hc2 => ?_) (fun hc2 => ?_)
    · exact w_ret (s := s0) (by rw [show addT t s0 = s0 from if_pos hc2]) hw0 hS0 rfl rfl rfl
    · have hlen : s0.2.1.length < 300 := by have := hb hc2; have := hw0.2.2.1; omega
      refine x_aload_n rfl rfl rfl ?_
      refine x_getR0 rfl rfl f_7_14 rfl (by decide) rfl rfl ?_
      refine x_lload_n rfl rfl rfl ?_
      refine x_callVv (d2 := 0) (c_LL_add (len := s0.2.1.length) hG (lk_20 (by decide)) (t) hw0.l20 (by omega)) rfl rfl v_7_87 rfl rfl (by decide) rfl rfl (Nat.le_of_ble_eq_true rfl) (by omega) (by omega) ?_
      exact w_ret (s := addT t s0) rfl (hw0.pT hc2 (by have := hb hc2; omega)) ((hS0.ul (by unfold onW; omega)).ui (by unfold onW; omega)) rfl rfl rfl
  | succ n ih =>
    intro i hi s0 M hw0 hS0 hb
    rw [show wbs (ltF t i (n + 1)) s0 = (wb (uN t / 2 ^ (8 * i) % 256) s0).bind (wbs (ltF t (i + 1) n)) from rfl, Option.bind_assoc]
    refine x_iload rfl rfl rfl ?_
    refine x_iload rfl rfl rfl ?_
    refine x_icmpN_ge (by omega) (by omega) rfl rfl (fun hc1 => absurd hc1 (by omega)) (fun hc1 => ?_)
    refine x_aload_n rfl rfl rfl ?_
    refine x_lload_n rfl rfl rfl ?_
    refine x_bipush (v := nI 8) rfl rfl (by decide +kernel) ?_
    refine x_iload rfl rfl rfl ?_
    refine x_imulN (a := 8) (b := i) rfl rfl ?_
    refine x_lshr rfl rfl ?_
    refine x_ldc2 (v := 255) rfl rfl k_7_153 ?_
    refine x_land rfl rfl ?_
    refine x_l2i rfl rfl ?_
    refine x_topI (v := nI (uN t / 2 ^ (8 * i) % 256)) (l2i_sb t (by omega)) ?_
    refine w_callV (d2 := 6) (c_writeByte hG (by omega) hw0 (uN t / 2 ^ (8 * i) % 256)) hS0 rfl rfl v_7_53 rfl rfl (by decide) rfl rfl (Nat.le_of_ble_eq_true rfl) (by omega) (fun s1 M1 e1 hw1 hS1 => ?_)
    refine x_iincN (a := i) (b := 1) rfl rfl rfl rfl rfl ?_
    refine x_goto rfl rfl ?_
    exact ih (i + 1) (by omega) s1 M1 hw1 hS1 (fun h0 => by have := hb h0; have z := (wb_some e1).1; rw [z]; simp; omega)
set_option maxHeartbeats 4000000 in
set_option maxRecDepth 20000 in
theorem c_writeStringN (hG : Gok G) (hd : 8 ≤ d) (hw0 : WrC s0 M) (t : Int64) (ht : isTx t) (hp : lfx s0.2.1 t = none) : CW G mX7_writeString d [.ref (ga G (19, 0)), .long (t)] M ((wbs (numB (2 * cz (uN t) 0 7 + 1)) s0).bind fun s1 => (wbs (ltF t 0 (cz (uN t) 0 7)) s1).bind fun s2 => some (addT t s2)) := by
  have hS0 : Eqn onW M M := Eqn.rf
  have hb := hw0.b20
  have hz := cz_le (uN t) 0 7
  refine w_of hG okX7_writeString (by decide +kernel) rfl (Nat.le_of_ble_eq_true rfl) ?_
  refine x_aload_n rfl rfl rfl ?_
  refine x_getR0 rfl rfl f_7_14 rfl (by decide) rfl rfl ?_
  refine x_lload_n rfl rfl rfl ?_
  refine x_callVi (d2 := 0) (c_LL_placeOf (len := s0.2.1.length) hG (lk_20 (by decide)) (t) hw0.l20 (by omega)) rfl rfl v_7_81 rfl rfl (by decide) rfl rfl (Nat.le_of_ble_eq_true rfl) (by omega) (by omega) ?_
  refine x_topI (v := -1) (by rw [hw0.x20, hp]; rfl) ?_
  refine x_istore_n rfl rfl rfl rfl ?_
  refine x_iload_n rfl rfl rfl ?_
  refine x_iconst (v := -1) rfl rfl (by decide +kernel) ?_
  refine x_icmp_eq rfl rfl (fun hc1 => ?_) (fun hc1 => absurd rfl hc1)
  refine x_lload_n rfl rfl rfl ?_
  refine x_callSi (d2 := 0) (c_textSize hG (t)) rfl rfl s_7_150 rfl rfl (Nat.le_of_ble_eq_true rfl) (by omega) (by omega) ?_
  refine x_istore rfl rfl rfl rfl ?_
  refine x_aload_n rfl rfl rfl ?_
  refine x_iconstN (b := 2) rfl rfl ?_
  refine x_iload rfl rfl rfl ?_
  refine x_imulN (a := 2) (b := cz (uN t) 0 7) rfl rfl ?_
  refine x_iconstN (b := 1) rfl rfl ?_
  refine x_iaddN (a := 2 * (cz (uN t) 0 7)) (b := 1) rfl rfl ?_
  refine w_callV (d2 := 7) (c_writeNumber hG (by omega) hw0 (n := (2 * (cz (uN t) 0 7)) + 1) (by omega)) hS0 rfl rfl v_7_57 rfl rfl (by decide) rfl rfl (Nat.le_of_ble_eq_true rfl) (by omega) (fun s1 M1 e1 hw1 hS1 => ?_)
  refine x_iconstN (b := 0) rfl rfl ?_
  refine x_istore rfl rfl rfl rfl ?_
  exact l_writeString hG hd t (cz_le _ _ _) _ 0 (Nat.zero_add _) s1 M1 hw1 hS1 (fun h0 => by have z := wbs_some e1; have := numB_pos (2 * cz (uN t) 0 7 + 1); have := cz_pos ht h0; have := hw0.2.2.2.2.2.2.1; rw [z]; simp; omega)
theorem c_writeString (hG : Gok G) (hd : 8 ≤ d) (hw0 : WrC s0 M) (t : Int64) (ht : isTx t) : CW G mX7_writeString d [.ref (ga G (19, 0)), .long t] M (wstr t s0) := by
  unfold wstr
  cases hp : lfx s0.2.1 t with
  | some p => have hz := c_writeStringK hG hd hw0 t hp; rw [bsome] at hz; exact hz
  | none => exact c_writeStringN hG hd hw0 t ht hp
end W2
