theorem LN.at {f : Nat → Int32} {l : List Nat} {k : Nat} (h : LN f l) (hk : k < l.length) : f k = nI (l[k]?.getD 0) := by
  rw [h k l[k] (List.getElem?_eq_getElem hk), List.getElem?_eq_getElem hk]; rfl
theorem numB_le (n : Nat) : (numB n).length ≤ 4 := by
  unfold numB
  split
  · simp
  · split
    · simp
    · split <;> simp
theorem ltF_len (t : Int64) : ∀ n i, (ltF t i n).length = n
  | 0, i => rfl
  | n + 1, i => by simp [ltF, ltF_len t n]
theorem strT_len (t : Int64) (s : WS) : (strT t s).1.length ≤ s.1.length + 11 ∧ s.1.length + 1 ≤ (strT t s).1.length := by
  unfold strT
  cases lfx s.2.1 t with
  | some p =>
    have := numB_le (2 * p)
    have := numB_pos (2 * p)
    simp [emT]; omega
  | none =>
    have := numB_le (2 * cz (uN t) 0 7 + 1)
    have := numB_pos (2 * cz (uN t) 0 7 + 1)
    have := cz_le (uN t) 0 7
    have := ltF_len t (cz (uN t) 0 7) 0
    simp only [addT]
    split <;> simp [emT] <;> omega
theorem lN_inj {a b : Nat} (ha : a < 1000) (hb : b < 1000) (h : lN a = lN b) : a = b := by
  have := congrArg uN h
  rwa [uN_lN (by omega), uN_lN (by omega)] at this
theorem mapN_at {l : List Nat} {k : Nat} (h : k < l.length) : (l.map lN)[k]?.getD 0 = lN (l[k]?.getD 0) := by
  rw [List.getElem?_map, List.getElem?_eq_getElem h]; rfl
theorem Nd.at {n : Nat} {l : List Nat} {k : Nat} (h : Nd n l) (hk : k < l.length) : l[k]?.getD 0 < n := by
  rw [List.getElem?_eq_getElem hk]; exact h.2 _ (List.getElem_mem hk)
theorem strT_0 {s : WS} {M : Mm} (h : WrM s M) : strT 0 s = emT (numB 1) s := by
  unfold strT
  have e : lfx s.2.1 0 = none := by
    cases hl : lfx s.2.1 0 with
    | none => rfl
    | some p =>
      exfalso
      have hp := lfx_lt hl
      have h2 : ∀ (n i : Nat), fx (fun k => s.2.1[k]?.getD 0) 0 i n = some p → s.2.1[p]?.getD 0 = 0 := by
        intro n
        induction n with
        | zero => intro i h9; cases h9
        | succ n ih =>
          intro i h9
          unfold fx at h9
          by_cases hf : s.2.1[i]?.getD 0 = 0
          · rw [if_pos hf] at h9; cases h9; exact hf
          · rw [if_neg hf] at h9; exact ih _ h9
      have h3 := h2 _ _ hl
      exact h.2.2.2.2.2.2.2.2.2.2.2.2 (h3 ▸ getD_mem hp)
  rw [e]
  have e2 : cz (uN 0) 0 7 = 0 := by decide +kernel
  simp only [e2]
  simp [addT, emT, ltF]
section M2
variable {G : Gd} {d : Nat} {M : Mm}
set_option maxHeartbeats 4000000 in
theorem l_memitSN (hG : Gok G) {s : WS} (hw0 : WrM s M) (hb : s.1.length < 1100) (t : Int64) {kf k0 : Nat} {Z : Zt} : ∀ (n k : Nat), k + n = s.2.1.length → fx (fun j => s.2.1[j]?.getD 0) t k n = none → Fr G mX9_emitString d kf Z k0 47 [(0, .ref (ga G (40, 0))), (1, .long (t)), (3, .int (nI (s.2.1.length)))] [] M → Fr G mX9_emitString d kf Z k0 14 [(0, .ref (ga G (40, 0))), (1, .long (t)), (3, .int (nI k))] [] M := by
  intro n
  induction n with
  | zero =>
    intro k hk hf go
    have hq := hw0.2.2.2.2.2.2.2.2.2.1
    refine x_iload_n rfl rfl rfl ?_
    refine x_aload_n rfl rfl rfl ?_
    refine x_getIv (v := nI (s.2.1.length)) hw0.2.2.2.1 rfl rfl f_9_193 rfl (by decide) rfl ?_
    refine x_icmpN_ge (by omega) (by omega) rfl rfl (fun hc1 => ?_) (fun hc1 => absurd hc1 (by omega))
    exact (show k = s.2.1.length by omega) ▸ go
  | succ n ih =>
    intro k hk hf go
    have hkl : k < s.2.1.length := by omega
    have hq := hw0.2.2.2.2.2.2.2.2.2.1
    unfold fx at hf
    refine x_iload_n rfl rfl rfl ?_
    refine x_aload_n rfl rfl rfl ?_
    refine x_getIv (v := nI (s.2.1.length)) hw0.2.2.2.1 rfl rfl f_9_193 rfl (by decide) rfl ?_
    refine x_icmpN_ge (by omega) (by omega) rfl rfl (fun hc1 => absurd hc1 (by omega)) (fun hc1 => ?_)
    refine x_aload_n rfl rfl rfl ?_
    refine x_getR0 rfl rfl f_9_57 rfl (by decide) rfl rfl ?_
    refine x_iload_n rfl rfl rfl ?_
    refine x_laldv (a := k) (v := s.2.1[k]?.getD 0) (hw0.2.2.2.2.1.at hkl) rfl rfl rfl (by decide) (by omega) (by decide) ?_
    refine x_lload_n rfl rfl rfl ?_
    refine x_lc_ne rfl rfl rfl rfl (fun hc2 => ?_) (fun hc2 => ?_)
    · refine x_iincN (a := k) (b := 1) rfl rfl rfl rfl rfl ?_
      refine x_goto rfl rfl ?_
      rw [if_neg (by exact hc2)] at hf
      exact ih (k + 1) (by omega) hf go
    · rw [if_pos (by exact hc2)] at hf
      cases hf
set_option maxHeartbeats 4000000 in
theorem l_memitSK (hG : Gok G) {s : WS} (hw0 : WrM s M) (hb : s.1.length < 1100) (t : Int64) {kf k0 : Nat} {Z : Zt} {p : Nat} : ∀ (n k : Nat), k + n = s.2.1.length → fx (fun j => s.2.1[j]?.getD 0) t k n = some p → Fr G mX9_emitString d kf Z k0 33 [(0, .ref (ga G (40, 0))), (1, .long (t)), (3, .int (nI p))] [] M → Fr G mX9_emitString d kf Z k0 14 [(0, .ref (ga G (40, 0))), (1, .long (t)), (3, .int (nI k))] [] M := by
  intro n
  induction n with
  | zero =>
    intro k hk hf go
    have hq := hw0.2.2.2.2.2.2.2.2.2.1
    cases hf
  | succ n ih =>
    intro k hk hf go
    have hkl : k < s.2.1.length := by omega
    have hq := hw0.2.2.2.2.2.2.2.2.2.1
    unfold fx at hf
    refine x_iload_n rfl rfl rfl ?_
    refine x_aload_n rfl rfl rfl ?_
    refine x_getIv (v := nI (s.2.1.length)) hw0.2.2.2.1 rfl rfl f_9_193 rfl (by decide) rfl ?_
    refine x_icmpN_ge (by omega) (by omega) rfl rfl (fun hc1 => absurd hc1 (by omega)) (fun hc1 => ?_)
    refine x_aload_n rfl rfl rfl ?_
    refine x_getR0 rfl rfl f_9_57 rfl (by decide) rfl rfl ?_
    refine x_iload_n rfl rfl rfl ?_
    refine x_laldv (a := k) (v := s.2.1[k]?.getD 0) (hw0.2.2.2.2.1.at hkl) rfl rfl rfl (by decide) (by omega) (by decide) ?_
    refine x_lload_n rfl rfl rfl ?_
    refine x_lc_ne rfl rfl rfl rfl (fun hc2 => ?_) (fun hc2 => ?_)
    · refine x_iincN (a := k) (b := 1) rfl rfl rfl rfl rfl ?_
      refine x_goto rfl rfl ?_
      rw [if_neg (by exact hc2)] at hf
      exact ih (k + 1) (by omega) hf go
    · rw [if_pos (by exact hc2)] at hf
      cases hf
      exact go
set_option maxHeartbeats 4000000 in
theorem l_memitL (hG : Gok G) (hd : 2 ≤ d) (t : Int64) (ht0 : ¬ t = 0) {m : Nat} (hm : m ≤ 8) {M9 : Mm} : ∀ (n i : Nat), i + n = m → ∀ (s0 : WS) (M : Mm), WrM s0 M → EqF onX M9 M → s0.1.length + n < 1150 → 2 * (s0.2.1.length + 1) ≤ s0.1.length + n → FX G mX9_emitString d M9 (addT t (emT (ltF t i n) s0)) 64 [(0, .ref (ga G (40, 0))), (1, .long (t)), (3, .int (nI m)), (4, .int (nI i))] [] M := by
  intro n
  induction n with
  | zero =>
    intro i hi s0 M hw0 hS0 hb hb2
    rw [show emT (ltF t i 0) s0 = s0 from emT_nil s0]
    refine x_iload rfl rfl rfl ?_
    refine x_iload_n rfl rfl rfl ?_
    refine x_icmpN_ge (by omega) (by omega) rfl rfl (fun hc1 => ?_) (fun hc1 => absurd hc1 (by omega))
    refine x_aload_n rfl rfl rfl ?_
    refine x_getR0 rfl rfl f_9_57 rfl (by decide) rfl rfl ?_
    refine x_aload_n rfl rfl rfl ?_
    refine x_getIv (v := nI (s0.2.1.length)) hw0.2.2.2.1 rfl rfl f_9_193 rfl (by decide) rfl ?_
    refine x_lload_n rfl rfl rfl ?_
    refine x_last (a := s0.2.1.length) rfl rfl rfl (by decide) (by omega) (by decide) ?_
    refine x_aload_n rfl rfl rfl ?_
    refine x_dup rfl rfl rfl ?_
    refine x_getIv (v := nI (s0.2.1.length)) (by first | exact hw0.2.2.2.1 | (rw [← hw0.2.2.2.1]; rfl) | simp [ui, ul, hw0.2.2.2.1]) rfl rfl f_9_193 rfl (by decide) rfl ?_
    refine x_iconstN (b := 1) rfl rfl ?_
    refine x_iaddN (a := s0.2.1.length) (b := 1) rfl rfl ?_
    refine x_putI rfl rfl f_9_193 rfl rfl (by decide) rfl ?_
    exact xm_ret (hw0.pT ht0 (by omega)) ((hS0.ul (by simp [onX])).ui (by simp [onX])) rfl rfl rfl
  | succ n ih =>
    intro i hi s0 M hw0 hS0 hb hb2
    rw [show ltF t i (n + 1) = (uN t / 2 ^ (8 * i) % 256) :: ltF t (i + 1) n from rfl, emT_cons]
    refine x_iload rfl rfl rfl ?_
    refine x_iload_n rfl rfl rfl ?_
    refine x_icmpN_ge (by omega) (by omega) rfl rfl (fun hc1 => absurd hc1 (by omega)) (fun hc1 => ?_)
    refine x_aload_n rfl rfl rfl ?_
    refine x_lload_n rfl rfl rfl ?_
    refine x_bipush (v := nI 8) rfl rfl (by decide +kernel) ?_
    refine x_iload rfl rfl rfl ?_
    refine x_imulN (a := 8) (b := i) rfl rfl ?_
    refine x_lushr rfl rfl ?_
    refine x_ldc2 (v := 255) rfl rfl k_9_104 ?_
    refine x_land rfl rfl ?_
    refine x_l2i rfl rfl ?_
    refine x_topI (v := nI (uN t / 2 ^ (8 * i) % 256)) (l2i_ub t (by omega)) ?_
    refine xm_call (d2 := 0) (c_memit hG  (s := s0) hw0 (by first | omega | (simp [emT, addT, addH, addR]; omega)) (uN t / 2 ^ (8 * i) % 256)) hS0 rfl rfl v_9_183 rfl rfl (by decide) rfl rfl (Nat.le_of_ble_eq_true rfl) (by omega) (fun M1 hw1 hS1 => ?_)
    refine x_iincN (a := i) (b := 1) rfl rfl rfl rfl rfl ?_
    refine x_goto rfl rfl ?_
    exact ih (i + 1) (by omega) _ M1 hw1 hS1 (by simp [emT]; omega) (by simp [emT]; omega)
set_option maxHeartbeats 4000000 in
set_option maxRecDepth 20000 in
theorem c_memitString0 (hG : Gok G) (hd : 2 ≤ d) {s : WS} (hw0 : WrM s M) (hb : s.1.length < 1100) : CX G mX9_emitString d [.ref (ga G (40, 0)), .long (0)] M (strT 0 s) := by
  have hS0 : EqF onX M M := EqF.rf
  refine xm_of hG okX9_emitString (by decide +kernel) rfl (Nat.le_of_ble_eq_true rfl) ?_
  refine x_lload_n rfl rfl rfl ?_
  refine x_lconst (v := 0) rfl rfl (by decide +kernel) ?_
  refine x_lc_ne rfl rfl rfl rfl (fun hc1 => absurd rfl hc1) (fun hc1 => ?_)
  refine x_aload_n rfl rfl rfl ?_
  refine x_iconstN (b := 1) rfl rfl ?_
  refine xm_call (d2 := 1) (c_memitNumber hG (by omega) (s := s) hw0 (by first | omega | (simp [emT, addT, addH, addR]; omega)) (n := 1) (by omega)) hS0 rfl rfl v_9_190 rfl rfl (by decide) rfl rfl (Nat.le_of_ble_eq_true rfl) (by omega) (fun M1 hw1 hS1 => ?_)
  exact xm_ret (by rw [strT_0 hw0]; exact hw1) hS1 rfl rfl rfl
set_option maxHeartbeats 4000000 in
set_option maxRecDepth 20000 in
theorem c_memitStringK (hG : Gok G) (hd : 2 ≤ d) {s : WS} (hw0 : WrM s M) (hb : s.1.length < 1100) (t : Int64) (ht0 : ¬ t = 0) {p : Nat} (hp : lfx s.2.1 t = some p) : CX G mX9_emitString d [.ref (ga G (40, 0)), .long (t)] M (strT t s) := by
  have hS0 : EqF onX M M := EqF.rf
  have hpl := lfx_lt hp
  have hq := hw0.2.2.2.2.2.2.2.2.2.1
  refine xm_of hG okX9_emitString (by decide +kernel) rfl (Nat.le_of_ble_eq_true rfl) ?_
  refine x_lload_n rfl rfl rfl ?_
  refine x_lconst (v := 0) rfl rfl (by decide +kernel) ?_
  refine x_lc_ne rfl rfl rfl rfl (fun hc1 => ?_) (fun hc1 => absurd hc1 ht0)
  refine x_iconstN (b := 0) rfl rfl ?_
  refine x_istore_n rfl rfl rfl rfl ?_
  refine l_memitSK (p := p) hG hw0 hb t _ 0 (Nat.zero_add _) hp ?_
  refine x_aload_n rfl rfl rfl ?_
  refine x_iconstN (b := 2) rfl rfl ?_
  refine x_iload_n rfl rfl rfl ?_
  refine x_imulN (a := 2) (b := p) rfl rfl ?_
  refine xm_call (d2 := 1) (c_memitNumber hG (by omega) (s := s) hw0 (by first | omega | (simp [emT, addT, addH, addR]; omega)) (n := 2 * p) (by omega)) hS0 rfl rfl v_9_190 rfl rfl (by decide) rfl rfl (Nat.le_of_ble_eq_true rfl) (by omega) (fun M1 hw1 hS1 => ?_)
  exact xm_ret (by unfold strT; rw [hp]; exact hw1) hS1 rfl rfl rfl
set_option maxHeartbeats 4000000 in
set_option maxRecDepth 20000 in
theorem c_memitStringN (hG : Gok G) (hd : 2 ≤ d) {s : WS} (hw0 : WrM s M) (hb : s.1.length < 1100) (t : Int64) (ht0 : ¬ t = 0) (ht : isTx t) (hp : lfx s.2.1 t = none) : CX G mX9_emitString d [.ref (ga G (40, 0)), .long (t)] M (strT t s) := by
  have hS0 : EqF onX M M := EqF.rf
  have hq := hw0.2.2.2.2.2.2.2.2.2.1
  have hz := cz_le (uN t) 0 7
  have hz1 := cz_pos ht ht0
  have hn1 := numB_pos (2 * cz (uN t) 0 7 + 1)
  have hn2 := numB_le (2 * cz (uN t) 0 7 + 1)
  rw [show strT t s = addT t (emT (ltF t 0 (cz (uN t) 0 7)) (emT (numB (2 * cz (uN t) 0 7 + 1)) s)) by unfold strT; rw [hp]]
  refine xm_of hG okX9_emitString (by decide +kernel) rfl (Nat.le_of_ble_eq_true rfl) ?_
  refine x_lload_n rfl rfl rfl ?_
  refine x_lconst (v := 0) rfl rfl (by decide +kernel) ?_
  refine x_lc_ne rfl rfl rfl rfl (fun hc1 => ?_) (fun hc1 => absurd hc1 ht0)
  refine x_iconstN (b := 0) rfl rfl ?_
  refine x_istore_n rfl rfl rfl rfl ?_
  refine l_memitSN hG hw0 hb t _ 0 (Nat.zero_add _) hp ?_
  refine x_lload_n rfl rfl rfl ?_
  refine x_callSi (d2 := 0) (c_letters hG t) rfl rfl s_9_100 rfl rfl (Nat.le_of_ble_eq_true rfl) (by omega) (by omega) ?_
  refine x_topI (v := nI (cz (uN t) 0 7)) (by rw [nl_of ht]) ?_
  refine x_istore_n rfl rfl rfl rfl ?_
  refine x_aload_n rfl rfl rfl ?_
  refine x_iconstN (b := 2) rfl rfl ?_
  refine x_iload_n rfl rfl rfl ?_
  refine x_imulN (a := 2) (b := cz (uN t) 0 7) rfl rfl ?_
  refine x_iconstN (b := 1) rfl rfl ?_
  refine x_iaddN (a := 2 * (cz (uN t) 0 7)) (b := 1) rfl rfl ?_
  refine xm_call (d2 := 1) (c_memitNumber hG (by omega) (s := s) hw0 (by first | omega | (simp [emT, addT, addH, addR]; omega)) (n := (2 * (cz (uN t) 0 7)) + 1) (by omega)) hS0 rfl rfl v_9_190 rfl rfl (by decide) rfl rfl (Nat.le_of_ble_eq_true rfl) (by omega) (fun M1 hw1 hS1 => ?_)
  refine x_iconstN (b := 0) rfl rfl ?_
  refine x_istore rfl rfl rfl rfl ?_
  exact l_memitL hG hd t ht0 (by omega) _ 0 (Nat.zero_add _) _ M1 hw1 hS1 (by simp [emT]; omega) (by simp [emT]; omega)
theorem c_memitString (hG : Gok G) (hd : 2 ≤ d) {s : WS} (hw0 : WrM s M) (hb : s.1.length < 1100) (t : Int64) (ht : isTx t) : CX G mX9_emitString d [.ref (ga G (40, 0)), .long t] M (strT t s) := by
  by_cases h0 : t = 0
  · subst h0; exact c_memitString0 hG hd hw0 hb
  cases hp : lfx s.2.1 t with
  | some p => exact c_memitStringK hG hd hw0 hb t h0 hp
  | none => exact c_memitStringN hG hd hw0 hb t h0 ht hp
end M2
