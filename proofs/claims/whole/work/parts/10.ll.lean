/-- a truth as an int -/
noncomputable def bI (P : Prop) : Int32 := @ite _ P (Classical.propDecidable P) (nI 1) (nI 0)
theorem bI_t {P : Prop} (h : P) : bI P = nI 1 := by unfold bI; exact @if_pos _ (Classical.propDecidable P) h _ _ _
theorem bI_f {P : Prop} (h : ¬ P) : bI P = nI 0 := by unfold bI; exact @if_neg _ (Classical.propDecidable P) h _ _ _
theorem bI_01 (P : Prop) : bI P = 0 ∨ bI P = 1 := by
  by_cases h : P
  · rw [bI_t h]; exact Or.inr rfl
  · rw [bI_f h]; exact Or.inl rfl
theorem bI_iff {P Q : Prop} (h : P ↔ Q) : bI P = bI Q := by rw [propext h]
section XB
variable {G : Gd} {y : Mt} {d kf : Nat} {Z : Zt} {k pc n t : Nat} {lv lv' : List (Nat × Value)} {st : List Value} {M M' : Mm}
theorem x_ifB_eq {P : Prop} {o9 : Int} (hi : tget (yT y) pc = some (.ifCond .eq o9, n, t)) (hn : pc + 3 = n) (kt : ¬ P → Fr G y d kf Z k t lv st M) (ke : P → Fr G y d kf Z k n lv st M) : Fr G y d kf Z k pc lv (.int (bI P) :: st) M :=
  x_if_eq hi hn (fun h => kt fun p => by rw [bI_t p] at h; exact absurd h (by decide +kernel)) (fun h => ke (Classical.byContradiction fun p => h (by rw [bI_f p]; rfl)))
theorem x_ifB_ne {P : Prop} {o9 : Int} (hi : tget (yT y) pc = some (.ifCond .ne o9, n, t)) (hn : pc + 3 = n) (kt : P → Fr G y d kf Z k t lv st M) (ke : ¬ P → Fr G y d kf Z k n lv st M) : Fr G y d kf Z k pc lv (.int (bI P) :: st) M :=
  x_if_ne hi hn (fun h => kt (Classical.byContradiction fun p => h (by rw [bI_f p]; rfl))) (fun h => ke fun p => by rw [bI_t p] at h; exact absurd h (by decide +kernel))
end XB
/-- the first place from i on, among n, where f is e -/
def fx (f : Nat → Int64) (e : Int64) : Nat → Nat → Option Nat
  | _, 0 => none
  | i, n + 1 => if f i = e then some i else fx f e (i + 1) n
def ixv (r : Option Nat) : Int32 := match r with | some j => nI j | none => -1
section LL
variable {G : Gd} {d : Nat} {q q' q2 q2' : Ky} {N len N2 len2 : Nat} {M : Mm}
set_option maxHeartbeats 4000000 in
set_option maxRecDepth 20000 in
theorem c_LL_empty (hG : Gok G) (h : LLk q q' N) : Ct G mX0_empty d [.ref (ga G q)] M (.inl none) (ui M q 1 (nI 0)) 0 := by
  obtain ⟨h1, h2, h3, h4, h5, h6⟩ := h
  refine ct_of hG okX0_empty (by decide +kernel) rfl (Nat.le_of_ble_eq_true rfl) ?_
  refine x_aload_n rfl rfl rfl ?_
  refine x_iconstN (b := 0) rfl rfl ?_
  refine x_putI rfl rfl f_0_15 rfl h1 h2 rfl ?_
  exact x_retV rfl rfl rfl (by omega) rfl rfl
set_option maxHeartbeats 4000000 in
set_option maxRecDepth 20000 in
theorem c_LL_isFull (hG : Gok G) (h : LLk q q' N) (hl : M.1 q 1 = nI len) (hle : len ≤ N) : Ct G mX0_isFull d [.ref (ga G q)] M (.inl (some (.int (bI (len = N))))) M 0 := by
  obtain ⟨h1, h2, h3, h4, h5, h6⟩ := h
  refine ct_of hG okX0_isFull (by decide +kernel) rfl (Nat.le_of_ble_eq_true rfl) ?_
  refine x_aload_n rfl rfl rfl ?_
  refine x_getIv (v := nI len) hl rfl rfl f_0_15 h1 h2 rfl ?_
  refine x_aload_n rfl rfl rfl ?_
  refine x_getR rfl rfl f_0_9 h1 h2 rfl h3 ?_
  refine x_alen rfl rfl h4 (by decide) h5 ?_
  refine x_icmpN_ne (by omega) (by omega) rfl rfl (fun hc1 => ?_) (fun hc1 => ?_)
  · refine x_iconstN (b := 0) rfl rfl ?_
    exact x_retZ rfl rfl rfl (by first | exact Or.inl rfl | exact Or.inr rfl) (by omega) (by rw [bI_f (by omega)]) rfl
  · refine x_iconstN (b := 1) rfl rfl ?_
    refine x_goto rfl rfl ?_
    exact x_retZ rfl rfl rfl (by first | exact Or.inl rfl | exact Or.inr rfl) (by omega) (by rw [bI_t (by omega)]) rfl
set_option maxHeartbeats 4000000 in
set_option maxRecDepth 20000 in
theorem c_LL_add (hG : Gok G) (h : LLk q q' N) (e : Int64) (hl : M.1 q 1 = nI len) (hlt : len < N) : Ct G mX0_add d [.ref (ga G q), .long (e)] M (.inl none) (ui (ul M q' len e) q 1 (nI (len + 1))) 0 := by
  obtain ⟨h1, h2, h3, h4, h5, h6⟩ := h
  refine ct_of hG okX0_add (by decide +kernel) rfl (Nat.le_of_ble_eq_true rfl) ?_
  refine x_aload_n rfl rfl rfl ?_
  refine x_getIv (v := nI len) hl rfl rfl f_0_15 h1 h2 rfl ?_
  refine x_aload_n rfl rfl rfl ?_
  refine x_getR rfl rfl f_0_9 h1 h2 rfl h3 ?_
  refine x_alen rfl rfl h4 (by decide) h5 ?_
  refine x_icmpN_ge (by omega) (by omega) rfl rfl (fun hc1 => absurd hc1 (by omega)) (fun hc1 => ?_)
  refine x_aload_n rfl rfl rfl ?_
  refine x_getR rfl rfl f_0_9 h1 h2 rfl h3 ?_
  refine x_aload_n rfl rfl rfl ?_
  refine x_getIv (v := nI len) hl rfl rfl f_0_15 h1 h2 rfl ?_
  refine x_lload_n rfl rfl rfl ?_
  refine x_last (a := len) rfl rfl h4 h5 (by omega) (by omega) ?_
  refine x_aload_n rfl rfl rfl ?_
  refine x_dup rfl rfl rfl ?_
  refine x_getIv (v := nI len) (by first | exact hl | (rw [← hl]; rfl) | simp [ui, ul, hl]) rfl rfl f_0_15 h1 h2 rfl ?_
  refine x_iconstN (b := 1) rfl rfl ?_
  refine x_iaddN (a := len) (b := 1) rfl rfl ?_
  refine x_putI rfl rfl f_0_15 rfl h1 h2 rfl ?_
  exact x_retV rfl rfl rfl (by omega) rfl rfl
set_option maxHeartbeats 4000000 in
set_option maxRecDepth 20000 in
theorem c_LL_addF (hG : Gok G) (h : LLk q q' N) (e : Int64) (hl : M.1 q 1 = nI len) (hlt : len = N) : Ct G mX0_add d [.ref (ga G q), .long (e)] M (.inl none) M 0 := by
  obtain ⟨h1, h2, h3, h4, h5, h6⟩ := h
  refine ct_of hG okX0_add (by decide +kernel) rfl (Nat.le_of_ble_eq_true rfl) ?_
  refine x_aload_n rfl rfl rfl ?_
  refine x_getIv (v := nI len) hl rfl rfl f_0_15 h1 h2 rfl ?_
  refine x_aload_n rfl rfl rfl ?_
  refine x_getR rfl rfl f_0_9 h1 h2 rfl h3 ?_
  refine x_alen rfl rfl h4 (by decide) h5 ?_
  refine x_icmpN_ge (by omega) (by omega) rfl rfl (fun hc1 => ?_) (fun hc1 => absurd hc1 (by omega))
  exact x_retV rfl rfl rfl (by omega) rfl rfl
set_option maxHeartbeats 4000000 in
set_option maxRecDepth 20000 in
theorem c_LL_replace (hG : Gok G) (h : LLk q q' N) (j : Nat) (e : Int64) (hl : M.1 q 1 = nI len) (hle : len ≤ N) (hj : j < len) : Ct G mX0_replace d [.ref (ga G q), .int (nI j), .long (e)] M (.inl none) (ul M q' j e) 0 := by
  obtain ⟨h1, h2, h3, h4, h5, h6⟩ := h
  refine ct_of hG okX0_replace (by decide +kernel) rfl (Nat.le_of_ble_eq_true rfl) ?_
  refine x_iload_n rfl rfl rfl ?_
  refine x_ifN_lt (by omega) rfl rfl (fun hc1 => hc1.elim) (fun hc1 => ?_)
  refine x_iload_n rfl rfl rfl ?_
  refine x_aload_n rfl rfl rfl ?_
  refine x_getIv (v := nI len) hl rfl rfl f_0_15 h1 h2 rfl ?_
  refine x_icmpN_ge (by omega) (by omega) rfl rfl (fun hc2 => absurd hc2 (by omega)) (fun hc2 => ?_)
  refine x_aload_n rfl rfl rfl ?_
  refine x_getR rfl rfl f_0_9 h1 h2 rfl h3 ?_
  refine x_iload_n rfl rfl rfl ?_
  refine x_lload_n rfl rfl rfl ?_
  refine x_last (a := j) rfl rfl h4 h5 (by omega) (by omega) ?_
  exact x_retV rfl rfl rfl (by omega) rfl rfl
set_option maxHeartbeats 4000000 in
set_option maxRecDepth 20000 in
theorem c_LL_at (hG : Gok G) (h : LLk q q' N) (j : Nat) (hl : M.1 q 1 = nI len) (hle : len ≤ N) (hj : j < len) : Ct G mX0_at d [.ref (ga G q), .int (nI j)] M ((.inl (some (.long (M.2 q' j))))) M 0 := by
  obtain ⟨h1, h2, h3, h4, h5, h6⟩ := h
  refine ct_of hG okX0_at (by decide +kernel) rfl (Nat.le_of_ble_eq_true rfl) ?_
  refine x_iload_n rfl rfl rfl ?_
  refine x_ifN_lt (by omega) rfl rfl (fun hc1 => hc1.elim) (fun hc1 => ?_)
  refine x_iload_n rfl rfl rfl ?_
  refine x_aload_n rfl rfl rfl ?_
  refine x_getIv (v := nI len) hl rfl rfl f_0_15 h1 h2 rfl ?_
  refine x_icmpN_ge (by omega) (by omega) rfl rfl (fun hc2 => absurd hc2 (by omega)) (fun hc2 => ?_)
  refine x_aload_n rfl rfl rfl ?_
  refine x_getR rfl rfl f_0_9 h1 h2 rfl h3 ?_
  refine x_iload_n rfl rfl rfl ?_
  refine x_lald (a := j) rfl rfl h4 h5 (by omega) (by omega) ?_
  refine x_goto rfl rfl ?_
  exact x_retL rfl rfl rfl (by omega) rfl rfl
set_option maxHeartbeats 4000000 in
set_option maxRecDepth 20000 in
theorem c_LL_atO (hG : Gok G) (h : LLk q q' N) (j : Nat) (hl : M.1 q 1 = nI len) (hle : len ≤ N) (hj : len ≤ j) (hj2 : j < 2 ^ 31) : Ct G mX0_at d [.ref (ga G q), .int (nI j)] M ((.inl (some (.long (-1))))) M 0 := by
  obtain ⟨h1, h2, h3, h4, h5, h6⟩ := h
  refine ct_of hG okX0_at (by decide +kernel) rfl (Nat.le_of_ble_eq_true rfl) ?_
  refine x_iload_n rfl rfl rfl ?_
  refine x_ifN_lt (by omega) rfl rfl (fun hc1 => hc1.elim) (fun hc1 => ?_)
  refine x_iload_n rfl rfl rfl ?_
  refine x_aload_n rfl rfl rfl ?_
  refine x_getIv (v := nI len) hl rfl rfl f_0_15 h1 h2 rfl ?_
  refine x_icmpN_ge (by omega) (by omega) rfl rfl (fun hc2 => ?_) (fun hc2 => absurd hc2 (by omega))
  refine x_ldc2 (v := -1) rfl rfl k_0_19 ?_
  exact x_retL rfl rfl rfl (by omega) rfl rfl
set_option maxHeartbeats 4000000 in
set_option maxRecDepth 20000 in
theorem c_LL_atN (hG : Gok G) (h : LLk q q' N) (i : Int32) (hi : i < 0) : Ct G mX0_at d [.ref (ga G q), .int (i)] M ((.inl (some (.long (-1))))) M 0 := by
  obtain ⟨h1, h2, h3, h4, h5, h6⟩ := h
  refine ct_of hG okX0_at (by decide +kernel) rfl (Nat.le_of_ble_eq_true rfl) ?_
  refine x_iload_n rfl rfl rfl ?_
  refine x_if_lt rfl rfl (fun hc1 => ?_) (fun hc1 => absurd hi hc1)
  refine x_ldc2 (v := -1) rfl rfl k_0_19 ?_
  exact x_retL rfl rfl rfl (by omega) rfl rfl
set_option maxHeartbeats 4000000 in
theorem l_LL_placeOf (h : LLk q q' N) (e : Int64) (hl : M.1 q 1 = nI len) (hle : len ≤ N) : ∀ n i : Nat, i + n = len → Fr G mX0_placeOf d 0 (Zm G (.inl (some (.int (ixv (fx (M.2 q') e i n))))) M 0) 0 2 [(0, .ref (ga G q)), (1, .long (e)), (3, .int (nI i))] [] M := by
  obtain ⟨h1, h2, h3, h4, h5, h6⟩ := h
  intro n
  induction n with
  | zero =>
    intro i hi
    refine x_iload_n rfl rfl rfl ?_
    refine x_aload_n rfl rfl rfl ?_
    refine x_getIv (v := nI len) hl rfl rfl f_0_15 h1 h2 rfl ?_
    refine x_icmpN_ge (by omega) (by omega) rfl rfl (fun hc1 => ?_) (fun hc1 => absurd hc1 (by omega))
    refine x_iconst (v := -1) rfl rfl (by decide +kernel) ?_
    exact x_retI rfl rfl rfl (by omega) rfl rfl
  | succ n ih =>
    intro i hi
    refine x_iload_n rfl rfl rfl ?_
    refine x_aload_n rfl rfl rfl ?_
    refine x_getIv (v := nI len) hl rfl rfl f_0_15 h1 h2 rfl ?_
    refine x_icmpN_ge (by omega) (by omega) rfl rfl (fun hc1 => absurd hc1 (by omega)) (fun hc1 => ?_)
    refine x_aload_n rfl rfl rfl ?_
    refine x_getR rfl rfl f_0_9 h1 h2 rfl h3 ?_
    refine x_iload_n rfl rfl rfl ?_
    refine x_lald (a := i) rfl rfl h4 h5 (by omega) (by omega) ?_
    refine x_lload_n rfl rfl rfl ?_
    refine x_lc_ne rfl rfl rfl rfl (fun hc2 => ?_) (fun hc2 => ?_)
    · refine x_iincN (a := i) (b := 1) rfl rfl rfl rfl rfl ?_
      refine x_goto rfl rfl ?_
      (have hz := ih (i + 1) (by omega); rw [show fx (M.2 q') e i (n + 1) = fx (M.2 q') e (i + 1) n from if_neg hc2]; exact hz)
    · refine x_iload_n rfl rfl rfl ?_
      exact x_retI rfl rfl rfl (by omega) (by rw [show fx (M.2 q') e i (n + 1) = some i from if_pos hc2]; rfl) rfl
set_option maxHeartbeats 4000000 in
theorem c_LL_placeOf (hG : Gok G) (h : LLk q q' N) (e : Int64) (hl : M.1 q 1 = nI len) (hle : len ≤ N) : Ct G mX0_placeOf d [.ref (ga G q), .long e] M (.inl (some (.int (ixv (fx (M.2 q') e 0 len))))) M 0 := by
  refine ct_of hG okX0_placeOf (by decide +kernel) rfl (Nat.le_of_ble_eq_true rfl) ?_
  refine x_iconstN (b := 0) rfl rfl ?_
  refine x_istore_n rfl rfl rfl rfl ?_
  exact l_LL_placeOf h e hl hle len 0 (by omega)
end LL
