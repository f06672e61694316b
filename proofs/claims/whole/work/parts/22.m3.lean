/-- the last place, of k .. k + n, where f is e, or what was found before -/
def lxf (f : Nat → Int64) (e : Int64) : Option Nat → Nat → Nat → Option Nat
  | r, _, 0 => r
  | r, k, n + 1 => lxf f e (if f k = e then some k else r) (k + 1) n
theorem lxf_s (f : Nat → Int64) (e : Int64) (r : Option Nat) (k n : Nat) : lxf f e r k (n + 1) = lxf f e (if f k = e then some k else r) (k + 1) n := rfl
theorem or_step {Q : Prop} {P : Nat → Prop} {k m : Nat} (h : k < m) : (Q ∨ ∃ j, k ≤ j ∧ j < m ∧ P j) ↔ ((Q ∨ P k) ∨ ∃ j, k + 1 ≤ j ∧ j < m ∧ P j) := by
  constructor
  · rintro (z | ⟨j, h1, h2, h3⟩)
    · exact Or.inl (Or.inl z)
    · rcases Nat.lt_or_ge k j with q | q
      · exact Or.inr ⟨j, by omega, h2, h3⟩
      · rw [show j = k by omega] at h3; exact Or.inl (Or.inr h3)
  · rintro ((z | z) | ⟨j, h1, h2, h3⟩)
    · exact Or.inl z
    · exact Or.inr ⟨k, Nat.le_refl _, h, z⟩
    · exact Or.inr ⟨j, by omega, h2, h3⟩
theorem or_end {Q : Prop} {P : Nat → Prop} {k m : Nat} (h : m ≤ k) : (Q ∨ ∃ j, k ≤ j ∧ j < m ∧ P j) ↔ Q :=
  ⟨fun z => z.elim id (fun ⟨j, h1, h2, _⟩ => by omega), Or.inl⟩
section D3
variable {G : Gd} {d : Nat} {M : Mm}
set_option maxHeartbeats 4000000 in
theorem l_misMember (e : Int64) {i t m : Nat} (hi : i < 40) (ht : t < 12) (hm2 : m ≤ 3) (hkd : M.1 (46, 0) i = nI 10) (htr : M.1 (49, 0) i = nI t) (hm : M.1 (44, 0) t = nI m) : ∀ (n k : Nat) (Q : Prop), k + n = m → Fr G mX9_isMember d 0 (Zm G (.inl (some (.int (bI (Q ∨ ∃ j, k ≤ j ∧ j < m ∧ M.2 (45, 0) ((3 * t) + j) = e))))) M 0) 0 6 [(0, .ref (ga G (40, 0))), (1, .int (nI i)), (2, .long (e)), (4, .int (bI (Q))), (5, .int (nI k))] [] M := by
  intro n
  induction n with
  | zero =>
    intro k Q hk
    refine x_aload_n rfl rfl rfl ?_
    refine x_getR0 rfl rfl f_9_27 rfl (by decide) rfl rfl ?_
    refine x_iload_n rfl rfl rfl ?_
    refine x_ialdv (a := i) (v := nI 10) hkd rfl rfl rfl (by decide) (by omega) (by decide) ?_
    refine x_bipush (v := nI 10) rfl rfl (by decide +kernel) ?_
    refine x_icmpN_ne (by omega) (by omega) rfl rfl (fun hc1 => absurd hc1 (by omega)) (fun hc1 => ?_)
    refine x_iload rfl rfl rfl ?_
    refine x_aload_n rfl rfl rfl ?_
    refine x_getR0 rfl rfl f_9_20 rfl (by decide) rfl rfl ?_
    refine x_aload_n rfl rfl rfl ?_
    refine x_getR0 rfl rfl f_9_36 rfl (by decide) rfl rfl ?_
    refine x_iload_n rfl rfl rfl ?_
    refine x_ialdv (a := i) (v := nI t) htr rfl rfl rfl (by decide) (by omega) (by decide) ?_
    refine x_ialdv (a := t) (v := nI m) hm rfl rfl rfl (by decide) (by omega) (by decide) ?_
    refine x_icmpN_ge (by omega) (by omega) rfl rfl (fun hc2 => ?_) (fun hc2 => absurd hc2 (by omega))
    refine x_iload rfl rfl rfl ?_
    (rw [bI_iff (or_end (by omega))]; exact x_retZ rfl rfl rfl (bI_01 _) (by omega) rfl rfl)
  | succ n ih =>
    intro k Q hk
    refine x_aload_n rfl rfl rfl ?_
    refine x_getR0 rfl rfl f_9_27 rfl (by decide) rfl rfl ?_
    refine x_iload_n rfl rfl rfl ?_
    refine x_ialdv (a := i) (v := nI 10) hkd rfl rfl rfl (by decide) (by omega) (by decide) ?_
    refine x_bipush (v := nI 10) rfl rfl (by decide +kernel) ?_
    refine x_icmpN_ne (by omega) (by omega) rfl rfl (fun hc1 => absurd hc1 (by omega)) (fun hc1 => ?_)
    refine x_iload rfl rfl rfl ?_
    refine x_aload_n rfl rfl rfl ?_
    refine x_getR0 rfl rfl f_9_20 rfl (by decide) rfl rfl ?_
    refine x_aload_n rfl rfl rfl ?_
    refine x_getR0 rfl rfl f_9_36 rfl (by decide) rfl rfl ?_
    refine x_iload_n rfl rfl rfl ?_
    refine x_ialdv (a := i) (v := nI t) htr rfl rfl rfl (by decide) (by omega) (by decide) ?_
    refine x_ialdv (a := t) (v := nI m) hm rfl rfl rfl (by decide) (by omega) (by decide) ?_
    refine x_icmpN_ge (by omega) (by omega) rfl rfl (fun hc2 => absurd hc2 (by omega)) (fun hc2 => ?_)
    refine x_iload rfl rfl rfl ?_
    refine x_ifB_ne rfl rfl (fun hc3 => ?_) (fun hc3 => ?_)
    · refine x_iconstN (b := 1) rfl rfl ?_
      refine x_goto rfl rfl ?_
      refine x_istore rfl rfl rfl rfl ?_
      refine x_iincN (a := k) (b := 1) rfl rfl rfl rfl rfl ?_
      refine x_goto rfl rfl ?_
      (rw [bI_iff (or_step (P := fun j => M.2 (45, 0) ((3 * t) + j) = e) (by omega))]; exact x_eq (ih (k + 1) (Q ∨ M.2 (45, 0) ((3 * t) + k) = e) (by omega)) (by rw [bI_t (Or.inl hc3)] <;> rfl) rfl rfl)
    · refine x_aload_n rfl rfl rfl ?_
      refine x_getR0 rfl rfl f_9_24 rfl (by decide) rfl rfl ?_
      refine x_iconstN (b := 3) rfl rfl ?_
      refine x_aload_n rfl rfl rfl ?_
      refine x_getR0 rfl rfl f_9_36 rfl (by decide) rfl rfl ?_
      refine x_iload_n rfl rfl rfl ?_
      refine x_ialdv (a := i) (v := nI t) htr rfl rfl rfl (by decide) (by omega) (by decide) ?_
      refine x_imulN (a := 3) (b := t) rfl rfl ?_
      refine x_iload rfl rfl rfl ?_
      refine x_iaddN (a := 3 * t) (b := k) rfl rfl ?_
      refine x_lald (a := (3 * t) + k) rfl rfl rfl (by decide) (by omega) (by decide) ?_
      refine x_lload_n rfl rfl rfl ?_
      refine x_lc_ne rfl rfl rfl rfl (fun hc4 => ?_) (fun hc4 => ?_)
      · refine x_iconstN (b := 0) rfl rfl ?_
        refine x_istore rfl rfl rfl rfl ?_
        refine x_iincN (a := k) (b := 1) rfl rfl rfl rfl rfl ?_
        refine x_goto rfl rfl ?_
        (rw [bI_iff (or_step (P := fun j => M.2 (45, 0) ((3 * t) + j) = e) (by omega))]; exact x_eq (ih (k + 1) (Q ∨ M.2 (45, 0) ((3 * t) + k) = e) (by omega)) (by rw [bI_f (fun z => z.elim hc3 hc4)] <;> rfl) rfl rfl)
      · refine x_iconstN (b := 1) rfl rfl ?_
        refine x_goto rfl rfl ?_
        refine x_istore rfl rfl rfl rfl ?_
        refine x_iincN (a := k) (b := 1) rfl rfl rfl rfl rfl ?_
        refine x_goto rfl rfl ?_
        (rw [bI_iff (or_step (P := fun j => M.2 (45, 0) ((3 * t) + j) = e) (by omega))]; exact x_eq (ih (k + 1) (Q ∨ M.2 (45, 0) ((3 * t) + k) = e) (by omega)) (by rw [bI_t (Or.inr hc4)] <;> rfl) rfl rfl)
set_option maxHeartbeats 4000000 in
set_option maxRecDepth 20000 in
theorem c_misMember (hG : Gok G) (e : Int64) {i t m : Nat} (hi : i < 40) (ht : t < 12) (hm2 : m ≤ 3) (hkd : M.1 (46, 0) i = nI 10) (htr : M.1 (49, 0) i = nI t) (hm : M.1 (44, 0) t = nI m) : Ct G mX9_isMember d [.ref (ga G (40, 0)), .int (nI i), .long (e)] M (.inl (some (.int (bI (∃ j, j < m ∧ M.2 (45, 0) ((3 * t) + j) = e))))) M 0 := by
  refine ct_of hG okX9_isMember (by decide +kernel) rfl (Nat.le_of_ble_eq_true rfl) ?_
  refine x_iconstN (b := 0) rfl rfl ?_
  refine x_istore rfl rfl rfl rfl ?_
  refine x_iconstN (b := 0) rfl rfl ?_
  refine x_istore rfl rfl rfl rfl ?_
  (have hz := l_misMember (G := G) (d := d) (M := M) e hi ht hm2 hkd htr hm m 0 False (by omega); exact x_eq (by rw [bI_iff (show (∃ j, j < m ∧ M.2 (45, 0) ((3 * t) + j) = e) ↔ (False ∨ ∃ j, 0 ≤ j ∧ j < m ∧ M.2 (45, 0) ((3 * t) + j) = e) from by simp)]; exact hz) (by rw [bI_f (fun z => z)] <;> rfl) rfl rfl)
set_option maxHeartbeats 4000000 in
set_option maxRecDepth 20000 in
theorem c_misMemberK (hG : Gok G) (e : Int64) {i kd : Nat} (hi : i < 40) (hkd : M.1 (46, 0) i = nI kd) (hkd2 : kd < 16) (hne : kd ≠ 10) : Ct G mX9_isMember d [.ref (ga G (40, 0)), .int (nI i), .long (e)] M (.inl (some (.int (nI 0)))) M 0 := by
  refine ct_of hG okX9_isMember (by decide +kernel) rfl (Nat.le_of_ble_eq_true rfl) ?_
  refine x_iconstN (b := 0) rfl rfl ?_
  refine x_istore rfl rfl rfl rfl ?_
  refine x_iconstN (b := 0) rfl rfl ?_
  refine x_istore rfl rfl rfl rfl ?_
  refine x_aload_n rfl rfl rfl ?_
  refine x_getR0 rfl rfl f_9_27 rfl (by decide) rfl rfl ?_
  refine x_iload_n rfl rfl rfl ?_
  refine x_ialdv (a := i) (v := nI kd) hkd rfl rfl rfl (by decide) (by omega) (by decide) ?_
  refine x_bipush (v := nI 10) rfl rfl (by decide +kernel) ?_
  refine x_icmpN_ne (by omega) (by omega) rfl rfl (fun hc1 => ?_) (fun hc1 => absurd hc1 hne)
  refine x_iload rfl rfl rfl ?_
  exact x_retZ rfl rfl rfl (by first | exact Or.inl rfl | exact Or.inr rfl) (by omega) rfl rfl
set_option maxHeartbeats 4000000 in
theorem l_mpairAt (e : Int64) {i kl : Nat} (hi : i < 40) (hkl2 : kl ≤ 6) (hkl : M.1 (51, 0) i = nI kl) : ∀ (n k : Nat) (r : Option Nat), k + n = kl → Fr G mX9_pairAt d 0 (Zm G (.inl (some (.int (ixv (lxf (fun j => M.2 (52, 0) ((6 * i) + j)) e r k n))))) M 0) 0 6 [(0, .ref (ga G (40, 0))), (1, .int (nI i)), (2, .long (e)), (4, .int (ixv r)), (5, .int (nI k))] [] M := by
  intro n
  induction n with
  | zero =>
    intro k r hk
    refine x_iload rfl rfl rfl ?_
    refine x_aload_n rfl rfl rfl ?_
    refine x_getR0 rfl rfl f_9_42 rfl (by decide) rfl rfl ?_
    refine x_iload_n rfl rfl rfl ?_
    refine x_ialdv (a := i) (v := nI kl) hkl rfl rfl rfl (by decide) (by omega) (by decide) ?_
    refine x_icmpN_ge (by omega) (by omega) rfl rfl (fun hc1 => ?_) (fun hc1 => absurd hc1 (by omega))
    refine x_iload rfl rfl rfl ?_
    exact x_retI rfl rfl rfl (by omega) rfl rfl
  | succ n ih =>
    intro k r hk
    refine x_iload rfl rfl rfl ?_
    refine x_aload_n rfl rfl rfl ?_
    refine x_getR0 rfl rfl f_9_42 rfl (by decide) rfl rfl ?_
    refine x_iload_n rfl rfl rfl ?_
    refine x_ialdv (a := i) (v := nI kl) hkl rfl rfl rfl (by decide) (by omega) (by decide) ?_
    refine x_icmpN_ge (by omega) (by omega) rfl rfl (fun hc1 => absurd hc1 (by omega)) (fun hc1 => ?_)
    refine x_aload_n rfl rfl rfl ?_
    refine x_getR0 rfl rfl f_9_45 rfl (by decide) rfl rfl ?_
    refine x_bipush (v := nI 6) rfl rfl (by decide +kernel) ?_
    refine x_iload_n rfl rfl rfl ?_
    refine x_imulN (a := 6) (b := i) rfl rfl ?_
    refine x_iload rfl rfl rfl ?_
    refine x_iaddN (a := 6 * i) (b := k) rfl rfl ?_
    refine x_lald (a := (6 * i) + k) rfl rfl rfl (by decide) (by omega) (by decide) ?_
    refine x_lload_n rfl rfl rfl ?_
    refine x_lc_ne rfl rfl rfl rfl (fun hc2 => ?_) (fun hc2 => ?_)
    · refine x_iload rfl rfl rfl ?_
      refine x_istore rfl rfl rfl rfl ?_
      refine x_iincN (a := k) (b := 1) rfl rfl rfl rfl rfl ?_
      refine x_goto rfl rfl ?_
      (have hz := ih (k + 1) (r) (by omega); rw [lxf_s, if_neg hc2]; exact hz)
    · refine x_iload rfl rfl rfl ?_
      refine x_goto rfl rfl ?_
      refine x_istore rfl rfl rfl rfl ?_
      refine x_iincN (a := k) (b := 1) rfl rfl rfl rfl rfl ?_
      refine x_goto rfl rfl ?_
      (have hz := ih (k + 1) (some k) (by omega); rw [lxf_s, if_pos hc2]; exact hz)
set_option maxHeartbeats 4000000 in
set_option maxRecDepth 20000 in
theorem c_mpairAt (hG : Gok G) (e : Int64) {i kl : Nat} (hi : i < 40) (hkl2 : kl ≤ 6) (hkl : M.1 (51, 0) i = nI kl) : Ct G mX9_pairAt d [.ref (ga G (40, 0)), .int (nI i), .long (e)] M (.inl (some (.int (ixv (lxf (fun j => M.2 (52, 0) ((6 * i) + j)) e none 0 kl))))) M 0 := by
  refine ct_of hG okX9_pairAt (by decide +kernel) rfl (Nat.le_of_ble_eq_true rfl) ?_
  refine x_iconst (v := -1) rfl rfl (by decide +kernel) ?_
  refine x_istore rfl rfl rfl rfl ?_
  refine x_iconstN (b := 0) rfl rfl ?_
  refine x_istore rfl rfl rfl rfl ?_
  exact l_mpairAt e hi hkl2 hkl kl 0 none (by omega)
set_option maxHeartbeats 4000000 in
theorem l_misAllowed (e : Int64) {an : Nat} (han2 : an ≤ 7) (han : M.1 (40, 0) 17 = nI an) : ∀ (n k : Nat) (Q : Prop), k + n = an → Fr G mX9_isAllowed d 0 (Zm G (.inl (some (.int (bI (Q ∨ ∃ j, k ≤ j ∧ j < an ∧ M.2 (54, 0) j = e))))) M 0) 0 5 [(0, .ref (ga G (40, 0))), (1, .long (e)), (3, .int (bI (Q))), (4, .int (nI k))] [] M := by
  intro n
  induction n with
  | zero =>
    intro k Q hk
    refine x_iload rfl rfl rfl ?_
    refine x_aload_n rfl rfl rfl ?_
    refine x_getIv (v := nI an) han rfl rfl f_9_94 rfl (by decide) rfl ?_
    refine x_icmpN_ge (by omega) (by omega) rfl rfl (fun hc1 => ?_) (fun hc1 => absurd hc1 (by omega))
    refine x_iload_n rfl rfl rfl ?_
    (rw [bI_iff (or_end (by omega))]; exact x_retZ rfl rfl rfl (bI_01 _) (by omega) rfl rfl)
  | succ n ih =>
    intro k Q hk
    refine x_iload rfl rfl rfl ?_
    refine x_aload_n rfl rfl rfl ?_
    refine x_getIv (v := nI an) han rfl rfl f_9_94 rfl (by decide) rfl ?_
    refine x_icmpN_ge (by omega) (by omega) rfl rfl (fun hc1 => absurd hc1 (by omega)) (fun hc1 => ?_)
    refine x_iload_n rfl rfl rfl ?_
    refine x_ifB_ne rfl rfl (fun hc2 => ?_) (fun hc2 => ?_)
    · refine x_iconstN (b := 1) rfl rfl ?_
      refine x_goto rfl rfl ?_
      refine x_istore_n rfl rfl rfl rfl ?_
      refine x_iincN (a := k) (b := 1) rfl rfl rfl rfl rfl ?_
      refine x_goto rfl rfl ?_
      (rw [bI_iff (or_step (P := fun j => M.2 (54, 0) j = e) (by omega))]; exact x_eq (ih (k + 1) (Q ∨ M.2 (54, 0) k = e) (by omega)) (by rw [bI_t (Or.inl hc2)] <;> rfl) rfl rfl)
    · refine x_aload_n rfl rfl rfl ?_
      refine x_getR0 rfl rfl f_9_51 rfl (by decide) rfl rfl ?_
      refine x_iload rfl rfl rfl ?_
      refine x_lald (a := k) rfl rfl rfl (by decide) (by omega) (by decide) ?_
      refine x_lload_n rfl rfl rfl ?_
      refine x_lc_ne rfl rfl rfl rfl (fun hc3 => ?_) (fun hc3 => ?_)
      · refine x_iconstN (b := 0) rfl rfl ?_
        refine x_istore_n rfl rfl rfl rfl ?_
        refine x_iincN (a := k) (b := 1) rfl rfl rfl rfl rfl ?_
        refine x_goto rfl rfl ?_
        (rw [bI_iff (or_step (P := fun j => M.2 (54, 0) j = e) (by omega))]; exact x_eq (ih (k + 1) (Q ∨ M.2 (54, 0) k = e) (by omega)) (by rw [bI_f (fun z => z.elim hc2 hc3)] <;> rfl) rfl rfl)
      · refine x_iconstN (b := 1) rfl rfl ?_
        refine x_goto rfl rfl ?_
        refine x_istore_n rfl rfl rfl rfl ?_
        refine x_iincN (a := k) (b := 1) rfl rfl rfl rfl rfl ?_
        refine x_goto rfl rfl ?_
        (rw [bI_iff (or_step (P := fun j => M.2 (54, 0) j = e) (by omega))]; exact x_eq (ih (k + 1) (Q ∨ M.2 (54, 0) k = e) (by omega)) (by rw [bI_t (Or.inr hc3)] <;> rfl) rfl rfl)
set_option maxHeartbeats 4000000 in
set_option maxRecDepth 20000 in
theorem c_misAllowed (hG : Gok G) (e : Int64) {an : Nat} (han2 : an ≤ 7) (han : M.1 (40, 0) 17 = nI an) : Ct G mX9_isAllowed d [.ref (ga G (40, 0)), .long (e)] M (.inl (some (.int (bI (∃ j, j < an ∧ M.2 (54, 0) j = e))))) M 0 := by
  refine ct_of hG okX9_isAllowed (by decide +kernel) rfl (Nat.le_of_ble_eq_true rfl) ?_
  refine x_iconstN (b := 0) rfl rfl ?_
  refine x_istore_n rfl rfl rfl rfl ?_
  refine x_iconstN (b := 0) rfl rfl ?_
  refine x_istore rfl rfl rfl rfl ?_
  (have hz := l_misAllowed (G := G) (d := d) (M := M) e han2 han an 0 False (by omega); exact x_eq (by rw [bI_iff (show (∃ j, j < an ∧ M.2 (54, 0) j = e) ↔ (False ∨ ∃ j, 0 ≤ j ∧ j < an ∧ M.2 (54, 0) j = e) from by simp)]; exact hz) (by rw [bI_f (fun z => z)] <;> rfl) rfl rfl)
set_option maxHeartbeats 4000000 in
set_option maxRecDepth 20000 in
theorem c_mallow (hG : Gok G) (hd : 2 ≤ d) (nm : Int64) {an : Nat} (han : M.1 (40, 0) 17 = nI an) (han2 : an ≤ 7) (h1 : isTx nm) (h3 : ¬ ∃ j, j < an ∧ M.2 (54, 0) j = nm) (h4 : an < 7) : Ct G mX9_allow d [.ref (ga G (40, 0)), .long (nm)] M (.inl (some (.int (nI 1)))) (ui (ul (ui M (40, 0) 0 (nI 0)) (54, 0) an nm) (40, 0) 17 (nI (an + 1))) 0 := by
  refine ct_of hG okX9_allow (by decide +kernel) rfl (Nat.le_of_ble_eq_true rfl) ?_
  refine x_aload_n rfl rfl rfl ?_
  refine x_iconstN (b := 0) rfl rfl ?_
  refine x_putI rfl rfl f_9_97 rfl rfl (by decide) rfl ?_
  refine x_lload_n rfl rfl rfl ?_
  refine x_callSi (d2 := 1) (c_misText hG (Nat.le_refl 1) (nm)) rfl rfl s_9_117 rfl rfl (Nat.le_of_ble_eq_true rfl) (by omega) (by omega) ?_
  refine x_ifB_eq rfl rfl (fun hc1 => absurd h1 hc1) (fun hc1 => ?_)
  refine x_aload_n rfl rfl rfl ?_
  refine x_lload_n rfl rfl rfl ?_
  refine x_callVi (d2 := 0) (c_misAllowed (an := an) hG (nm) (by omega) (by first | exact han | (rw [← han]; rfl) | simp [ui, ul, han])) rfl rfl v_9_173 rfl rfl (by decide) rfl rfl (Nat.le_of_ble_eq_true rfl) (by omega) (by omega) ?_
  refine x_ifB_ne rfl rfl (fun hc2 => absurd hc2 h3) (fun hc2 => ?_)
  refine x_aload_n rfl rfl rfl ?_
  refine x_getIv (v := nI an) (by first | exact han | (rw [← han]; rfl) | simp [ui, ul, han]) rfl rfl f_9_94 rfl (by decide) rfl ?_
  refine x_bipush (v := nI 7) rfl rfl (by decide +kernel) ?_
  refine x_icmpN_ne (by omega) (by omega) rfl rfl (fun hc3 => ?_) (fun hc3 => absurd hc3 (by omega))
  refine x_aload_n rfl rfl rfl ?_
  refine x_getR0 rfl rfl f_9_51 rfl (by decide) rfl rfl ?_
  refine x_aload_n rfl rfl rfl ?_
  refine x_getIv (v := nI an) (by first | exact han | (rw [← han]; rfl) | simp [ui, ul, han]) rfl rfl f_9_94 rfl (by decide) rfl ?_
  refine x_lload_n rfl rfl rfl ?_
  refine x_last (a := an) rfl rfl rfl (by decide) (by omega) (by decide) ?_
  refine x_aload_n rfl rfl rfl ?_
  refine x_dup rfl rfl rfl ?_
  refine x_getIv (v := nI an) (by first | exact han | (rw [← han]; rfl) | simp [ui, ul, han]) rfl rfl f_9_94 rfl (by decide) rfl ?_
  refine x_iconstN (b := 1) rfl rfl ?_
  refine x_iaddN (a := an) (b := 1) rfl rfl ?_
  refine x_putI rfl rfl f_9_94 rfl rfl (by decide) rfl ?_
  refine x_iconstN (b := 1) rfl rfl ?_
  exact x_retZ rfl rfl rfl (by first | exact Or.inl rfl | exact Or.inr rfl) (by omega) rfl rfl
set_option maxHeartbeats 4000000 in
set_option maxRecDepth 20000 in
theorem c_mallowX (hG : Gok G) (hd : 2 ≤ d) (nm : Int64) {an : Nat} (han : M.1 (40, 0) 17 = nI an) (han2 : an ≤ 7) (h : ¬ (isTx nm ∧ (¬ ∃ j, j < an ∧ M.2 (54, 0) j = nm) ∧ an < 7)) : Ct G mX9_allow d [.ref (ga G (40, 0)), .long (nm)] M (.inl (some (.int (nI 0)))) (ui M (40, 0) 0 (nI 0)) 0 := by
  refine ct_of hG okX9_allow (by decide +kernel) rfl (Nat.le_of_ble_eq_true rfl) ?_
  refine x_aload_n rfl rfl rfl ?_
  refine x_iconstN (b := 0) rfl rfl ?_
  refine x_putI rfl rfl f_9_97 rfl rfl (by decide) rfl ?_
  refine x_lload_n rfl rfl rfl ?_
  refine x_callSi (d2 := 1) (c_misText hG (Nat.le_refl 1) (nm)) rfl rfl s_9_117 rfl rfl (Nat.le_of_ble_eq_true rfl) (by omega) (by omega) ?_
  refine x_ifB_eq rfl rfl (fun hc1 => ?_) (fun hc1 => ?_)
  · refine x_iconstN (b := 0) rfl rfl ?_
    exact x_retZ rfl rfl rfl (Or.inl rfl) (by omega) rfl rfl
  · refine x_aload_n rfl rfl rfl ?_
    refine x_lload_n rfl rfl rfl ?_
    refine x_callVi (d2 := 0) (c_misAllowed (an := an) hG (nm) (by omega) (by first | exact han | (rw [← han]; rfl) | simp [ui, ul, han])) rfl rfl v_9_173 rfl rfl (by decide) rfl rfl (Nat.le_of_ble_eq_true rfl) (by omega) (by omega) ?_
    refine x_ifB_ne rfl rfl (fun hc2 => ?_) (fun hc2 => ?_)
    · refine x_iconstN (b := 0) rfl rfl ?_
      exact x_retZ rfl rfl rfl (Or.inl rfl) (by omega) rfl rfl
    · refine x_aload_n rfl rfl rfl ?_
      refine x_getIv (v := nI an) (by first | exact han | (rw [← han]; rfl) | simp [ui, ul, han]) rfl rfl f_9_94 rfl (by decide) rfl ?_
      refine x_bipush (v := nI 7) rfl rfl (by decide +kernel) ?_
      refine x_icmpN_ne (by omega) (by omega) rfl rfl (fun hc3 => ?_) (fun hc3 => ?_)
      · refine x_aload_n rfl rfl rfl ?_
        refine x_getR0 rfl rfl f_9_51 rfl (by decide) rfl rfl ?_
        refine x_aload_n rfl rfl rfl ?_
        refine x_getIv (v := nI an) (by first | exact han | (rw [← han]; rfl) | simp [ui, ul, han]) rfl rfl f_9_94 rfl (by decide) rfl ?_
        refine x_lload_n rfl rfl rfl ?_
        refine x_last (a := an) rfl rfl rfl (by decide) (by omega) (by decide) ?_
        refine x_aload_n rfl rfl rfl ?_
        refine x_dup rfl rfl rfl ?_
        refine x_getIv (v := nI an) (by first | exact han | (rw [← han]; rfl) | simp [ui, ul, han]) rfl rfl f_9_94 rfl (by decide) rfl ?_
        refine x_iconstN (b := 1) rfl rfl ?_
        refine x_iaddN (a := an) (b := 1) rfl rfl ?_
        refine x_putI rfl rfl f_9_94 rfl rfl (by decide) rfl ?_
        refine x_iconstN (b := 1) rfl rfl ?_
        exact absurd ⟨hc1, hc2, by omega⟩ h
      · refine x_iconstN (b := 0) rfl rfl ?_
        exact x_retZ rfl rfl rfl (Or.inl rfl) (by omega) rfl rfl
set_option maxHeartbeats 4000000 in
set_option maxRecDepth 20000 in
theorem c_mhasItems9 (hG : Gok G) (hd : 1 ≤ d) {n : Nat} (hn : M.1 (40, 0) 8 = nI n) (hn2 : n ≤ 40) {i : Nat} (hi : i < n) (hkd : M.1 (46, 0) i = nI 9) : Ct G mX9_hasItems d [.ref (ga G (40, 0)), .int (nI i)] M (.inl (some (.int (nI 1)))) M 0 := by
  refine ct_of hG okX9_hasItems (by decide +kernel) rfl (Nat.le_of_ble_eq_true rfl) ?_
  refine x_aload_n rfl rfl rfl ?_
  refine x_iload_n rfl rfl rfl ?_
  refine x_callVi (d2 := 0) (c_misThing (n := n) hG hn (by omega) (by omega)) rfl rfl v_9_152 rfl rfl (by decide) rfl rfl (Nat.le_of_ble_eq_true rfl) (by omega) (by omega) ?_
  refine x_if_eq rfl rfl (fun hc1 => absurd hc1 (by decide +kernel)) (fun _ => ?_)
  refine x_aload_n rfl rfl rfl ?_
  refine x_getR0 rfl rfl f_9_27 rfl (by decide) rfl rfl ?_
  refine x_iload_n rfl rfl rfl ?_
  refine x_ialdv (a := i) (v := nI 9) hkd rfl rfl rfl (by decide) (by omega) (by decide) ?_
  refine x_bipush (v := nI 9) rfl rfl (by decide +kernel) ?_
  refine x_icmpN_eq (by omega) (by omega) rfl rfl (fun hc2 => ?_) (fun hc2 => absurd hc2 (by omega))
  refine x_iconstN (b := 1) rfl rfl ?_
  refine x_goto rfl rfl ?_
  exact x_retZ rfl rfl rfl (by first | exact Or.inl rfl | exact Or.inr rfl) (by omega) rfl rfl
set_option maxHeartbeats 4000000 in
set_option maxRecDepth 20000 in
theorem c_mhasItems10 (hG : Gok G) (hd : 1 ≤ d) {n : Nat} (hn : M.1 (40, 0) 8 = nI n) (hn2 : n ≤ 40) {i : Nat} (hi : i < n) (hkd : M.1 (46, 0) i = nI 10) : Ct G mX9_hasItems d [.ref (ga G (40, 0)), .int (nI i)] M (.inl (some (.int (nI 1)))) M 0 := by
  refine ct_of hG okX9_hasItems (by decide +kernel) rfl (Nat.le_of_ble_eq_true rfl) ?_
  refine x_aload_n rfl rfl rfl ?_
  refine x_iload_n rfl rfl rfl ?_
  refine x_callVi (d2 := 0) (c_misThing (n := n) hG hn (by omega) (by omega)) rfl rfl v_9_152 rfl rfl (by decide) rfl rfl (Nat.le_of_ble_eq_true rfl) (by omega) (by omega) ?_
  refine x_if_eq rfl rfl (fun hc1 => absurd hc1 (by decide +kernel)) (fun _ => ?_)
  refine x_aload_n rfl rfl rfl ?_
  refine x_getR0 rfl rfl f_9_27 rfl (by decide) rfl rfl ?_
  refine x_iload_n rfl rfl rfl ?_
  refine x_ialdv (a := i) (v := nI 10) hkd rfl rfl rfl (by decide) (by omega) (by decide) ?_
  refine x_bipush (v := nI 9) rfl rfl (by decide +kernel) ?_
  refine x_icmpN_eq (by omega) (by omega) rfl rfl (fun hc2 => absurd hc2 (by omega)) (fun hc2 => ?_)
  refine x_aload_n rfl rfl rfl ?_
  refine x_getR0 rfl rfl f_9_27 rfl (by decide) rfl rfl ?_
  refine x_iload_n rfl rfl rfl ?_
  refine x_ialdv (a := i) (v := nI 10) hkd rfl rfl rfl (by decide) (by omega) (by decide) ?_
  refine x_bipush (v := nI 10) rfl rfl (by decide +kernel) ?_
  refine x_icmpN_ne (by omega) (by omega) rfl rfl (fun hc3 => absurd hc3 (by omega)) (fun hc3 => ?_)
  refine x_iconstN (b := 1) rfl rfl ?_
  refine x_goto rfl rfl ?_
  exact x_retZ rfl rfl rfl (by first | exact Or.inl rfl | exact Or.inr rfl) (by omega) rfl rfl
set_option maxHeartbeats 4000000 in
set_option maxRecDepth 20000 in
theorem c_mhasItemsK (hG : Gok G) (hd : 1 ≤ d) {n : Nat} (hn : M.1 (40, 0) 8 = nI n) (hn2 : n ≤ 40) {i : Nat} (hi : i < n) {kd : Nat} (hkd : M.1 (46, 0) i = nI kd) (hkd2 : kd < 16) (h9 : kd ≠ 9) (h10 : kd ≠ 10) : Ct G mX9_hasItems d [.ref (ga G (40, 0)), .int (nI i)] M (.inl (some (.int (nI 0)))) M 0 := by
  refine ct_of hG okX9_hasItems (by decide +kernel) rfl (Nat.le_of_ble_eq_true rfl) ?_
  refine x_aload_n rfl rfl rfl ?_
  refine x_iload_n rfl rfl rfl ?_
  refine x_callVi (d2 := 0) (c_misThing (n := n) hG hn (by omega) (by omega)) rfl rfl v_9_152 rfl rfl (by decide) rfl rfl (Nat.le_of_ble_eq_true rfl) (by omega) (by omega) ?_
  refine x_if_eq rfl rfl (fun hc1 => absurd hc1 (by decide +kernel)) (fun _ => ?_)
  refine x_aload_n rfl rfl rfl ?_
  refine x_getR0 rfl rfl f_9_27 rfl (by decide) rfl rfl ?_
  refine x_iload_n rfl rfl rfl ?_
  refine x_ialdv (a := i) (v := nI kd) hkd rfl rfl rfl (by decide) (by omega) (by decide) ?_
  refine x_bipush (v := nI 9) rfl rfl (by decide +kernel) ?_
  refine x_icmpN_eq (by omega) (by omega) rfl rfl (fun hc2 => absurd hc2 h9) (fun hc2 => ?_)
  refine x_aload_n rfl rfl rfl ?_
  refine x_getR0 rfl rfl f_9_27 rfl (by decide) rfl rfl ?_
  refine x_iload_n rfl rfl rfl ?_
  refine x_ialdv (a := i) (v := nI kd) hkd rfl rfl rfl (by decide) (by omega) (by decide) ?_
  refine x_bipush (v := nI 10) rfl rfl (by decide +kernel) ?_
  refine x_icmpN_ne (by omega) (by omega) rfl rfl (fun hc3 => ?_) (fun hc3 => absurd hc3 h10)
  refine x_iconstN (b := 0) rfl rfl ?_
  exact x_retZ rfl rfl rfl (by first | exact Or.inl rfl | exact Or.inr rfl) (by omega) rfl rfl
set_option maxHeartbeats 4000000 in
set_option maxRecDepth 20000 in
theorem c_mhasItemsO (hG : Gok G) (hd : 1 ≤ d) {n : Nat} (hn : M.1 (40, 0) 8 = nI n) (hn2 : n ≤ 40) {th : Int32} (ho : ∀ i, i < n → th ≠ nI i) : Ct G mX9_hasItems d [.ref (ga G (40, 0)), .int (th)] M (.inl (some (.int (nI 0)))) M 0 := by
  refine ct_of hG okX9_hasItems (by decide +kernel) rfl (Nat.le_of_ble_eq_true rfl) ?_
  refine x_aload_n rfl rfl rfl ?_
  refine x_iload_n rfl rfl rfl ?_
  refine x_callVi (d2 := 0) (c_misThingO (n := n) hG hn hn2 ho) rfl rfl v_9_152 rfl rfl (by decide) rfl rfl (Nat.le_of_ble_eq_true rfl) (by omega) (by omega) ?_
  refine x_if_eq rfl rfl (fun _ => ?_) (fun hc1 => absurd hc1 (by decide +kernel))
  refine x_iconstN (b := 0) rfl rfl ?_
  exact x_retZ rfl rfl rfl (by first | exact Or.inl rfl | exact Or.inr rfl) (by omega) rfl rfl
set_option maxHeartbeats 4000000 in
set_option maxRecDepth 20000 in
theorem c_mhasPairs9 (hG : Gok G) (hd : 1 ≤ d) {n : Nat} (hn : M.1 (40, 0) 8 = nI n) (hn2 : n ≤ 40) {i : Nat} (hi : i < n) (hkd : M.1 (46, 0) i = nI 9) : Ct G mX9_hasPairs d [.ref (ga G (40, 0)), .int (nI i)] M (.inl (some (.int (nI 1)))) M 0 := by
  refine ct_of hG okX9_hasPairs (by decide +kernel) rfl (Nat.le_of_ble_eq_true rfl) ?_
  refine x_aload_n rfl rfl rfl ?_
  refine x_iload_n rfl rfl rfl ?_
  refine x_callVi (d2 := 0) (c_misThing (n := n) hG hn (by omega) (by omega)) rfl rfl v_9_152 rfl rfl (by decide) rfl rfl (Nat.le_of_ble_eq_true rfl) (by omega) (by omega) ?_
  refine x_if_eq rfl rfl (fun hc1 => absurd hc1 (by decide +kernel)) (fun _ => ?_)
  refine x_aload_n rfl rfl rfl ?_
  refine x_getR0 rfl rfl f_9_27 rfl (by decide) rfl rfl ?_
  refine x_iload_n rfl rfl rfl ?_
  refine x_ialdv (a := i) (v := nI 9) hkd rfl rfl rfl (by decide) (by omega) (by decide) ?_
  refine x_bipush (v := nI 9) rfl rfl (by decide +kernel) ?_
  refine x_icmpN_eq (by omega) (by omega) rfl rfl (fun hc2 => ?_) (fun hc2 => absurd hc2 (by omega))
  refine x_iconstN (b := 1) rfl rfl ?_
  refine x_goto rfl rfl ?_
  exact x_retZ rfl rfl rfl (by first | exact Or.inl rfl | exact Or.inr rfl) (by omega) rfl rfl
set_option maxHeartbeats 4000000 in
set_option maxRecDepth 20000 in
theorem c_mhasPairs10 (hG : Gok G) (hd : 1 ≤ d) {n : Nat} (hn : M.1 (40, 0) 8 = nI n) (hn2 : n ≤ 40) {i : Nat} (hi : i < n) (hkd : M.1 (46, 0) i = nI 10) {t : Nat} (ht : t < 12) (dy : Prop) (htr : M.1 (49, 0) i = nI t) (hdy : M.1 (43, 0) t = bI dy) : Ct G mX9_hasPairs d [.ref (ga G (40, 0)), .int (nI i)] M (.inl (some (.int (bI dy)))) M 0 := by
  refine ct_of hG okX9_hasPairs (by decide +kernel) rfl (Nat.le_of_ble_eq_true rfl) ?_
  refine x_aload_n rfl rfl rfl ?_
  refine x_iload_n rfl rfl rfl ?_
  refine x_callVi (d2 := 0) (c_misThing (n := n) hG hn (by omega) (by omega)) rfl rfl v_9_152 rfl rfl (by decide) rfl rfl (Nat.le_of_ble_eq_true rfl) (by omega) (by omega) ?_
  refine x_if_eq rfl rfl (fun hc1 => absurd hc1 (by decide +kernel)) (fun _ => ?_)
  refine x_aload_n rfl rfl rfl ?_
  refine x_getR0 rfl rfl f_9_27 rfl (by decide) rfl rfl ?_
  refine x_iload_n rfl rfl rfl ?_
  refine x_ialdv (a := i) (v := nI 10) hkd rfl rfl rfl (by decide) (by omega) (by decide) ?_
  refine x_bipush (v := nI 9) rfl rfl (by decide +kernel) ?_
  refine x_icmpN_eq (by omega) (by omega) rfl rfl (fun hc2 => absurd hc2 (by omega)) (fun hc2 => ?_)
  refine x_aload_n rfl rfl rfl ?_
  refine x_getR0 rfl rfl f_9_27 rfl (by decide) rfl rfl ?_
  refine x_iload_n rfl rfl rfl ?_
  refine x_ialdv (a := i) (v := nI 10) hkd rfl rfl rfl (by decide) (by omega) (by decide) ?_
  refine x_bipush (v := nI 10) rfl rfl (by decide +kernel) ?_
  refine x_icmpN_ne (by omega) (by omega) rfl rfl (fun hc3 => absurd hc3 (by omega)) (fun hc3 => ?_)
  refine x_aload_n rfl rfl rfl ?_
  refine x_getR0 rfl rfl f_9_16 rfl (by decide) rfl rfl ?_
  refine x_aload_n rfl rfl rfl ?_
  refine x_getR0 rfl rfl f_9_36 rfl (by decide) rfl rfl ?_
  refine x_iload_n rfl rfl rfl ?_
  refine x_ialdv (a := i) (v := nI t) htr rfl rfl rfl (by decide) (by omega) (by decide) ?_
  refine x_zaldv (a := t) (v := bI (dy)) hdy rfl rfl rfl (by decide) (by omega) (by decide) ?_
  refine x_ifB_eq rfl rfl (fun hc4 => ?_) (fun hc4 => ?_)
  · refine x_iconstN (b := 0) rfl rfl ?_
    exact x_retZ rfl rfl rfl (by first | exact Or.inl rfl | exact Or.inr rfl) (by omega) (oB_f hc4) rfl
  · refine x_iconstN (b := 1) rfl rfl ?_
    refine x_goto rfl rfl ?_
    exact x_retZ rfl rfl rfl (by first | exact Or.inl rfl | exact Or.inr rfl) (by omega) (oB_t hc4) rfl
set_option maxHeartbeats 4000000 in
set_option maxRecDepth 20000 in
theorem c_mhasPairsK (hG : Gok G) (hd : 1 ≤ d) {n : Nat} (hn : M.1 (40, 0) 8 = nI n) (hn2 : n ≤ 40) {i : Nat} (hi : i < n) {kd : Nat} (hkd : M.1 (46, 0) i = nI kd) (hkd2 : kd < 16) (h9 : kd ≠ 9) (h10 : kd ≠ 10) : Ct G mX9_hasPairs d [.ref (ga G (40, 0)), .int (nI i)] M (.inl (some (.int (nI 0)))) M 0 := by
  refine ct_of hG okX9_hasPairs (by decide +kernel) rfl (Nat.le_of_ble_eq_true rfl) ?_
  refine x_aload_n rfl rfl rfl ?_
  refine x_iload_n rfl rfl rfl ?_
  refine x_callVi (d2 := 0) (c_misThing (n := n) hG hn (by omega) (by omega)) rfl rfl v_9_152 rfl rfl (by decide) rfl rfl (Nat.le_of_ble_eq_true rfl) (by omega) (by omega) ?_
  refine x_if_eq rfl rfl (fun hc1 => absurd hc1 (by decide +kernel)) (fun _ => ?_)
  refine x_aload_n rfl rfl rfl ?_
  refine x_getR0 rfl rfl f_9_27 rfl (by decide) rfl rfl ?_
  refine x_iload_n rfl rfl rfl ?_
  refine x_ialdv (a := i) (v := nI kd) hkd rfl rfl rfl (by decide) (by omega) (by decide) ?_
  refine x_bipush (v := nI 9) rfl rfl (by decide +kernel) ?_
  refine x_icmpN_eq (by omega) (by omega) rfl rfl (fun hc2 => absurd hc2 h9) (fun hc2 => ?_)
  refine x_aload_n rfl rfl rfl ?_
  refine x_getR0 rfl rfl f_9_27 rfl (by decide) rfl rfl ?_
  refine x_iload_n rfl rfl rfl ?_
  refine x_ialdv (a := i) (v := nI kd) hkd rfl rfl rfl (by decide) (by omega) (by decide) ?_
  refine x_bipush (v := nI 10) rfl rfl (by decide +kernel) ?_
  refine x_icmpN_ne (by omega) (by omega) rfl rfl (fun hc3 => ?_) (fun hc3 => absurd hc3 h10)
  refine x_iconstN (b := 0) rfl rfl ?_
  exact x_retZ rfl rfl rfl (by first | exact Or.inl rfl | exact Or.inr rfl) (by omega) rfl rfl
set_option maxHeartbeats 4000000 in
set_option maxRecDepth 20000 in
theorem c_mhasPairsO (hG : Gok G) (hd : 1 ≤ d) {n : Nat} (hn : M.1 (40, 0) 8 = nI n) (hn2 : n ≤ 40) {th : Int32} (ho : ∀ i, i < n → th ≠ nI i) : Ct G mX9_hasPairs d [.ref (ga G (40, 0)), .int (th)] M (.inl (some (.int (nI 0)))) M 0 := by
  refine ct_of hG okX9_hasPairs (by decide +kernel) rfl (Nat.le_of_ble_eq_true rfl) ?_
  refine x_aload_n rfl rfl rfl ?_
  refine x_iload_n rfl rfl rfl ?_
  refine x_callVi (d2 := 0) (c_misThingO (n := n) hG hn hn2 ho) rfl rfl v_9_152 rfl rfl (by decide) rfl rfl (Nat.le_of_ble_eq_true rfl) (by omega) (by omega) ?_
  refine x_if_eq rfl rfl (fun _ => ?_) (fun hc1 => absurd hc1 (by decide +kernel))
  refine x_iconstN (b := 0) rfl rfl ?_
  exact x_retZ rfl rfl rfl (by first | exact Or.inl rfl | exact Or.inr rfl) (by omega) rfl rfl
set_option maxHeartbeats 4000000 in
set_option maxRecDepth 20000 in
theorem c_mappend (hG : Gok G) (hd : 3 ≤ d) (v : Int64) {n : Nat} (hn : M.1 (40, 0) 8 = nI n) (hn2 : n ≤ 40) {w : Nat} (hw : M.1 (40, 0) 1 = nI w) (hw2 : w ≤ 40) {i : Nat} (hi : i < n) {il : Nat} (hil : M.1 (48, 0) i = nI il) (hil2 : il < 8) (hkd : M.1 (46, 0) i = nI 9) (hv : isV w n v) : Ct G mX9_append d [.ref (ga G (40, 0)), .int (nI i), .long (v)] M (.inl (some (.int (nI (il + 1))))) (ui (ul (ui M (40, 0) 0 (nI 0)) (50, 0) ((8 * i) + il) v) (48, 0) i (nI (il + 1))) 0 := by
  refine ct_of hG okX9_append (by decide +kernel) rfl (Nat.le_of_ble_eq_true rfl) ?_
  refine x_aload_n rfl rfl rfl ?_
  refine x_iload_n rfl rfl rfl ?_
  refine x_callVi (d2 := 0) (c_misThing (n := n) hG hn (by omega) (by omega)) rfl rfl v_9_152 rfl rfl (by decide) rfl rfl (Nat.le_of_ble_eq_true rfl) (by omega) (by omega) ?_
  refine x_if_eq rfl rfl (fun hc1 => absurd hc1 (by decide +kernel)) (fun _ => ?_)
  refine x_aload_n rfl rfl rfl ?_
  refine x_getR0 rfl rfl f_9_27 rfl (by decide) rfl rfl ?_
  refine x_iload_n rfl rfl rfl ?_
  refine x_ialdv (a := i) (v := nI 9) hkd rfl rfl rfl (by decide) (by omega) (by decide) ?_
  refine x_bipush (v := nI 9) rfl rfl (by decide +kernel) ?_
  refine x_icmpN_ne (by omega) (by omega) rfl rfl (fun hc2 => absurd hc2 (by omega)) (fun hc2 => ?_)
  refine x_aload_n rfl rfl rfl ?_
  refine x_lload_n rfl rfl rfl ?_
  refine x_callVi (d2 := 2) (c_misValue (n := n) (w := w) hG (Nat.le_refl 2) (v) hn hn2 hw hw2) rfl rfl v_9_156 rfl rfl (by decide) rfl rfl (Nat.le_of_ble_eq_true rfl) (by omega) (by omega) ?_
  refine x_ifB_eq rfl rfl (fun hc3 => absurd hv hc3) (fun hc3 => ?_)
  refine x_iconstN (b := 1) rfl rfl ?_
  refine x_goto rfl rfl ?_
  refine x_istore rfl rfl rfl rfl ?_
  refine x_aload_n rfl rfl rfl ?_
  refine x_iload rfl rfl rfl ?_
  refine x_if_ne rfl rfl (fun _ => ?_) (fun hc4 => absurd hc4 (by decide +kernel))
  refine x_aload_n rfl rfl rfl ?_
  refine x_getR0 rfl rfl f_9_33 rfl (by decide) rfl rfl ?_
  refine x_iload_n rfl rfl rfl ?_
  refine x_ialdv (a := i) (v := nI il) hil rfl rfl rfl (by decide) (by omega) (by decide) ?_
  refine x_bipush (v := nI 8) rfl rfl (by decide +kernel) ?_
  refine x_icmpN_ne (by omega) (by omega) rfl rfl (fun hc5 => ?_) (fun hc5 => absurd hc5 (by omega))
  refine x_iconstN (b := 0) rfl rfl ?_
  refine x_putI rfl rfl f_9_97 rfl rfl (by decide) rfl ?_
  refine x_aload_n rfl rfl rfl ?_
  refine x_getIv (v := nI 0) (by first | rfl | simp [ui, ul]) rfl rfl f_9_97 rfl (by decide) rfl ?_
  refine x_if_le rfl rfl (fun _ => ?_) (fun hc6 => absurd hc6 (by decide +kernel))
  refine x_aload_n rfl rfl rfl ?_
  refine x_getR0 rfl rfl f_9_39 rfl (by decide) rfl rfl ?_
  refine x_bipush (v := nI 8) rfl rfl (by decide +kernel) ?_
  refine x_iload_n rfl rfl rfl ?_
  refine x_imulN (a := 8) (b := i) rfl rfl ?_
  refine x_aload_n rfl rfl rfl ?_
  refine x_getR0 rfl rfl f_9_33 rfl (by decide) rfl rfl ?_
  refine x_iload_n rfl rfl rfl ?_
  refine x_ialdv (a := i) (v := nI il) (by first | exact hil | (rw [← hil]; rfl) | simp [ui, ul, hil]) rfl rfl rfl (by decide) (by omega) (by decide) ?_
  refine x_iaddN (a := 8 * i) (b := il) rfl rfl ?_
  refine x_lload_n rfl rfl rfl ?_
  refine x_last (a := (8 * i) + il) rfl rfl rfl (by decide) (by omega) (by decide) ?_
  refine x_aload_n rfl rfl rfl ?_
  refine x_getR0 rfl rfl f_9_33 rfl (by decide) rfl rfl ?_
  refine x_iload_n rfl rfl rfl ?_
  refine x_dup2 rfl rfl rfl rfl ?_
  refine x_ialdv (a := i) (v := nI il) (by first | exact hil | (rw [← hil]; rfl) | simp [ui, ul, hil]) rfl rfl rfl (by decide) (by omega) (by decide) ?_
  refine x_iconstN (b := 1) rfl rfl ?_
  refine x_iaddN (a := il) (b := 1) rfl rfl ?_
  refine x_iast (a := i) rfl rfl rfl (by decide) (by omega) (by decide) ?_
  refine x_aload_n rfl rfl rfl ?_
  refine x_getR0 rfl rfl f_9_33 rfl (by decide) rfl rfl ?_
  refine x_iload_n rfl rfl rfl ?_
  refine x_ialdv (a := i) (v := nI (il + 1)) (by first | rfl | simp [ui, ul]) rfl rfl rfl (by decide) (by omega) (by decide) ?_
  exact x_retI rfl rfl rfl (by omega) rfl rfl
set_option maxHeartbeats 4000000 in
set_option maxRecDepth 20000 in
theorem c_mappendF (hG : Gok G) (hd : 3 ≤ d) (v : Int64) {n : Nat} (hn : M.1 (40, 0) 8 = nI n) (hn2 : n ≤ 40) {w : Nat} (hw : M.1 (40, 0) 1 = nI w) (hw2 : w ≤ 40) {i : Nat} (hi : i < n) (hil : M.1 (48, 0) i = nI 8) (hkd : M.1 (46, 0) i = nI 9) (hv : isV w n v) : Ct G mX9_append d [.ref (ga G (40, 0)), .int (nI i), .long (v)] M (.inl (some (.int (nI 0)))) (ui M (40, 0) 0 (nI 2)) 0 := by
  refine ct_of hG okX9_append (by decide +kernel) rfl (Nat.le_of_ble_eq_true rfl) ?_
  refine x_aload_n rfl rfl rfl ?_
  refine x_iload_n rfl rfl rfl ?_
  refine x_callVi (d2 := 0) (c_misThing (n := n) hG hn (by omega) (by omega)) rfl rfl v_9_152 rfl rfl (by decide) rfl rfl (Nat.le_of_ble_eq_true rfl) (by omega) (by omega) ?_
  refine x_if_eq rfl rfl (fun hc1 => absurd hc1 (by decide +kernel)) (fun _ => ?_)
  refine x_aload_n rfl rfl rfl ?_
  refine x_getR0 rfl rfl f_9_27 rfl (by decide) rfl rfl ?_
  refine x_iload_n rfl rfl rfl ?_
  refine x_ialdv (a := i) (v := nI 9) hkd rfl rfl rfl (by decide) (by omega) (by decide) ?_
  refine x_bipush (v := nI 9) rfl rfl (by decide +kernel) ?_
  refine x_icmpN_ne (by omega) (by omega) rfl rfl (fun hc2 => absurd hc2 (by omega)) (fun hc2 => ?_)
  refine x_aload_n rfl rfl rfl ?_
  refine x_lload_n rfl rfl rfl ?_
  refine x_callVi (d2 := 2) (c_misValue (n := n) (w := w) hG (Nat.le_refl 2) (v) hn hn2 hw hw2) rfl rfl v_9_156 rfl rfl (by decide) rfl rfl (Nat.le_of_ble_eq_true rfl) (by omega) (by omega) ?_
  refine x_ifB_eq rfl rfl (fun hc3 => absurd hv hc3) (fun hc3 => ?_)
  refine x_iconstN (b := 1) rfl rfl ?_
  refine x_goto rfl rfl ?_
  refine x_istore rfl rfl rfl rfl ?_
  refine x_aload_n rfl rfl rfl ?_
  refine x_iload rfl rfl rfl ?_
  refine x_if_ne rfl rfl (fun _ => ?_) (fun hc4 => absurd hc4 (by decide +kernel))
  refine x_aload_n rfl rfl rfl ?_
  refine x_getR0 rfl rfl f_9_33 rfl (by decide) rfl rfl ?_
  refine x_iload_n rfl rfl rfl ?_
  refine x_ialdv (a := i) (v := nI 8) hil rfl rfl rfl (by decide) (by omega) (by decide) ?_
  refine x_bipush (v := nI 8) rfl rfl (by decide +kernel) ?_
  refine x_icmpN_ne (by omega) (by omega) rfl rfl (fun hc5 => absurd hc5 (by omega)) (fun hc5 => ?_)
  refine x_iconstN (b := 2) rfl rfl ?_
  refine x_goto rfl rfl ?_
  refine x_putI rfl rfl f_9_97 rfl rfl (by decide) rfl ?_
  refine x_aload_n rfl rfl rfl ?_
  refine x_getIv (v := nI 2) (by first | rfl | simp [ui, ul]) rfl rfl f_9_97 rfl (by decide) rfl ?_
  refine x_if_le rfl rfl (fun hc6 => absurd hc6 (by decide +kernel)) (fun _ => ?_)
  refine x_iconstN (b := 0) rfl rfl ?_
  exact x_retI rfl rfl rfl (by omega) rfl rfl
set_option maxHeartbeats 4000000 in
set_option maxRecDepth 20000 in
theorem c_mappendV (hG : Gok G) (hd : 3 ≤ d) (v : Int64) {n : Nat} (hn : M.1 (40, 0) 8 = nI n) (hn2 : n ≤ 40) {w : Nat} (hw : M.1 (40, 0) 1 = nI w) (hw2 : w ≤ 40) {i : Nat} (hi : i < n) (hkd : M.1 (46, 0) i = nI 9) (hv : ¬ isV w n v) : Ct G mX9_append d [.ref (ga G (40, 0)), .int (nI i), .long (v)] M (.inl (some (.int (nI 0)))) (ui M (40, 0) 0 (nI 1)) 0 := by
  refine ct_of hG okX9_append (by decide +kernel) rfl (Nat.le_of_ble_eq_true rfl) ?_
  refine x_aload_n rfl rfl rfl ?_
  refine x_iload_n rfl rfl rfl ?_
  refine x_callVi (d2 := 0) (c_misThing (n := n) hG hn (by omega) (by omega)) rfl rfl v_9_152 rfl rfl (by decide) rfl rfl (Nat.le_of_ble_eq_true rfl) (by omega) (by omega) ?_
  refine x_if_eq rfl rfl (fun hc1 => absurd hc1 (by decide +kernel)) (fun _ => ?_)
  refine x_aload_n rfl rfl rfl ?_
  refine x_getR0 rfl rfl f_9_27 rfl (by decide) rfl rfl ?_
  refine x_iload_n rfl rfl rfl ?_
  refine x_ialdv (a := i) (v := nI 9) hkd rfl rfl rfl (by decide) (by omega) (by decide) ?_
  refine x_bipush (v := nI 9) rfl rfl (by decide +kernel) ?_
  refine x_icmpN_ne (by omega) (by omega) rfl rfl (fun hc2 => absurd hc2 (by omega)) (fun hc2 => ?_)
  refine x_aload_n rfl rfl rfl ?_
  refine x_lload_n rfl rfl rfl ?_
  refine x_callVi (d2 := 2) (c_misValue (n := n) (w := w) hG (Nat.le_refl 2) (v) hn hn2 hw hw2) rfl rfl v_9_156 rfl rfl (by decide) rfl rfl (Nat.le_of_ble_eq_true rfl) (by omega) (by omega) ?_
  refine x_ifB_eq rfl rfl (fun hc3 => ?_) (fun hc3 => absurd hc3 hv)
  refine x_iconstN (b := 0) rfl rfl ?_
  refine x_istore rfl rfl rfl rfl ?_
  refine x_aload_n rfl rfl rfl ?_
  refine x_iload rfl rfl rfl ?_
  refine x_if_ne rfl rfl (fun hc4 => absurd hc4 (by decide +kernel)) (fun _ => ?_)
  refine x_iconstN (b := 1) rfl rfl ?_
  refine x_goto rfl rfl ?_
  refine x_putI rfl rfl f_9_97 rfl rfl (by decide) rfl ?_
  refine x_aload_n rfl rfl rfl ?_
  refine x_getIv (v := nI 1) (by first | rfl | simp [ui, ul]) rfl rfl f_9_97 rfl (by decide) rfl ?_
  refine x_if_le rfl rfl (fun hc5 => absurd hc5 (by decide +kernel)) (fun _ => ?_)
  refine x_iconstN (b := 0) rfl rfl ?_
  exact x_retI rfl rfl rfl (by omega) rfl rfl
set_option maxHeartbeats 4000000 in
set_option maxRecDepth 20000 in
theorem c_mappendK (hG : Gok G) (hd : 3 ≤ d) (v : Int64) {n : Nat} (hn : M.1 (40, 0) 8 = nI n) (hn2 : n ≤ 40) {i : Nat} (hi : i < n) {kd : Nat} (hkd : M.1 (46, 0) i = nI kd) (hkd2 : kd < 16) (hne : kd ≠ 9) : Ct G mX9_append d [.ref (ga G (40, 0)), .int (nI i), .long (v)] M (.inl (some (.int (nI 0)))) (ui M (40, 0) 0 (nI 1)) 0 := by
  refine ct_of hG okX9_append (by decide +kernel) rfl (Nat.le_of_ble_eq_true rfl) ?_
  refine x_aload_n rfl rfl rfl ?_
  refine x_iload_n rfl rfl rfl ?_
  refine x_callVi (d2 := 0) (c_misThing (n := n) hG hn (by omega) (by omega)) rfl rfl v_9_152 rfl rfl (by decide) rfl rfl (Nat.le_of_ble_eq_true rfl) (by omega) (by omega) ?_
  refine x_if_eq rfl rfl (fun hc1 => absurd hc1 (by decide +kernel)) (fun _ => ?_)
  refine x_aload_n rfl rfl rfl ?_
  refine x_getR0 rfl rfl f_9_27 rfl (by decide) rfl rfl ?_
  refine x_iload_n rfl rfl rfl ?_
  refine x_ialdv (a := i) (v := nI kd) hkd rfl rfl rfl (by decide) (by omega) (by decide) ?_
  refine x_bipush (v := nI 9) rfl rfl (by decide +kernel) ?_
  refine x_icmpN_ne (by omega) (by omega) rfl rfl (fun hc2 => ?_) (fun hc2 => absurd hc2 hne)
  refine x_iconstN (b := 0) rfl rfl ?_
  refine x_istore rfl rfl rfl rfl ?_
  refine x_aload_n rfl rfl rfl ?_
  refine x_iload rfl rfl rfl ?_
  refine x_if_ne rfl rfl (fun hc3 => absurd hc3 (by decide +kernel)) (fun _ => ?_)
  refine x_iconstN (b := 1) rfl rfl ?_
  refine x_goto rfl rfl ?_
  refine x_putI rfl rfl f_9_97 rfl rfl (by decide) rfl ?_
  refine x_aload_n rfl rfl rfl ?_
  refine x_getIv (v := nI 1) (by first | rfl | simp [ui, ul]) rfl rfl f_9_97 rfl (by decide) rfl ?_
  refine x_if_le rfl rfl (fun hc4 => absurd hc4 (by decide +kernel)) (fun _ => ?_)
  refine x_iconstN (b := 0) rfl rfl ?_
  exact x_retI rfl rfl rfl (by omega) rfl rfl
set_option maxHeartbeats 4000000 in
set_option maxRecDepth 20000 in
theorem c_mappendT (hG : Gok G) (hd : 3 ≤ d) (v : Int64) {n : Nat} (hn : M.1 (40, 0) 8 = nI n) (hn2 : n ≤ 40) {th : Int32} (ho : ∀ i, i < n → th ≠ nI i) : Ct G mX9_append d [.ref (ga G (40, 0)), .int (th), .long (v)] M (.inl (some (.int (nI 0)))) (ui M (40, 0) 0 (nI 1)) 0 := by
  refine ct_of hG okX9_append (by decide +kernel) rfl (Nat.le_of_ble_eq_true rfl) ?_
  refine x_aload_n rfl rfl rfl ?_
  refine x_iload_n rfl rfl rfl ?_
  refine x_callVi (d2 := 0) (c_misThingO (n := n) hG hn hn2 ho) rfl rfl v_9_152 rfl rfl (by decide) rfl rfl (Nat.le_of_ble_eq_true rfl) (by omega) (by omega) ?_
  refine x_if_eq rfl rfl (fun _ => ?_) (fun hc1 => absurd hc1 (by decide +kernel))
  refine x_iconstN (b := 0) rfl rfl ?_
  refine x_istore rfl rfl rfl rfl ?_
  refine x_aload_n rfl rfl rfl ?_
  refine x_iload rfl rfl rfl ?_
  refine x_if_ne rfl rfl (fun hc2 => absurd hc2 (by decide +kernel)) (fun _ => ?_)
  refine x_iconstN (b := 1) rfl rfl ?_
  refine x_goto rfl rfl ?_
  refine x_putI rfl rfl f_9_97 rfl rfl (by decide) rfl ?_
  refine x_aload_n rfl rfl rfl ?_
  refine x_getIv (v := nI 1) (by first | rfl | simp [ui, ul]) rfl rfl f_9_97 rfl (by decide) rfl ?_
  refine x_if_le rfl rfl (fun hc3 => absurd hc3 (by decide +kernel)) (fun _ => ?_)
  refine x_iconstN (b := 0) rfl rfl ?_
  exact x_retI rfl rfl rfl (by omega) rfl rfl
set_option maxHeartbeats 4000000 in
set_option maxRecDepth 20000 in
theorem c_mitemT (hG : Gok G) (hd : 1 ≤ d) {n : Nat} (hn : M.1 (40, 0) 8 = nI n) (hn2 : n ≤ 40) {th : Int32} (ho : ∀ i, i < n → th ≠ nI i) (j : Int32) : Ct G mX9_item d [.ref (ga G (40, 0)), .int (th), .int (j)] M (.inl (some (.long ((-1))))) (ui M (40, 0) 0 (nI 0)) 0 := by
  refine ct_of hG okX9_item (by decide +kernel) rfl (Nat.le_of_ble_eq_true rfl) ?_
  refine x_aload_n rfl rfl rfl ?_
  refine x_iconstN (b := 0) rfl rfl ?_
  refine x_putI rfl rfl f_9_97 rfl rfl (by decide) rfl ?_
  refine x_aload_n rfl rfl rfl ?_
  refine x_iload_n rfl rfl rfl ?_
  refine x_callVi (d2 := 0) (c_misThingO (n := n) hG (by first | exact hn | (rw [← hn]; rfl) | simp [ui, ul, hn]) hn2 ho) rfl rfl v_9_152 rfl rfl (by decide) rfl rfl (Nat.le_of_ble_eq_true rfl) (by omega) (by omega) ?_
  refine x_if_eq rfl rfl (fun _ => ?_) (fun hc1 => absurd hc1 (by decide +kernel))
  refine x_ldc2 (v := -1) rfl rfl k_9_290 ?_
  exact x_retL rfl rfl rfl (by omega) rfl rfl
set_option maxHeartbeats 4000000 in
set_option maxRecDepth 20000 in
theorem c_mitemN (hG : Gok G) (hd : 1 ≤ d) {n : Nat} (hn : M.1 (40, 0) 8 = nI n) (hn2 : n ≤ 40) {i : Nat} (hi : i < n) {j : Int32} (hj : j < 0) : Ct G mX9_item d [.ref (ga G (40, 0)), .int (nI i), .int (j)] M (.inl (some (.long ((-1))))) (ui M (40, 0) 0 (nI 0)) 0 := by
  refine ct_of hG okX9_item (by decide +kernel) rfl (Nat.le_of_ble_eq_true rfl) ?_
  refine x_aload_n rfl rfl rfl ?_
  refine x_iconstN (b := 0) rfl rfl ?_
  refine x_putI rfl rfl f_9_97 rfl rfl (by decide) rfl ?_
  refine x_aload_n rfl rfl rfl ?_
  refine x_iload_n rfl rfl rfl ?_
  refine x_callVi (d2 := 0) (c_misThing (n := n) hG (by first | exact hn | (rw [← hn]; rfl) | simp [ui, ul, hn]) (by omega) (by omega)) rfl rfl v_9_152 rfl rfl (by decide) rfl rfl (Nat.le_of_ble_eq_true rfl) (by omega) (by omega) ?_
  refine x_if_eq rfl rfl (fun hc1 => absurd hc1 (by decide +kernel)) (fun _ => ?_)
  refine x_iload_n rfl rfl rfl ?_
  refine x_if_ge rfl rfl (fun hc2 => absurd hc2 (Int32.not_le.mpr hj)) (fun hc2 => ?_)
  refine x_ldc2 (v := -1) rfl rfl k_9_290 ?_
  exact x_retL rfl rfl rfl (by omega) rfl rfl
set_option maxHeartbeats 4000000 in
set_option maxRecDepth 20000 in
theorem c_mitemD (hG : Gok G) (hd : 1 ≤ d) {n : Nat} (hn : M.1 (40, 0) 8 = nI n) (hn2 : n ≤ 40) {i : Nat} (hi : i < n) (hkd : M.1 (46, 0) i = nI 8) : Ct G mX9_item d [.ref (ga G (40, 0)), .int (nI i), .int (nI 0)] M (.inl (some (.long (M.2 (47, 0) i)))) (ui M (40, 0) 0 (nI 0)) 0 := by
  refine ct_of hG okX9_item (by decide +kernel) rfl (Nat.le_of_ble_eq_true rfl) ?_
  refine x_aload_n rfl rfl rfl ?_
  refine x_iconstN (b := 0) rfl rfl ?_
  refine x_putI rfl rfl f_9_97 rfl rfl (by decide) rfl ?_
  refine x_aload_n rfl rfl rfl ?_
  refine x_iload_n rfl rfl rfl ?_
  refine x_callVi (d2 := 0) (c_misThing (n := n) hG (by first | exact hn | (rw [← hn]; rfl) | simp [ui, ul, hn]) (by omega) (by omega)) rfl rfl v_9_152 rfl rfl (by decide) rfl rfl (Nat.le_of_ble_eq_true rfl) (by omega) (by omega) ?_
  refine x_if_eq rfl rfl (fun hc1 => absurd hc1 (by decide +kernel)) (fun _ => ?_)
  refine x_iload_n rfl rfl rfl ?_
  refine x_if_ge rfl rfl (fun _ => ?_) (fun hc2 => absurd hc2 (by decide +kernel))
  refine x_aload_n rfl rfl rfl ?_
  refine x_getR0 rfl rfl f_9_27 rfl (by decide) rfl rfl ?_
  refine x_iload_n rfl rfl rfl ?_
  refine x_ialdv (a := i) (v := nI 8) (by first | exact hkd | (rw [← hkd]; rfl) | simp [ui, ul, hkd]) rfl rfl rfl (by decide) (by omega) (by decide) ?_
  refine x_bipush (v := nI 8) rfl rfl (by decide +kernel) ?_
  refine x_icmpN_ne (by omega) (by omega) rfl rfl (fun hc3 => absurd hc3 (by omega)) (fun hc3 => ?_)
  refine x_iload_n rfl rfl rfl ?_
  refine x_if_ne rfl rfl (fun hc4 => absurd hc4 (by decide +kernel)) (fun _ => ?_)
  refine x_aload_n rfl rfl rfl ?_
  refine x_getR0 rfl rfl f_9_30 rfl (by decide) rfl rfl ?_
  refine x_iload_n rfl rfl rfl ?_
  refine x_laldv (a := i) (v := M.2 (47, 0) i) (by first | rfl | simp [ui, ul]) rfl rfl rfl (by decide) (by omega) (by decide) ?_
  refine x_goto rfl rfl ?_
  exact x_retL rfl rfl rfl (by omega) rfl rfl
set_option maxHeartbeats 4000000 in
set_option maxRecDepth 20000 in
theorem c_mitemDO (hG : Gok G) (hd : 1 ≤ d) {n : Nat} (hn : M.1 (40, 0) 8 = nI n) (hn2 : n ≤ 40) {i : Nat} (hi : i < n) (hkd : M.1 (46, 0) i = nI 8) {j : Nat} (hj : 0 < j) (hj2 : j < 2 ^ 31) : Ct G mX9_item d [.ref (ga G (40, 0)), .int (nI i), .int (nI j)] M (.inl (some (.long ((-1))))) (ui M (40, 0) 0 (nI 0)) 0 := by
  refine ct_of hG okX9_item (by decide +kernel) rfl (Nat.le_of_ble_eq_true rfl) ?_
  refine x_aload_n rfl rfl rfl ?_
  refine x_iconstN (b := 0) rfl rfl ?_
  refine x_putI rfl rfl f_9_97 rfl rfl (by decide) rfl ?_
  refine x_aload_n rfl rfl rfl ?_
  refine x_iload_n rfl rfl rfl ?_
  refine x_callVi (d2 := 0) (c_misThing (n := n) hG (by first | exact hn | (rw [← hn]; rfl) | simp [ui, ul, hn]) (by omega) (by omega)) rfl rfl v_9_152 rfl rfl (by decide) rfl rfl (Nat.le_of_ble_eq_true rfl) (by omega) (by omega) ?_
  refine x_if_eq rfl rfl (fun hc1 => absurd hc1 (by decide +kernel)) (fun _ => ?_)
  refine x_iload_n rfl rfl rfl ?_
  refine x_ifN_ge (by omega) rfl rfl (fun hc2 => ?_) (fun hc2 => hc2.elim)
  refine x_aload_n rfl rfl rfl ?_
  refine x_getR0 rfl rfl f_9_27 rfl (by decide) rfl rfl ?_
  refine x_iload_n rfl rfl rfl ?_
  refine x_ialdv (a := i) (v := nI 8) (by first | exact hkd | (rw [← hkd]; rfl) | simp [ui, ul, hkd]) rfl rfl rfl (by decide) (by omega) (by decide) ?_
  refine x_bipush (v := nI 8) rfl rfl (by decide +kernel) ?_
  refine x_icmpN_ne (by omega) (by omega) rfl rfl (fun hc3 => absurd hc3 (by omega)) (fun hc3 => ?_)
  refine x_iload_n rfl rfl rfl ?_
  refine x_ifN_ne (by omega) rfl rfl (fun hc4 => ?_) (fun hc4 => absurd hc4 (by omega))
  refine x_ldc2 (v := -1) rfl rfl k_9_290 ?_
  exact x_retL rfl rfl rfl (by omega) rfl rfl
set_option maxHeartbeats 4000000 in
set_option maxRecDepth 20000 in
theorem c_mitemO (hG : Gok G) (hd : 1 ≤ d) {n : Nat} (hn : M.1 (40, 0) 8 = nI n) (hn2 : n ≤ 40) {i : Nat} (hi : i < n) {kd : Nat} (hkd : M.1 (46, 0) i = nI kd) (hkd2 : kd < 16) (hne : kd ≠ 8) {il j : Nat} (hil : M.1 (48, 0) i = nI il) (hil2 : il ≤ 8) (hj : il ≤ j) (hj2 : j < 2 ^ 31) : Ct G mX9_item d [.ref (ga G (40, 0)), .int (nI i), .int (nI j)] M (.inl (some (.long ((-1))))) (ui M (40, 0) 0 (nI 0)) 0 := by
  refine ct_of hG okX9_item (by decide +kernel) rfl (Nat.le_of_ble_eq_true rfl) ?_
  refine x_aload_n rfl rfl rfl ?_
  refine x_iconstN (b := 0) rfl rfl ?_
  refine x_putI rfl rfl f_9_97 rfl rfl (by decide) rfl ?_
  refine x_aload_n rfl rfl rfl ?_
  refine x_iload_n rfl rfl rfl ?_
  refine x_callVi (d2 := 0) (c_misThing (n := n) hG (by first | exact hn | (rw [← hn]; rfl) | simp [ui, ul, hn]) (by omega) (by omega)) rfl rfl v_9_152 rfl rfl (by decide) rfl rfl (Nat.le_of_ble_eq_true rfl) (by omega) (by omega) ?_
  refine x_if_eq rfl rfl (fun hc1 => absurd hc1 (by decide +kernel)) (fun _ => ?_)
  refine x_iload_n rfl rfl rfl ?_
  refine x_ifN_ge (by omega) rfl rfl (fun hc2 => ?_) (fun hc2 => hc2.elim)
  refine x_aload_n rfl rfl rfl ?_
  refine x_getR0 rfl rfl f_9_27 rfl (by decide) rfl rfl ?_
  refine x_iload_n rfl rfl rfl ?_
  refine x_ialdv (a := i) (v := nI kd) (by first | exact hkd | (rw [← hkd]; rfl) | simp [ui, ul, hkd]) rfl rfl rfl (by decide) (by omega) (by decide) ?_
  refine x_bipush (v := nI 8) rfl rfl (by decide +kernel) ?_
  refine x_icmpN_ne (by omega) (by omega) rfl rfl (fun hc3 => ?_) (fun hc3 => absurd hc3 hne)
  refine x_iload_n rfl rfl rfl ?_
  refine x_aload_n rfl rfl rfl ?_
  refine x_getR0 rfl rfl f_9_33 rfl (by decide) rfl rfl ?_
  refine x_iload_n rfl rfl rfl ?_
  refine x_ialdv (a := i) (v := nI il) (by first | exact hil | (rw [← hil]; rfl) | simp [ui, ul, hil]) rfl rfl rfl (by decide) (by omega) (by decide) ?_
  refine x_icmpN_lt (by omega) (by omega) rfl rfl (fun hc4 => absurd hc4 (by omega)) (fun hc4 => ?_)
  refine x_ldc2 (v := -1) rfl rfl k_9_290 ?_
  exact x_retL rfl rfl rfl (by omega) rfl rfl
set_option maxHeartbeats 4000000 in
set_option maxRecDepth 20000 in
theorem c_mitemB (hG : Gok G) (hd : 1 ≤ d) {n : Nat} (hn : M.1 (40, 0) 8 = nI n) (hn2 : n ≤ 40) {i : Nat} (hi : i < n) (hkd : M.1 (46, 0) i = nI 12) {il j : Nat} (hil : M.1 (48, 0) i = nI il) (hil2 : il ≤ 8) (hj : j < il) : Ct G mX9_item d [.ref (ga G (40, 0)), .int (nI i), .int (nI j)] M (.inl (some (.long ((16 * (((((M.2 (47, 0) i)).toUInt64 >>> ((nI (8 * j)).toInt64.toUInt64 &&& Int64.toUInt64 63)).toInt64) &&& 255)) + 4)))) (ui M (40, 0) 0 (nI 0)) 0 := by
  refine ct_of hG okX9_item (by decide +kernel) rfl (Nat.le_of_ble_eq_true rfl) ?_
  refine x_aload_n rfl rfl rfl ?_
  refine x_iconstN (b := 0) rfl rfl ?_
  refine x_putI rfl rfl f_9_97 rfl rfl (by decide) rfl ?_
  refine x_aload_n rfl rfl rfl ?_
  refine x_iload_n rfl rfl rfl ?_
  refine x_callVi (d2 := 0) (c_misThing (n := n) hG (by first | exact hn | (rw [← hn]; rfl) | simp [ui, ul, hn]) (by omega) (by omega)) rfl rfl v_9_152 rfl rfl (by decide) rfl rfl (Nat.le_of_ble_eq_true rfl) (by omega) (by omega) ?_
  refine x_if_eq rfl rfl (fun hc1 => absurd hc1 (by decide +kernel)) (fun _ => ?_)
  refine x_iload_n rfl rfl rfl ?_
  refine x_ifN_ge (by omega) rfl rfl (fun hc2 => ?_) (fun hc2 => hc2.elim)
  refine x_aload_n rfl rfl rfl ?_
  refine x_getR0 rfl rfl f_9_27 rfl (by decide) rfl rfl ?_
  refine x_iload_n rfl rfl rfl ?_
  refine x_ialdv (a := i) (v := nI 12) (by first | exact hkd | (rw [← hkd]; rfl) | simp [ui, ul, hkd]) rfl rfl rfl (by decide) (by omega) (by decide) ?_
  refine x_bipush (v := nI 8) rfl rfl (by decide +kernel) ?_
  refine x_icmpN_ne (by omega) (by omega) rfl rfl (fun hc3 => ?_) (fun hc3 => absurd hc3 (by omega))
  refine x_iload_n rfl rfl rfl ?_
  refine x_aload_n rfl rfl rfl ?_
  refine x_getR0 rfl rfl f_9_33 rfl (by decide) rfl rfl ?_
  refine x_iload_n rfl rfl rfl ?_
  refine x_ialdv (a := i) (v := nI il) (by first | exact hil | (rw [← hil]; rfl) | simp [ui, ul, hil]) rfl rfl rfl (by decide) (by omega) (by decide) ?_
  refine x_icmpN_lt (by omega) (by omega) rfl rfl (fun hc4 => ?_) (fun hc4 => absurd hc4 (by omega))
  refine x_aload_n rfl rfl rfl ?_
  refine x_getR0 rfl rfl f_9_27 rfl (by decide) rfl rfl ?_
  refine x_iload_n rfl rfl rfl ?_
  refine x_ialdv (a := i) (v := nI 12) (by first | exact hkd | (rw [← hkd]; rfl) | simp [ui, ul, hkd]) rfl rfl rfl (by decide) (by omega) (by decide) ?_
  refine x_bipush (v := nI 12) rfl rfl (by decide +kernel) ?_
  refine x_icmpN_ne (by omega) (by omega) rfl rfl (fun hc5 => absurd hc5 (by omega)) (fun hc5 => ?_)
  refine x_ldc2 (v := 16) rfl rfl k_9_128 ?_
  refine x_aload_n rfl rfl rfl ?_
  refine x_getR0 rfl rfl f_9_30 rfl (by decide) rfl rfl ?_
  refine x_iload_n rfl rfl rfl ?_
  refine x_laldv (a := i) (v := M.2 (47, 0) i) (by first | rfl | simp [ui, ul]) rfl rfl rfl (by decide) (by omega) (by decide) ?_
  refine x_bipush (v := nI 8) rfl rfl (by decide +kernel) ?_
  refine x_iload_n rfl rfl rfl ?_
  refine x_imulN (a := 8) (b := j) rfl rfl ?_
  refine x_lushr rfl rfl ?_
  refine x_ldc2 (v := 255) rfl rfl k_9_104 ?_
  refine x_land rfl rfl ?_
  refine x_lmul rfl rfl ?_
  refine x_ldc2 (v := 4) rfl rfl k_9_261 ?_
  refine x_ladd rfl rfl ?_
  refine x_goto rfl rfl ?_
  exact x_retL rfl rfl rfl (by omega) rfl rfl
set_option maxHeartbeats 4000000 in
set_option maxRecDepth 20000 in
theorem c_mitemI (hG : Gok G) (hd : 1 ≤ d) {n : Nat} (hn : M.1 (40, 0) 8 = nI n) (hn2 : n ≤ 40) {i : Nat} (hi : i < n) {kd : Nat} (hkd : M.1 (46, 0) i = nI kd) (hkd2 : kd < 16) (hne : kd ≠ 8) (hn12 : kd ≠ 12) {il j : Nat} (hil : M.1 (48, 0) i = nI il) (hil2 : il ≤ 8) (hj : j < il) : Ct G mX9_item d [.ref (ga G (40, 0)), .int (nI i), .int (nI j)] M (.inl (some (.long (M.2 (50, 0) ((8 * i) + j))))) (ui M (40, 0) 0 (nI 0)) 0 := by
  refine ct_of hG okX9_item (by decide +kernel) rfl (Nat.le_of_ble_eq_true rfl) ?_
  refine x_aload_n rfl rfl rfl ?_
  refine x_iconstN (b := 0) rfl rfl ?_
  refine x_putI rfl rfl f_9_97 rfl rfl (by decide) rfl ?_
  refine x_aload_n rfl rfl rfl ?_
  refine x_iload_n rfl rfl rfl ?_
  refine x_callVi (d2 := 0) (c_misThing (n := n) hG (by first | exact hn | (rw [← hn]; rfl) | simp [ui, ul, hn]) (by omega) (by omega)) rfl rfl v_9_152 rfl rfl (by decide) rfl rfl (Nat.le_of_ble_eq_true rfl) (by omega) (by omega) ?_
  refine x_if_eq rfl rfl (fun hc1 => absurd hc1 (by decide +kernel)) (fun _ => ?_)
  refine x_iload_n rfl rfl rfl ?_
  refine x_ifN_ge (by omega) rfl rfl (fun hc2 => ?_) (fun hc2 => hc2.elim)
  refine x_aload_n rfl rfl rfl ?_
  refine x_getR0 rfl rfl f_9_27 rfl (by decide) rfl rfl ?_
  refine x_iload_n rfl rfl rfl ?_
  refine x_ialdv (a := i) (v := nI kd) (by first | exact hkd | (rw [← hkd]; rfl) | simp [ui, ul, hkd]) rfl rfl rfl (by decide) (by omega) (by decide) ?_
  refine x_bipush (v := nI 8) rfl rfl (by decide +kernel) ?_
  refine x_icmpN_ne (by omega) (by omega) rfl rfl (fun hc3 => ?_) (fun hc3 => absurd hc3 hne)
  refine x_iload_n rfl rfl rfl ?_
  refine x_aload_n rfl rfl rfl ?_
  refine x_getR0 rfl rfl f_9_33 rfl (by decide) rfl rfl ?_
  refine x_iload_n rfl rfl rfl ?_
  refine x_ialdv (a := i) (v := nI il) (by first | exact hil | (rw [← hil]; rfl) | simp [ui, ul, hil]) rfl rfl rfl (by decide) (by omega) (by decide) ?_
  refine x_icmpN_lt (by omega) (by omega) rfl rfl (fun hc4 => ?_) (fun hc4 => absurd hc4 (by omega))
  refine x_aload_n rfl rfl rfl ?_
  refine x_getR0 rfl rfl f_9_27 rfl (by decide) rfl rfl ?_
  refine x_iload_n rfl rfl rfl ?_
  refine x_ialdv (a := i) (v := nI kd) (by first | exact hkd | (rw [← hkd]; rfl) | simp [ui, ul, hkd]) rfl rfl rfl (by decide) (by omega) (by decide) ?_
  refine x_bipush (v := nI 12) rfl rfl (by decide +kernel) ?_
  refine x_icmpN_ne (by omega) (by omega) rfl rfl (fun hc5 => ?_) (fun hc5 => absurd hc5 hn12)
  refine x_aload_n rfl rfl rfl ?_
  refine x_getR0 rfl rfl f_9_39 rfl (by decide) rfl rfl ?_
  refine x_bipush (v := nI 8) rfl rfl (by decide +kernel) ?_
  refine x_iload_n rfl rfl rfl ?_
  refine x_imulN (a := 8) (b := i) rfl rfl ?_
  refine x_iload_n rfl rfl rfl ?_
  refine x_iaddN (a := 8 * i) (b := j) rfl rfl ?_
  refine x_laldv (a := (8 * i) + j) (v := M.2 (50, 0) ((8 * i) + j)) (by first | rfl | simp [ui, ul]) rfl rfl rfl (by decide) (by omega) (by decide) ?_
  exact x_retL rfl rfl rfl (by omega) rfl rfl
set_option maxHeartbeats 4000000 in
set_option maxRecDepth 20000 in
theorem c_mpairT (hG : Gok G) (hd : 1 ≤ d) {n : Nat} (hn : M.1 (40, 0) 8 = nI n) (hn2 : n ≤ 40) {th : Int32} (ho : ∀ i, i < n → th ≠ nI i) (j k : Int32) : Ct G mX9_pair d [.ref (ga G (40, 0)), .int (th), .int (j), .int (k)] M (.inl (some (.long ((-1))))) (ui M (40, 0) 0 (nI 0)) 0 := by
  refine ct_of hG okX9_pair (by decide +kernel) rfl (Nat.le_of_ble_eq_true rfl) ?_
  refine x_aload_n rfl rfl rfl ?_
  refine x_iconstN (b := 0) rfl rfl ?_
  refine x_putI rfl rfl f_9_97 rfl rfl (by decide) rfl ?_
  refine x_aload_n rfl rfl rfl ?_
  refine x_iload_n rfl rfl rfl ?_
  refine x_callVi (d2 := 0) (c_misThingO (n := n) hG (by first | exact hn | (rw [← hn]; rfl) | simp [ui, ul, hn]) hn2 ho) rfl rfl v_9_152 rfl rfl (by decide) rfl rfl (Nat.le_of_ble_eq_true rfl) (by omega) (by omega) ?_
  refine x_if_eq rfl rfl (fun _ => ?_) (fun hc1 => absurd hc1 (by decide +kernel))
  refine x_ldc2 (v := -1) rfl rfl k_9_290 ?_
  exact x_retL rfl rfl rfl (by omega) rfl rfl
set_option maxHeartbeats 4000000 in
set_option maxRecDepth 20000 in
theorem c_mpairN (hG : Gok G) (hd : 1 ≤ d) {n : Nat} (hn : M.1 (40, 0) 8 = nI n) (hn2 : n ≤ 40) {i : Nat} (hi : i < n) {j : Int32} (k : Int32) (hj : j < 0) : Ct G mX9_pair d [.ref (ga G (40, 0)), .int (nI i), .int (j), .int (k)] M (.inl (some (.long ((-1))))) (ui M (40, 0) 0 (nI 0)) 0 := by
  refine ct_of hG okX9_pair (by decide +kernel) rfl (Nat.le_of_ble_eq_true rfl) ?_
  refine x_aload_n rfl rfl rfl ?_
  refine x_iconstN (b := 0) rfl rfl ?_
  refine x_putI rfl rfl f_9_97 rfl rfl (by decide) rfl ?_
  refine x_aload_n rfl rfl rfl ?_
  refine x_iload_n rfl rfl rfl ?_
  refine x_callVi (d2 := 0) (c_misThing (n := n) hG (by first | exact hn | (rw [← hn]; rfl) | simp [ui, ul, hn]) (by omega) (by omega)) rfl rfl v_9_152 rfl rfl (by decide) rfl rfl (Nat.le_of_ble_eq_true rfl) (by omega) (by omega) ?_
  refine x_if_eq rfl rfl (fun hc1 => absurd hc1 (by decide +kernel)) (fun _ => ?_)
  refine x_iload_n rfl rfl rfl ?_
  refine x_if_lt rfl rfl (fun hc2 => ?_) (fun hc2 => absurd hj hc2)
  refine x_ldc2 (v := -1) rfl rfl k_9_290 ?_
  exact x_retL rfl rfl rfl (by omega) rfl rfl
set_option maxHeartbeats 4000000 in
set_option maxRecDepth 20000 in
theorem c_mpairO (hG : Gok G) (hd : 1 ≤ d) {n : Nat} (hn : M.1 (40, 0) 8 = nI n) (hn2 : n ≤ 40) {i : Nat} (hi : i < n) {kl : Nat} (hkl : M.1 (51, 0) i = nI kl) (hkl2 : kl ≤ 6) {j : Nat} (k : Int32) (hj : kl ≤ j) (hj2 : j < 2 ^ 31) : Ct G mX9_pair d [.ref (ga G (40, 0)), .int (nI i), .int (nI j), .int (k)] M (.inl (some (.long ((-1))))) (ui M (40, 0) 0 (nI 0)) 0 := by
  refine ct_of hG okX9_pair (by decide +kernel) rfl (Nat.le_of_ble_eq_true rfl) ?_
  refine x_aload_n rfl rfl rfl ?_
  refine x_iconstN (b := 0) rfl rfl ?_
  refine x_putI rfl rfl f_9_97 rfl rfl (by decide) rfl ?_
  refine x_aload_n rfl rfl rfl ?_
  refine x_iload_n rfl rfl rfl ?_
  refine x_callVi (d2 := 0) (c_misThing (n := n) hG (by first | exact hn | (rw [← hn]; rfl) | simp [ui, ul, hn]) (by omega) (by omega)) rfl rfl v_9_152 rfl rfl (by decide) rfl rfl (Nat.le_of_ble_eq_true rfl) (by omega) (by omega) ?_
  refine x_if_eq rfl rfl (fun hc1 => absurd hc1 (by decide +kernel)) (fun _ => ?_)
  refine x_iload_n rfl rfl rfl ?_
  refine x_ifN_lt (by omega) rfl rfl (fun hc2 => hc2.elim) (fun hc2 => ?_)
  refine x_iload_n rfl rfl rfl ?_
  refine x_aload_n rfl rfl rfl ?_
  refine x_getR0 rfl rfl f_9_42 rfl (by decide) rfl rfl ?_
  refine x_iload_n rfl rfl rfl ?_
  refine x_ialdv (a := i) (v := nI kl) (by first | exact hkl | (rw [← hkl]; rfl) | simp [ui, ul, hkl]) rfl rfl rfl (by decide) (by omega) (by decide) ?_
  refine x_icmpN_lt (by omega) (by omega) rfl rfl (fun hc3 => absurd hc3 (by omega)) (fun hc3 => ?_)
  refine x_ldc2 (v := -1) rfl rfl k_9_290 ?_
  exact x_retL rfl rfl rfl (by omega) rfl rfl
set_option maxHeartbeats 4000000 in
set_option maxRecDepth 20000 in
theorem c_mpair0 (hG : Gok G) (hd : 1 ≤ d) {n : Nat} (hn : M.1 (40, 0) 8 = nI n) (hn2 : n ≤ 40) {i : Nat} (hi : i < n) {kl : Nat} (hkl : M.1 (51, 0) i = nI kl) (hkl2 : kl ≤ 6) {j : Nat} (hj : j < kl) : Ct G mX9_pair d [.ref (ga G (40, 0)), .int (nI i), .int (nI j), .int (nI 0)] M (.inl (some (.long (M.2 (53, 0) ((6 * i) + j))))) (ui M (40, 0) 0 (nI 0)) 0 := by
  refine ct_of hG okX9_pair (by decide +kernel) rfl (Nat.le_of_ble_eq_true rfl) ?_
  refine x_aload_n rfl rfl rfl ?_
  refine x_iconstN (b := 0) rfl rfl ?_
  refine x_putI rfl rfl f_9_97 rfl rfl (by decide) rfl ?_
  refine x_aload_n rfl rfl rfl ?_
  refine x_iload_n rfl rfl rfl ?_
  refine x_callVi (d2 := 0) (c_misThing (n := n) hG (by first | exact hn | (rw [← hn]; rfl) | simp [ui, ul, hn]) (by omega) (by omega)) rfl rfl v_9_152 rfl rfl (by decide) rfl rfl (Nat.le_of_ble_eq_true rfl) (by omega) (by omega) ?_
  refine x_if_eq rfl rfl (fun hc1 => absurd hc1 (by decide +kernel)) (fun _ => ?_)
  refine x_iload_n rfl rfl rfl ?_
  refine x_ifN_lt (by omega) rfl rfl (fun hc2 => hc2.elim) (fun hc2 => ?_)
  refine x_iload_n rfl rfl rfl ?_
  refine x_aload_n rfl rfl rfl ?_
  refine x_getR0 rfl rfl f_9_42 rfl (by decide) rfl rfl ?_
  refine x_iload_n rfl rfl rfl ?_
  refine x_ialdv (a := i) (v := nI kl) (by first | exact hkl | (rw [← hkl]; rfl) | simp [ui, ul, hkl]) rfl rfl rfl (by decide) (by omega) (by decide) ?_
  refine x_icmpN_lt (by omega) (by omega) rfl rfl (fun hc3 => ?_) (fun hc3 => absurd hc3 (by omega))
  refine x_iload_n rfl rfl rfl ?_
  refine x_if_eq rfl rfl (fun _ => ?_) (fun hc4 => absurd hc4 (by decide +kernel))
  refine x_aload_n rfl rfl rfl ?_
  refine x_getR0 rfl rfl f_9_48 rfl (by decide) rfl rfl ?_
  refine x_bipush (v := nI 6) rfl rfl (by decide +kernel) ?_
  refine x_iload_n rfl rfl rfl ?_
  refine x_imulN (a := 6) (b := i) rfl rfl ?_
  refine x_iload_n rfl rfl rfl ?_
  refine x_iaddN (a := 6 * i) (b := j) rfl rfl ?_
  refine x_laldv (a := (6 * i) + j) (v := M.2 (53, 0) ((6 * i) + j)) (by first | rfl | simp [ui, ul]) rfl rfl rfl (by decide) (by omega) (by decide) ?_
  exact x_retL rfl rfl rfl (by omega) rfl rfl
set_option maxHeartbeats 4000000 in
set_option maxRecDepth 20000 in
theorem c_mpair1 (hG : Gok G) (hd : 1 ≤ d) {n : Nat} (hn : M.1 (40, 0) 8 = nI n) (hn2 : n ≤ 40) {i : Nat} (hi : i < n) {kl : Nat} (hkl : M.1 (51, 0) i = nI kl) (hkl2 : kl ≤ 6) {j : Nat} (hj : j < kl) : Ct G mX9_pair d [.ref (ga G (40, 0)), .int (nI i), .int (nI j), .int (nI 1)] M (.inl (some (.long (M.2 (52, 0) ((6 * i) + j))))) (ui M (40, 0) 0 (nI 0)) 0 := by
  refine ct_of hG okX9_pair (by decide +kernel) rfl (Nat.le_of_ble_eq_true rfl) ?_
  refine x_aload_n rfl rfl rfl ?_
  refine x_iconstN (b := 0) rfl rfl ?_
  refine x_putI rfl rfl f_9_97 rfl rfl (by decide) rfl ?_
  refine x_aload_n rfl rfl rfl ?_
  refine x_iload_n rfl rfl rfl ?_
  refine x_callVi (d2 := 0) (c_misThing (n := n) hG (by first | exact hn | (rw [← hn]; rfl) | simp [ui, ul, hn]) (by omega) (by omega)) rfl rfl v_9_152 rfl rfl (by decide) rfl rfl (Nat.le_of_ble_eq_true rfl) (by omega) (by omega) ?_
  refine x_if_eq rfl rfl (fun hc1 => absurd hc1 (by decide +kernel)) (fun _ => ?_)
  refine x_iload_n rfl rfl rfl ?_
  refine x_ifN_lt (by omega) rfl rfl (fun hc2 => hc2.elim) (fun hc2 => ?_)
  refine x_iload_n rfl rfl rfl ?_
  refine x_aload_n rfl rfl rfl ?_
  refine x_getR0 rfl rfl f_9_42 rfl (by decide) rfl rfl ?_
  refine x_iload_n rfl rfl rfl ?_
  refine x_ialdv (a := i) (v := nI kl) (by first | exact hkl | (rw [← hkl]; rfl) | simp [ui, ul, hkl]) rfl rfl rfl (by decide) (by omega) (by decide) ?_
  refine x_icmpN_lt (by omega) (by omega) rfl rfl (fun hc3 => ?_) (fun hc3 => absurd hc3 (by omega))
  refine x_iload_n rfl rfl rfl ?_
  refine x_if_eq rfl rfl (fun hc4 => absurd hc4 (by decide +kernel)) (fun _ => ?_)
  refine x_aload_n rfl rfl rfl ?_
  refine x_getR0 rfl rfl f_9_45 rfl (by decide) rfl rfl ?_
  refine x_bipush (v := nI 6) rfl rfl (by decide +kernel) ?_
  refine x_iload_n rfl rfl rfl ?_
  refine x_imulN (a := 6) (b := i) rfl rfl ?_
  refine x_iload_n rfl rfl rfl ?_
  refine x_iaddN (a := 6 * i) (b := j) rfl rfl ?_
  refine x_laldv (a := (6 * i) + j) (v := M.2 (52, 0) ((6 * i) + j)) (by first | rfl | simp [ui, ul]) rfl rfl rfl (by decide) (by omega) (by decide) ?_
  refine x_goto rfl rfl ?_
  exact x_retL rfl rfl rfl (by omega) rfl rfl
end D3
