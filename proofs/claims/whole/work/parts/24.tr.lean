/-- the first place of i .. i + n - 1 where P holds, else i + n -/
noncomputable def fp (P : Nat → Prop) : Nat → Nat → Nat
  | i, 0 => i
  | i, n + 1 => @ite _ (P i) (Classical.propDecidable _) i (fp P (i + 1) n)
theorem fp_t {P : Nat → Prop} {i n : Nat} (h : P i) : fp P i (n + 1) = i := @if_pos _ (Classical.propDecidable _) h _ _ _
theorem fp_f {P : Nat → Prop} {i n : Nat} (h : ¬ P i) : fp P i (n + 1) = fp P (i + 1) n := @if_neg _ (Classical.propDecidable _) h _ _ _
noncomputable def lxP (P : Nat → Prop) : Option Nat → Nat → Nat → Option Nat
  | r, _, 0 => r
  | r, k, n + 1 => lxP P (@ite _ (P k) (Classical.propDecidable _) (some k) r) (k + 1) n
theorem lxP_t {P : Nat → Prop} {r : Option Nat} {k n : Nat} (h : P k) : lxP P r k (n + 1) = lxP P (some k) (k + 1) n := by
  show lxP P (@ite _ (P k) (Classical.propDecidable _) (some k) r) (k + 1) n = _
  rw [@if_pos _ (Classical.propDecidable _) h]
theorem lxP_f {P : Nat → Prop} {r : Option Nat} {k n : Nat} (h : ¬ P k) : lxP P r k (n + 1) = lxP P r (k + 1) n := by
  show lxP P (@ite _ (P k) (Classical.propDecidable _) (some k) r) (k + 1) n = _
  rw [@if_neg _ (Classical.propDecidable _) h]
section E1
variable {G : Gd} {d : Nat} {M : Mm}
set_option maxHeartbeats 4000000 in
theorem l_placeOfDraft (hG : Gok G) (hd : 2 ≤ d) {dr : Nat} (hdr : dr < 13) (ml : Nat → Nat) (hml : ∀ i, i ≤ dr → M.1 (6, i) 1 = nI (ml i) ∧ ml i ≤ 3) : ∀ n i : Nat, i + n = dr → Fr G mX4_placeOfDraft d 0 (Zm G (.inl (some (.int (nI (fp (fun i => alk M i dr (ml i) (ml dr)) i n))))) M 0) 0 2 [(0, .ref (ga G (1, 0))), (1, .int (nI dr)), (2, .int (nI i))] [] M := by
  intro n
  induction n with
  | zero =>
    intro i hi
    refine x_iload_n rfl rfl rfl ?_
    refine x_iload_n rfl rfl rfl ?_
    refine x_icmpN_ge (by omega) (by omega) rfl rfl (fun hc1 => ?_) (fun hc1 => absurd hc1 (by omega))
    refine x_iload_n rfl rfl rfl ?_
    exact x_retI rfl rfl rfl (by omega) (by rw [show dr = i by omega]; rfl) rfl
  | succ n ih =>
    intro i hi
    refine x_iload_n rfl rfl rfl ?_
    refine x_iload_n rfl rfl rfl ?_
    refine x_icmpN_ge (by omega) (by omega) rfl rfl (fun hc1 => absurd hc1 (by omega)) (fun hc1 => ?_)
    refine x_aload_n rfl rfl rfl ?_
    refine x_getR0 rfl rfl f_4_17 rfl (by decide) rfl rfl ?_
    refine x_iload_n rfl rfl rfl ?_
    refine x_aaldi (a := i) rfl rfl rfl (by decide) (by decide) (by omega) (by decide) rfl ?_
    refine x_aload_n rfl rfl rfl ?_
    refine x_getR0 rfl rfl f_4_17 rfl (by decide) rfl rfl ?_
    refine x_iload_n rfl rfl rfl ?_
    refine x_aaldi (a := dr) rfl rfl rfl (by decide) (by decide) (by omega) (by decide) rfl ?_
    refine x_callVi (d2 := 1) (c_isAlike (la := ml i) (lb := ml dr) hG (Nat.le_refl 1) (by omega) (by omega) (hml i (by omega)).1 (hml i (by omega)).2 (hml dr (by omega)).1 (hml dr (by omega)).2) rfl rfl v_4_80 rfl rfl (by show _ < 13; omega) rfl rfl (Nat.le_of_ble_eq_true rfl) (by omega) (by omega) ?_
    refine x_ifB_eq rfl rfl (fun hc2 => ?_) (fun hc2 => ?_)
    · refine x_iincN (a := i) (b := 1) rfl rfl rfl rfl rfl ?_
      refine x_goto rfl rfl ?_
      (rw [fp_f (P := fun i => alk M i dr (ml i) (ml dr)) hc2]; exact ih (i + 1) (by omega))
    · refine x_iload_n rfl rfl rfl ?_
      (rw [fp_t (P := fun i => alk M i dr (ml i) (ml dr)) hc2]; exact x_retI rfl rfl rfl (by omega) rfl rfl)
set_option maxHeartbeats 4000000 in
set_option maxRecDepth 20000 in
theorem c_placeOfDraft (hG : Gok G) (hd : 2 ≤ d) {dr : Nat} (hdr : dr < 13) (ml : Nat → Nat) (hml : ∀ i, i ≤ dr → M.1 (6, i) 1 = nI (ml i) ∧ ml i ≤ 3) : Ct G mX4_placeOfDraft d [.ref (ga G (1, 0)), .int (nI dr)] M (.inl (some (.int (nI (fp (fun i => alk M i dr (ml i) (ml dr)) 0 dr))))) M 0 := by
  refine ct_of hG okX4_placeOfDraft (by decide +kernel) rfl (Nat.le_of_ble_eq_true rfl) ?_
  refine x_iconstN (b := 0) rfl rfl ?_
  refine x_istore_n rfl rfl rfl rfl ?_
  exact l_placeOfDraft hG hd hdr ml hml dr 0 (by omega)
set_option maxHeartbeats 4000000 in
set_option maxRecDepth 20000 in
theorem c_traitsB (hG : Gok G) (hd : 6 ≤ d) (nm : Int64) (dy : Prop) (a b c : Int64) (h1 : isTx nm) (h2 : ¬ cbm a b c) : Ct G mX8_traits d [.ref (ga G (0, 0)), .long (nm), .int (bI (dy)), .long (a), .long (b), .long (c)] M (.inr "java/lang/IllegalArgumentException") M 1 := by
  refine ct_of hG okX8_traits (by decide +kernel) rfl (Nat.le_of_ble_eq_true rfl) ?_
  refine x_lload_n rfl rfl rfl ?_
  refine x_callSi (d2 := 0) (c_isText hG (nm)) rfl rfl s_8_101 rfl rfl (Nat.le_of_ble_eq_true rfl) (by omega) (by omega) ?_
  refine x_ifB_eq rfl rfl (fun hc1 => absurd h1 hc1) (fun hc1 => ?_)
  refine x_lload rfl rfl rfl ?_
  refine x_lload rfl rfl rfl ?_
  refine x_lload rfl rfl rfl ?_
  refine x_callSi (d2 := 1) (c_canBeMembers hG (Nat.le_refl 1) (a) (b) (c)) rfl rfl s_8_105 rfl rfl (Nat.le_of_ble_eq_true rfl) (by omega) (by omega) ?_
  refine x_ifB_ne rfl rfl (fun hc2 => absurd hc2 h2) (fun hc2 => ?_)
  exact x_throw rfl rfl rfl rfl rfl rfl rfl rfl th_8_89_91 (Nat.le_of_ble_eq_true rfl) (by omega) (by omega)
set_option maxHeartbeats 4000000 in
set_option maxRecDepth 20000 in
theorem c_traitsA (hG : Gok G) (hd : 6 ≤ d) (nm : Int64) (dy : Prop) (a b c : Int64) (h1 : ¬ isTx nm) : Ct G mX8_traits d [.ref (ga G (0, 0)), .long (nm), .int (bI (dy)), .long (a), .long (b), .long (c)] M (.inr "java/lang/IllegalArgumentException") M 1 := by
  refine ct_of hG okX8_traits (by decide +kernel) rfl (Nat.le_of_ble_eq_true rfl) ?_
  refine x_lload_n rfl rfl rfl ?_
  refine x_callSi (d2 := 0) (c_isText hG (nm)) rfl rfl s_8_101 rfl rfl (Nat.le_of_ble_eq_true rfl) (by omega) (by omega) ?_
  refine x_ifB_eq rfl rfl (fun hc1 => ?_) (fun hc1 => absurd hc1 h1)
  exact x_throw rfl rfl rfl rfl rfl rfl rfl rfl th_8_89_91 (Nat.le_of_ble_eq_true rfl) (by omega) (by omega)
set_option maxHeartbeats 4000000 in
set_option maxRecDepth 20000 in
theorem c_traits0O (hG : Gok G) (hd : 6 ≤ d) (nm : Int64) (dy : Prop)  (h1 : isTx nm) (h2 : cbm 0 0 0) {tn : Nat} (htn : M.1 (1, 0) 4 = nI tn) (htn2 : tn ≤ 12) (ml : Nat → Nat) (hml : ∀ i, i ≤ tn → (ui (ui (ul M (5, tn) 1 nm) (5, tn) 2 (bI (dy))) (6, tn) 1 (nI 0)).1 (6, i) 1 = nI (ml i) ∧ ml i ≤ 3) {p : Nat} (hp : fp (fun i => alk (ui (ui (ul M (5, tn) 1 nm) (5, tn) 2 (bI (dy))) (6, tn) 1 (nI 0)) i tn (ml i) (ml tn)) 0 tn = p) (hpt : p < tn) : Ct G mX8_traits d [.ref (ga G (0, 0)), .long (nm), .int (bI (dy)), .long (0), .long (0), .long (0)] M (.inl (some (.int (nI p)))) (ui (ui (ul M (5, tn) 1 nm) (5, tn) 2 (bI (dy))) (6, tn) 1 (nI 0)) 0 := by
  refine ct_of hG okX8_traits (by decide +kernel) rfl (Nat.le_of_ble_eq_true rfl) ?_
  refine x_lload_n rfl rfl rfl ?_
  refine x_callSi (d2 := 0) (c_isText hG (nm)) rfl rfl s_8_101 rfl rfl (Nat.le_of_ble_eq_true rfl) (by omega) (by omega) ?_
  refine x_ifB_eq rfl rfl (fun hc1 => absurd h1 hc1) (fun hc1 => ?_)
  refine x_lload rfl rfl rfl ?_
  refine x_lload rfl rfl rfl ?_
  refine x_lload rfl rfl rfl ?_
  refine x_callSi (d2 := 1) (c_canBeMembers hG (Nat.le_refl 1) (0) (0) (0)) rfl rfl s_8_105 rfl rfl (Nat.le_of_ble_eq_true rfl) (by omega) (by omega) ?_
  refine x_ifB_ne rfl rfl (fun hc2 => ?_) (fun hc2 => absurd h2 hc2)
  refine x_aload_n rfl rfl rfl ?_
  refine x_getR0 rfl rfl f_8_20 rfl (by decide) rfl rfl ?_
  refine x_getR0 rfl rfl f_8_109 rfl (by decide) rfl rfl ?_
  refine x_aload_n rfl rfl rfl ?_
  refine x_getR0 rfl rfl f_8_20 rfl (by decide) rfl rfl ?_
  refine x_getIv (v := nI tn) htn rfl rfl f_8_113 rfl (by decide) rfl ?_
  refine x_aaldi (a := tn) rfl rfl rfl (by decide) (by decide) (by omega) (by decide) rfl ?_
  refine x_astore rfl rfl rfl rfl ?_
  refine x_aload rfl rfl rfl ?_
  refine x_lload_n rfl rfl rfl ?_
  refine x_iload_n rfl rfl rfl ?_
  refine x_callVv (d2 := 1) (c_Tr_become hG (Nat.le_refl 1) (by omega) (nm) (dy)) rfl rfl v_8_116 rfl rfl (by show _ < 13; omega) rfl rfl (Nat.le_of_ble_eq_true rfl) (by omega) (by omega) ?_
  refine x_aload rfl rfl rfl ?_
  refine x_lload rfl rfl rfl ?_
  refine x_callSv (d2 := 0) (c_addMember0 hG (by omega)) rfl rfl s_8_122 rfl rfl (Nat.le_of_ble_eq_true rfl) (by omega) (by omega) ?_
  refine x_aload rfl rfl rfl ?_
  refine x_lload rfl rfl rfl ?_
  refine x_callSv (d2 := 0) (c_addMember0 hG (by omega)) rfl rfl s_8_122 rfl rfl (Nat.le_of_ble_eq_true rfl) (by omega) (by omega) ?_
  refine x_aload rfl rfl rfl ?_
  refine x_lload rfl rfl rfl ?_
  refine x_callSv (d2 := 0) (c_addMember0 hG (by omega)) rfl rfl s_8_122 rfl rfl (Nat.le_of_ble_eq_true rfl) (by omega) (by omega) ?_
  refine x_aload_n rfl rfl rfl ?_
  refine x_getR0 rfl rfl f_8_20 rfl (by decide) rfl rfl ?_
  refine x_aload_n rfl rfl rfl ?_
  refine x_getR0 rfl rfl f_8_20 rfl (by decide) rfl rfl ?_
  refine x_getIv (v := nI tn) (by first | exact htn | (rw [← htn]; rfl) | simp [ui, ul, htn]) rfl rfl f_8_113 rfl (by decide) rfl ?_
  refine x_callVi (d2 := 2) (c_placeOfDraft (dr := tn) (ml := ml) hG (Nat.le_refl 2) (by omega) (by exact hml)) rfl rfl v_8_126 rfl rfl (by decide) rfl rfl (Nat.le_of_ble_eq_true rfl) (by omega) (by omega) ?_
  refine x_topI (v := nI p) (by rw [hp]) ?_
  refine x_istore rfl rfl rfl rfl ?_
  refine x_iload rfl rfl rfl ?_
  refine x_bipush (v := nI 12) rfl rfl (by decide +kernel) ?_
  refine x_icmpN_ne (by omega) (by omega) rfl rfl (fun hc3 => ?_) (fun hc3 => absurd hc3 (by omega))
  refine x_iload rfl rfl rfl ?_
  refine x_aload_n rfl rfl rfl ?_
  refine x_getR0 rfl rfl f_8_20 rfl (by decide) rfl rfl ?_
  refine x_getIv (v := nI tn) (by first | exact htn | (rw [← htn]; rfl) | simp [ui, ul, htn]) rfl rfl f_8_113 rfl (by decide) rfl ?_
  refine x_icmpN_ne (by omega) (by omega) rfl rfl (fun hc4 => ?_) (fun hc4 => absurd hc4 (by omega))
  refine x_iload rfl rfl rfl ?_
  exact x_retI rfl rfl rfl (by omega) rfl rfl
set_option maxHeartbeats 4000000 in
set_option maxRecDepth 20000 in
theorem c_traits0N (hG : Gok G) (hd : 6 ≤ d) (nm : Int64) (dy : Prop)  (h1 : isTx nm) (h2 : cbm 0 0 0) {tn : Nat} (htn : M.1 (1, 0) 4 = nI tn) (htn2 : tn ≤ 12) (ml : Nat → Nat) (hml : ∀ i, i ≤ tn → (ui (ui (ul M (5, tn) 1 nm) (5, tn) 2 (bI (dy))) (6, tn) 1 (nI 0)).1 (6, i) 1 = nI (ml i) ∧ ml i ≤ 3) {p : Nat} (hp : fp (fun i => alk (ui (ui (ul M (5, tn) 1 nm) (5, tn) 2 (bI (dy))) (6, tn) 1 (nI 0)) i tn (ml i) (ml tn)) 0 tn = p) (hpt : p = tn) (htn3 : tn < 12) : Ct G mX8_traits d [.ref (ga G (0, 0)), .long (nm), .int (bI (dy)), .long (0), .long (0), .long (0)] M (.inl (some (.int (nI p)))) (ui (ui (ui (ul M (5, tn) 1 nm) (5, tn) 2 (bI (dy))) (6, tn) 1 (nI 0)) (1, 0) 4 (nI (tn + 1))) 0 := by
  refine ct_of hG okX8_traits (by decide +kernel) rfl (Nat.le_of_ble_eq_true rfl) ?_
  refine x_lload_n rfl rfl rfl ?_
  refine x_callSi (d2 := 0) (c_isText hG (nm)) rfl rfl s_8_101 rfl rfl (Nat.le_of_ble_eq_true rfl) (by omega) (by omega) ?_
  refine x_ifB_eq rfl rfl (fun hc1 => absurd h1 hc1) (fun hc1 => ?_)
  refine x_lload rfl rfl rfl ?_
  refine x_lload rfl rfl rfl ?_
  refine x_lload rfl rfl rfl ?_
  refine x_callSi (d2 := 1) (c_canBeMembers hG (Nat.le_refl 1) (0) (0) (0)) rfl rfl s_8_105 rfl rfl (Nat.le_of_ble_eq_true rfl) (by omega) (by omega) ?_
  refine x_ifB_ne rfl rfl (fun hc2 => ?_) (fun hc2 => absurd h2 hc2)
  refine x_aload_n rfl rfl rfl ?_
  refine x_getR0 rfl rfl f_8_20 rfl (by decide) rfl rfl ?_
  refine x_getR0 rfl rfl f_8_109 rfl (by decide) rfl rfl ?_
  refine x_aload_n rfl rfl rfl ?_
  refine x_getR0 rfl rfl f_8_20 rfl (by decide) rfl rfl ?_
  refine x_getIv (v := nI tn) htn rfl rfl f_8_113 rfl (by decide) rfl ?_
  refine x_aaldi (a := tn) rfl rfl rfl (by decide) (by decide) (by omega) (by decide) rfl ?_
  refine x_astore rfl rfl rfl rfl ?_
  refine x_aload rfl rfl rfl ?_
  refine x_lload_n rfl rfl rfl ?_
  refine x_iload_n rfl rfl rfl ?_
  refine x_callVv (d2 := 1) (c_Tr_become hG (Nat.le_refl 1) (by omega) (nm) (dy)) rfl rfl v_8_116 rfl rfl (by show _ < 13; omega) rfl rfl (Nat.le_of_ble_eq_true rfl) (by omega) (by omega) ?_
  refine x_aload rfl rfl rfl ?_
  refine x_lload rfl rfl rfl ?_
  refine x_callSv (d2 := 0) (c_addMember0 hG (by omega)) rfl rfl s_8_122 rfl rfl (Nat.le_of_ble_eq_true rfl) (by omega) (by omega) ?_
  refine x_aload rfl rfl rfl ?_
  refine x_lload rfl rfl rfl ?_
  refine x_callSv (d2 := 0) (c_addMember0 hG (by omega)) rfl rfl s_8_122 rfl rfl (Nat.le_of_ble_eq_true rfl) (by omega) (by omega) ?_
  refine x_aload rfl rfl rfl ?_
  refine x_lload rfl rfl rfl ?_
  refine x_callSv (d2 := 0) (c_addMember0 hG (by omega)) rfl rfl s_8_122 rfl rfl (Nat.le_of_ble_eq_true rfl) (by omega) (by omega) ?_
  refine x_aload_n rfl rfl rfl ?_
  refine x_getR0 rfl rfl f_8_20 rfl (by decide) rfl rfl ?_
  refine x_aload_n rfl rfl rfl ?_
  refine x_getR0 rfl rfl f_8_20 rfl (by decide) rfl rfl ?_
  refine x_getIv (v := nI tn) (by first | exact htn | (rw [← htn]; rfl) | simp [ui, ul, htn]) rfl rfl f_8_113 rfl (by decide) rfl ?_
  refine x_callVi (d2 := 2) (c_placeOfDraft (dr := tn) (ml := ml) hG (Nat.le_refl 2) (by omega) (by exact hml)) rfl rfl v_8_126 rfl rfl (by decide) rfl rfl (Nat.le_of_ble_eq_true rfl) (by omega) (by omega) ?_
  refine x_topI (v := nI p) (by rw [hp]) ?_
  refine x_istore rfl rfl rfl rfl ?_
  refine x_iload rfl rfl rfl ?_
  refine x_bipush (v := nI 12) rfl rfl (by decide +kernel) ?_
  refine x_icmpN_ne (by omega) (by omega) rfl rfl (fun hc3 => ?_) (fun hc3 => absurd hc3 (by omega))
  refine x_iload rfl rfl rfl ?_
  refine x_aload_n rfl rfl rfl ?_
  refine x_getR0 rfl rfl f_8_20 rfl (by decide) rfl rfl ?_
  refine x_getIv (v := nI tn) (by first | exact htn | (rw [← htn]; rfl) | simp [ui, ul, htn]) rfl rfl f_8_113 rfl (by decide) rfl ?_
  refine x_icmpN_ne (by omega) (by omega) rfl rfl (fun hc4 => absurd hpt hc4) (fun hc4 => ?_)
  refine x_aload_n rfl rfl rfl ?_
  refine x_getR0 rfl rfl f_8_20 rfl (by decide) rfl rfl ?_
  refine x_dup rfl rfl rfl ?_
  refine x_getIv (v := nI tn) (by first | exact htn | (rw [← htn]; rfl) | simp [ui, ul, htn]) rfl rfl f_8_113 rfl (by decide) rfl ?_
  refine x_iconstN (b := 1) rfl rfl ?_
  refine x_iaddN (a := tn) (b := 1) rfl rfl ?_
  refine x_putI rfl rfl f_8_113 rfl rfl (by decide) rfl ?_
  refine x_iload rfl rfl rfl ?_
  exact x_retI rfl rfl rfl (by omega) rfl rfl
set_option maxHeartbeats 4000000 in
set_option maxRecDepth 20000 in
theorem c_traits0X (hG : Gok G) (hd : 6 ≤ d) (nm : Int64) (dy : Prop)  (h1 : isTx nm) (h2 : cbm 0 0 0) {tn : Nat} (htn : M.1 (1, 0) 4 = nI tn) (htn2 : tn ≤ 12) (ml : Nat → Nat) (hml : ∀ i, i ≤ tn → (ui (ui (ul M (5, tn) 1 nm) (5, tn) 2 (bI (dy))) (6, tn) 1 (nI 0)).1 (6, i) 1 = nI (ml i) ∧ ml i ≤ 3) {p : Nat} (hp : fp (fun i => alk (ui (ui (ul M (5, tn) 1 nm) (5, tn) 2 (bI (dy))) (6, tn) 1 (nI 0)) i tn (ml i) (ml tn)) 0 tn = p) (hpt : p = 12) : Ct G mX8_traits d [.ref (ga G (0, 0)), .long (nm), .int (bI (dy)), .long (0), .long (0), .long (0)] M (.inr "java/lang/IllegalStateException") (ui (ui (ul M (5, tn) 1 nm) (5, tn) 2 (bI (dy))) (6, tn) 1 (nI 0)) 1 := by
  refine ct_of hG okX8_traits (by decide +kernel) rfl (Nat.le_of_ble_eq_true rfl) ?_
  refine x_lload_n rfl rfl rfl ?_
  refine x_callSi (d2 := 0) (c_isText hG (nm)) rfl rfl s_8_101 rfl rfl (Nat.le_of_ble_eq_true rfl) (by omega) (by omega) ?_
  refine x_ifB_eq rfl rfl (fun hc1 => absurd h1 hc1) (fun hc1 => ?_)
  refine x_lload rfl rfl rfl ?_
  refine x_lload rfl rfl rfl ?_
  refine x_lload rfl rfl rfl ?_
  refine x_callSi (d2 := 1) (c_canBeMembers hG (Nat.le_refl 1) (0) (0) (0)) rfl rfl s_8_105 rfl rfl (Nat.le_of_ble_eq_true rfl) (by omega) (by omega) ?_
  refine x_ifB_ne rfl rfl (fun hc2 => ?_) (fun hc2 => absurd h2 hc2)
  refine x_aload_n rfl rfl rfl ?_
  refine x_getR0 rfl rfl f_8_20 rfl (by decide) rfl rfl ?_
  refine x_getR0 rfl rfl f_8_109 rfl (by decide) rfl rfl ?_
  refine x_aload_n rfl rfl rfl ?_
  refine x_getR0 rfl rfl f_8_20 rfl (by decide) rfl rfl ?_
  refine x_getIv (v := nI tn) htn rfl rfl f_8_113 rfl (by decide) rfl ?_
  refine x_aaldi (a := tn) rfl rfl rfl (by decide) (by decide) (by omega) (by decide) rfl ?_
  refine x_astore rfl rfl rfl rfl ?_
  refine x_aload rfl rfl rfl ?_
  refine x_lload_n rfl rfl rfl ?_
  refine x_iload_n rfl rfl rfl ?_
  refine x_callVv (d2 := 1) (c_Tr_become hG (Nat.le_refl 1) (by omega) (nm) (dy)) rfl rfl v_8_116 rfl rfl (by show _ < 13; omega) rfl rfl (Nat.le_of_ble_eq_true rfl) (by omega) (by omega) ?_
  refine x_aload rfl rfl rfl ?_
  refine x_lload rfl rfl rfl ?_
  refine x_callSv (d2 := 0) (c_addMember0 hG (by omega)) rfl rfl s_8_122 rfl rfl (Nat.le_of_ble_eq_true rfl) (by omega) (by omega) ?_
  refine x_aload rfl rfl rfl ?_
  refine x_lload rfl rfl rfl ?_
  refine x_callSv (d2 := 0) (c_addMember0 hG (by omega)) rfl rfl s_8_122 rfl rfl (Nat.le_of_ble_eq_true rfl) (by omega) (by omega) ?_
  refine x_aload rfl rfl rfl ?_
  refine x_lload rfl rfl rfl ?_
  refine x_callSv (d2 := 0) (c_addMember0 hG (by omega)) rfl rfl s_8_122 rfl rfl (Nat.le_of_ble_eq_true rfl) (by omega) (by omega) ?_
  refine x_aload_n rfl rfl rfl ?_
  refine x_getR0 rfl rfl f_8_20 rfl (by decide) rfl rfl ?_
  refine x_aload_n rfl rfl rfl ?_
  refine x_getR0 rfl rfl f_8_20 rfl (by decide) rfl rfl ?_
  refine x_getIv (v := nI tn) (by first | exact htn | (rw [← htn]; rfl) | simp [ui, ul, htn]) rfl rfl f_8_113 rfl (by decide) rfl ?_
  refine x_callVi (d2 := 2) (c_placeOfDraft (dr := tn) (ml := ml) hG (Nat.le_refl 2) (by omega) (by exact hml)) rfl rfl v_8_126 rfl rfl (by decide) rfl rfl (Nat.le_of_ble_eq_true rfl) (by omega) (by omega) ?_
  refine x_topI (v := nI p) (by rw [hp]) ?_
  refine x_istore rfl rfl rfl rfl ?_
  refine x_iload rfl rfl rfl ?_
  refine x_bipush (v := nI 12) rfl rfl (by decide +kernel) ?_
  refine x_icmpN_ne (by omega) (by omega) rfl rfl (fun hc3 => absurd hpt hc3) (fun hc3 => ?_)
  exact x_throw rfl rfl rfl rfl rfl rfl rfl rfl th_8_61_63 (Nat.le_of_ble_eq_true rfl) (by omega) (by omega)
set_option maxHeartbeats 4000000 in
set_option maxRecDepth 20000 in
theorem c_traits1O (hG : Gok G) (hd : 6 ≤ d) (nm : Int64) (dy : Prop) (a : Int64) (ha0 : a ≠ 0) (h1 : isTx nm) (h2 : cbm a 0 0) {tn : Nat} (htn : M.1 (1, 0) 4 = nI tn) (htn2 : tn ≤ 12) (ml : Nat → Nat) (hml : ∀ i, i ≤ tn → (ui (ul (ui (ui (ul M (5, tn) 1 nm) (5, tn) 2 (bI (dy))) (6, tn) 1 (nI 0)) (7, tn) 0 a) (6, tn) 1 (nI 1)).1 (6, i) 1 = nI (ml i) ∧ ml i ≤ 3) {p : Nat} (hp : fp (fun i => alk (ui (ul (ui (ui (ul M (5, tn) 1 nm) (5, tn) 2 (bI (dy))) (6, tn) 1 (nI 0)) (7, tn) 0 a) (6, tn) 1 (nI 1)) i tn (ml i) (ml tn)) 0 tn = p) (hpt : p < tn) : Ct G mX8_traits d [.ref (ga G (0, 0)), .long (nm), .int (bI (dy)), .long (a), .long (0), .long (0)] M (.inl (some (.int (nI p)))) (ui (ul (ui (ui (ul M (5, tn) 1 nm) (5, tn) 2 (bI (dy))) (6, tn) 1 (nI 0)) (7, tn) 0 a) (6, tn) 1 (nI 1)) 0 := by
  refine ct_of hG okX8_traits (by decide +kernel) rfl (Nat.le_of_ble_eq_true rfl) ?_
  refine x_lload_n rfl rfl rfl ?_
  refine x_callSi (d2 := 0) (c_isText hG (nm)) rfl rfl s_8_101 rfl rfl (Nat.le_of_ble_eq_true rfl) (by omega) (by omega) ?_
  refine x_ifB_eq rfl rfl (fun hc1 => absurd h1 hc1) (fun hc1 => ?_)
  refine x_lload rfl rfl rfl ?_
  refine x_lload rfl rfl rfl ?_
  refine x_lload rfl rfl rfl ?_
  refine x_callSi (d2 := 1) (c_canBeMembers hG (Nat.le_refl 1) (a) (0) (0)) rfl rfl s_8_105 rfl rfl (Nat.le_of_ble_eq_true rfl) (by omega) (by omega) ?_
  refine x_ifB_ne rfl rfl (fun hc2 => ?_) (fun hc2 => absurd h2 hc2)
  refine x_aload_n rfl rfl rfl ?_
  refine x_getR0 rfl rfl f_8_20 rfl (by decide) rfl rfl ?_
  refine x_getR0 rfl rfl f_8_109 rfl (by decide) rfl rfl ?_
  refine x_aload_n rfl rfl rfl ?_
  refine x_getR0 rfl rfl f_8_20 rfl (by decide) rfl rfl ?_
  refine x_getIv (v := nI tn) htn rfl rfl f_8_113 rfl (by decide) rfl ?_
  refine x_aaldi (a := tn) rfl rfl rfl (by decide) (by decide) (by omega) (by decide) rfl ?_
  refine x_astore rfl rfl rfl rfl ?_
  refine x_aload rfl rfl rfl ?_
  refine x_lload_n rfl rfl rfl ?_
  refine x_iload_n rfl rfl rfl ?_
  refine x_callVv (d2 := 1) (c_Tr_become hG (Nat.le_refl 1) (by omega) (nm) (dy)) rfl rfl v_8_116 rfl rfl (by show _ < 13; omega) rfl rfl (Nat.le_of_ble_eq_true rfl) (by omega) (by omega) ?_
  refine x_aload rfl rfl rfl ?_
  refine x_lload rfl rfl rfl ?_
  refine x_callSv (d2 := 1) (c_addMember1 (m := 0) hG (Nat.le_refl 1) (by omega) (a) ha0 (by first | rfl | simp [ui, ul]) (by omega)) rfl rfl s_8_122 rfl rfl (Nat.le_of_ble_eq_true rfl) (by omega) (by omega) ?_
  refine x_aload rfl rfl rfl ?_
  refine x_lload rfl rfl rfl ?_
  refine x_callSv (d2 := 0) (c_addMember0 hG (by omega)) rfl rfl s_8_122 rfl rfl (Nat.le_of_ble_eq_true rfl) (by omega) (by omega) ?_
  refine x_aload rfl rfl rfl ?_
  refine x_lload rfl rfl rfl ?_
  refine x_callSv (d2 := 0) (c_addMember0 hG (by omega)) rfl rfl s_8_122 rfl rfl (Nat.le_of_ble_eq_true rfl) (by omega) (by omega) ?_
  refine x_aload_n rfl rfl rfl ?_
  refine x_getR0 rfl rfl f_8_20 rfl (by decide) rfl rfl ?_
  refine x_aload_n rfl rfl rfl ?_
  refine x_getR0 rfl rfl f_8_20 rfl (by decide) rfl rfl ?_
  refine x_getIv (v := nI tn) (by first | exact htn | (rw [← htn]; rfl) | simp [ui, ul, htn]) rfl rfl f_8_113 rfl (by decide) rfl ?_
  refine x_callVi (d2 := 2) (c_placeOfDraft (dr := tn) (ml := ml) hG (Nat.le_refl 2) (by omega) (by exact hml)) rfl rfl v_8_126 rfl rfl (by decide) rfl rfl (Nat.le_of_ble_eq_true rfl) (by omega) (by omega) ?_
  refine x_topI (v := nI p) (by rw [hp]) ?_
  refine x_istore rfl rfl rfl rfl ?_
  refine x_iload rfl rfl rfl ?_
  refine x_bipush (v := nI 12) rfl rfl (by decide +kernel) ?_
  refine x_icmpN_ne (by omega) (by omega) rfl rfl (fun hc3 => ?_) (fun hc3 => absurd hc3 (by omega))
  refine x_iload rfl rfl rfl ?_
  refine x_aload_n rfl rfl rfl ?_
  refine x_getR0 rfl rfl f_8_20 rfl (by decide) rfl rfl ?_
  refine x_getIv (v := nI tn) (by first | exact htn | (rw [← htn]; rfl) | simp [ui, ul, htn]) rfl rfl f_8_113 rfl (by decide) rfl ?_
  refine x_icmpN_ne (by omega) (by omega) rfl rfl (fun hc4 => ?_) (fun hc4 => absurd hc4 (by omega))
  refine x_iload rfl rfl rfl ?_
  exact x_retI rfl rfl rfl (by omega) rfl rfl
set_option maxHeartbeats 4000000 in
set_option maxRecDepth 20000 in
theorem c_traits1N (hG : Gok G) (hd : 6 ≤ d) (nm : Int64) (dy : Prop) (a : Int64) (ha0 : a ≠ 0) (h1 : isTx nm) (h2 : cbm a 0 0) {tn : Nat} (htn : M.1 (1, 0) 4 = nI tn) (htn2 : tn ≤ 12) (ml : Nat → Nat) (hml : ∀ i, i ≤ tn → (ui (ul (ui (ui (ul M (5, tn) 1 nm) (5, tn) 2 (bI (dy))) (6, tn) 1 (nI 0)) (7, tn) 0 a) (6, tn) 1 (nI 1)).1 (6, i) 1 = nI (ml i) ∧ ml i ≤ 3) {p : Nat} (hp : fp (fun i => alk (ui (ul (ui (ui (ul M (5, tn) 1 nm) (5, tn) 2 (bI (dy))) (6, tn) 1 (nI 0)) (7, tn) 0 a) (6, tn) 1 (nI 1)) i tn (ml i) (ml tn)) 0 tn = p) (hpt : p = tn) (htn3 : tn < 12) : Ct G mX8_traits d [.ref (ga G (0, 0)), .long (nm), .int (bI (dy)), .long (a), .long (0), .long (0)] M (.inl (some (.int (nI p)))) (ui (ui (ul (ui (ui (ul M (5, tn) 1 nm) (5, tn) 2 (bI (dy))) (6, tn) 1 (nI 0)) (7, tn) 0 a) (6, tn) 1 (nI 1)) (1, 0) 4 (nI (tn + 1))) 0 := by
  refine ct_of hG okX8_traits (by decide +kernel) rfl (Nat.le_of_ble_eq_true rfl) ?_
  refine x_lload_n rfl rfl rfl ?_
  refine x_callSi (d2 := 0) (c_isText hG (nm)) rfl rfl s_8_101 rfl rfl (Nat.le_of_ble_eq_true rfl) (by omega) (by omega) ?_
  refine x_ifB_eq rfl rfl (fun hc1 => absurd h1 hc1) (fun hc1 => ?_)
  refine x_lload rfl rfl rfl ?_
  refine x_lload rfl rfl rfl ?_
  refine x_lload rfl rfl rfl ?_
  refine x_callSi (d2 := 1) (c_canBeMembers hG (Nat.le_refl 1) (a) (0) (0)) rfl rfl s_8_105 rfl rfl (Nat.le_of_ble_eq_true rfl) (by omega) (by omega) ?_
  refine x_ifB_ne rfl rfl (fun hc2 => ?_) (fun hc2 => absurd h2 hc2)
  refine x_aload_n rfl rfl rfl ?_
  refine x_getR0 rfl rfl f_8_20 rfl (by decide) rfl rfl ?_
  refine x_getR0 rfl rfl f_8_109 rfl (by decide) rfl rfl ?_
  refine x_aload_n rfl rfl rfl ?_
  refine x_getR0 rfl rfl f_8_20 rfl (by decide) rfl rfl ?_
  refine x_getIv (v := nI tn) htn rfl rfl f_8_113 rfl (by decide) rfl ?_
  refine x_aaldi (a := tn) rfl rfl rfl (by decide) (by decide) (by omega) (by decide) rfl ?_
  refine x_astore rfl rfl rfl rfl ?_
  refine x_aload rfl rfl rfl ?_
  refine x_lload_n rfl rfl rfl ?_
  refine x_iload_n rfl rfl rfl ?_
  refine x_callVv (d2 := 1) (c_Tr_become hG (Nat.le_refl 1) (by omega) (nm) (dy)) rfl rfl v_8_116 rfl rfl (by show _ < 13; omega) rfl rfl (Nat.le_of_ble_eq_true rfl) (by omega) (by omega) ?_
  refine x_aload rfl rfl rfl ?_
  refine x_lload rfl rfl rfl ?_
  refine x_callSv (d2 := 1) (c_addMember1 (m := 0) hG (Nat.le_refl 1) (by omega) (a) ha0 (by first | rfl | simp [ui, ul]) (by omega)) rfl rfl s_8_122 rfl rfl (Nat.le_of_ble_eq_true rfl) (by omega) (by omega) ?_
  refine x_aload rfl rfl rfl ?_
  refine x_lload rfl rfl rfl ?_
  refine x_callSv (d2 := 0) (c_addMember0 hG (by omega)) rfl rfl s_8_122 rfl rfl (Nat.le_of_ble_eq_true rfl) (by omega) (by omega) ?_
  refine x_aload rfl rfl rfl ?_
  refine x_lload rfl rfl rfl ?_
  refine x_callSv (d2 := 0) (c_addMember0 hG (by omega)) rfl rfl s_8_122 rfl rfl (Nat.le_of_ble_eq_true rfl) (by omega) (by omega) ?_
  refine x_aload_n rfl rfl rfl ?_
  refine x_getR0 rfl rfl f_8_20 rfl (by decide) rfl rfl ?_
  refine x_aload_n rfl rfl rfl ?_
  refine x_getR0 rfl rfl f_8_20 rfl (by decide) rfl rfl ?_
  refine x_getIv (v := nI tn) (by first | exact htn | (rw [← htn]; rfl) | simp [ui, ul, htn]) rfl rfl f_8_113 rfl (by decide) rfl ?_
  refine x_callVi (d2 := 2) (c_placeOfDraft (dr := tn) (ml := ml) hG (Nat.le_refl 2) (by omega) (by exact hml)) rfl rfl v_8_126 rfl rfl (by decide) rfl rfl (Nat.le_of_ble_eq_true rfl) (by omega) (by omega) ?_
  refine x_topI (v := nI p) (by rw [hp]) ?_
  refine x_istore rfl rfl rfl rfl ?_
  refine x_iload rfl rfl rfl ?_
  refine x_bipush (v := nI 12) rfl rfl (by decide +kernel) ?_
  refine x_icmpN_ne (by omega) (by omega) rfl rfl (fun hc3 => ?_) (fun hc3 => absurd hc3 (by omega))
  refine x_iload rfl rfl rfl ?_
  refine x_aload_n rfl rfl rfl ?_
  refine x_getR0 rfl rfl f_8_20 rfl (by decide) rfl rfl ?_
  refine x_getIv (v := nI tn) (by first | exact htn | (rw [← htn]; rfl) | simp [ui, ul, htn]) rfl rfl f_8_113 rfl (by decide) rfl ?_
  refine x_icmpN_ne (by omega) (by omega) rfl rfl (fun hc4 => absurd hpt hc4) (fun hc4 => ?_)
  refine x_aload_n rfl rfl rfl ?_
  refine x_getR0 rfl rfl f_8_20 rfl (by decide) rfl rfl ?_
  refine x_dup rfl rfl rfl ?_
  refine x_getIv (v := nI tn) (by first | exact htn | (rw [← htn]; rfl) | simp [ui, ul, htn]) rfl rfl f_8_113 rfl (by decide) rfl ?_
  refine x_iconstN (b := 1) rfl rfl ?_
  refine x_iaddN (a := tn) (b := 1) rfl rfl ?_
  refine x_putI rfl rfl f_8_113 rfl rfl (by decide) rfl ?_
  refine x_iload rfl rfl rfl ?_
  exact x_retI rfl rfl rfl (by omega) rfl rfl
set_option maxHeartbeats 4000000 in
set_option maxRecDepth 20000 in
theorem c_traits1X (hG : Gok G) (hd : 6 ≤ d) (nm : Int64) (dy : Prop) (a : Int64) (ha0 : a ≠ 0) (h1 : isTx nm) (h2 : cbm a 0 0) {tn : Nat} (htn : M.1 (1, 0) 4 = nI tn) (htn2 : tn ≤ 12) (ml : Nat → Nat) (hml : ∀ i, i ≤ tn → (ui (ul (ui (ui (ul M (5, tn) 1 nm) (5, tn) 2 (bI (dy))) (6, tn) 1 (nI 0)) (7, tn) 0 a) (6, tn) 1 (nI 1)).1 (6, i) 1 = nI (ml i) ∧ ml i ≤ 3) {p : Nat} (hp : fp (fun i => alk (ui (ul (ui (ui (ul M (5, tn) 1 nm) (5, tn) 2 (bI (dy))) (6, tn) 1 (nI 0)) (7, tn) 0 a) (6, tn) 1 (nI 1)) i tn (ml i) (ml tn)) 0 tn = p) (hpt : p = 12) : Ct G mX8_traits d [.ref (ga G (0, 0)), .long (nm), .int (bI (dy)), .long (a), .long (0), .long (0)] M (.inr "java/lang/IllegalStateException") (ui (ul (ui (ui (ul M (5, tn) 1 nm) (5, tn) 2 (bI (dy))) (6, tn) 1 (nI 0)) (7, tn) 0 a) (6, tn) 1 (nI 1)) 1 := by
  refine ct_of hG okX8_traits (by decide +kernel) rfl (Nat.le_of_ble_eq_true rfl) ?_
  refine x_lload_n rfl rfl rfl ?_
  refine x_callSi (d2 := 0) (c_isText hG (nm)) rfl rfl s_8_101 rfl rfl (Nat.le_of_ble_eq_true rfl) (by omega) (by omega) ?_
  refine x_ifB_eq rfl rfl (fun hc1 => absurd h1 hc1) (fun hc1 => ?_)
  refine x_lload rfl rfl rfl ?_
  refine x_lload rfl rfl rfl ?_
  refine x_lload rfl rfl rfl ?_
  refine x_callSi (d2 := 1) (c_canBeMembers hG (Nat.le_refl 1) (a) (0) (0)) rfl rfl s_8_105 rfl rfl (Nat.le_of_ble_eq_true rfl) (by omega) (by omega) ?_
  refine x_ifB_ne rfl rfl (fun hc2 => ?_) (fun hc2 => absurd h2 hc2)
  refine x_aload_n rfl rfl rfl ?_
  refine x_getR0 rfl rfl f_8_20 rfl (by decide) rfl rfl ?_
  refine x_getR0 rfl rfl f_8_109 rfl (by decide) rfl rfl ?_
  refine x_aload_n rfl rfl rfl ?_
  refine x_getR0 rfl rfl f_8_20 rfl (by decide) rfl rfl ?_
  refine x_getIv (v := nI tn) htn rfl rfl f_8_113 rfl (by decide) rfl ?_
  refine x_aaldi (a := tn) rfl rfl rfl (by decide) (by decide) (by omega) (by decide) rfl ?_
  refine x_astore rfl rfl rfl rfl ?_
  refine x_aload rfl rfl rfl ?_
  refine x_lload_n rfl rfl rfl ?_
  refine x_iload_n rfl rfl rfl ?_
  refine x_callVv (d2 := 1) (c_Tr_become hG (Nat.le_refl 1) (by omega) (nm) (dy)) rfl rfl v_8_116 rfl rfl (by show _ < 13; omega) rfl rfl (Nat.le_of_ble_eq_true rfl) (by omega) (by omega) ?_
  refine x_aload rfl rfl rfl ?_
  refine x_lload rfl rfl rfl ?_
  refine x_callSv (d2 := 1) (c_addMember1 (m := 0) hG (Nat.le_refl 1) (by omega) (a) ha0 (by first | rfl | simp [ui, ul]) (by omega)) rfl rfl s_8_122 rfl rfl (Nat.le_of_ble_eq_true rfl) (by omega) (by omega) ?_
  refine x_aload rfl rfl rfl ?_
  refine x_lload rfl rfl rfl ?_
  refine x_callSv (d2 := 0) (c_addMember0 hG (by omega)) rfl rfl s_8_122 rfl rfl (Nat.le_of_ble_eq_true rfl) (by omega) (by omega) ?_
  refine x_aload rfl rfl rfl ?_
  refine x_lload rfl rfl rfl ?_
  refine x_callSv (d2 := 0) (c_addMember0 hG (by omega)) rfl rfl s_8_122 rfl rfl (Nat.le_of_ble_eq_true rfl) (by omega) (by omega) ?_
  refine x_aload_n rfl rfl rfl ?_
  refine x_getR0 rfl rfl f_8_20 rfl (by decide) rfl rfl ?_
  refine x_aload_n rfl rfl rfl ?_
  refine x_getR0 rfl rfl f_8_20 rfl (by decide) rfl rfl ?_
  refine x_getIv (v := nI tn) (by first | exact htn | (rw [← htn]; rfl) | simp [ui, ul, htn]) rfl rfl f_8_113 rfl (by decide) rfl ?_
  refine x_callVi (d2 := 2) (c_placeOfDraft (dr := tn) (ml := ml) hG (Nat.le_refl 2) (by omega) (by exact hml)) rfl rfl v_8_126 rfl rfl (by decide) rfl rfl (Nat.le_of_ble_eq_true rfl) (by omega) (by omega) ?_
  refine x_topI (v := nI p) (by rw [hp]) ?_
  refine x_istore rfl rfl rfl rfl ?_
  refine x_iload rfl rfl rfl ?_
  refine x_bipush (v := nI 12) rfl rfl (by decide +kernel) ?_
  refine x_icmpN_ne (by omega) (by omega) rfl rfl (fun hc3 => absurd hpt hc3) (fun hc3 => ?_)
  exact x_throw rfl rfl rfl rfl rfl rfl rfl rfl th_8_61_63 (Nat.le_of_ble_eq_true rfl) (by omega) (by omega)
set_option maxHeartbeats 4000000 in
set_option maxRecDepth 20000 in
theorem c_traits2O (hG : Gok G) (hd : 6 ≤ d) (nm : Int64) (dy : Prop) (a : Int64) (ha0 : a ≠ 0) (b : Int64) (hb0 : b ≠ 0) (h1 : isTx nm) (h2 : cbm a b 0) {tn : Nat} (htn : M.1 (1, 0) 4 = nI tn) (htn2 : tn ≤ 12) (ml : Nat → Nat) (hml : ∀ i, i ≤ tn → (ui (ul (ui (ul (ui (ui (ul M (5, tn) 1 nm) (5, tn) 2 (bI (dy))) (6, tn) 1 (nI 0)) (7, tn) 0 a) (6, tn) 1 (nI 1)) (7, tn) 1 b) (6, tn) 1 (nI 2)).1 (6, i) 1 = nI (ml i) ∧ ml i ≤ 3) {p : Nat} (hp : fp (fun i => alk (ui (ul (ui (ul (ui (ui (ul M (5, tn) 1 nm) (5, tn) 2 (bI (dy))) (6, tn) 1 (nI 0)) (7, tn) 0 a) (6, tn) 1 (nI 1)) (7, tn) 1 b) (6, tn) 1 (nI 2)) i tn (ml i) (ml tn)) 0 tn = p) (hpt : p < tn) : Ct G mX8_traits d [.ref (ga G (0, 0)), .long (nm), .int (bI (dy)), .long (a), .long (b), .long (0)] M (.inl (some (.int (nI p)))) (ui (ul (ui (ul (ui (ui (ul M (5, tn) 1 nm) (5, tn) 2 (bI (dy))) (6, tn) 1 (nI 0)) (7, tn) 0 a) (6, tn) 1 (nI 1)) (7, tn) 1 b) (6, tn) 1 (nI 2)) 0 := by
  refine ct_of hG okX8_traits (by decide +kernel) rfl (Nat.le_of_ble_eq_true rfl) ?_
  refine x_lload_n rfl rfl rfl ?_
  refine x_callSi (d2 := 0) (c_isText hG (nm)) rfl rfl s_8_101 rfl rfl (Nat.le_of_ble_eq_true rfl) (by omega) (by omega) ?_
  refine x_ifB_eq rfl rfl (fun hc1 => absurd h1 hc1) (fun hc1 => ?_)
  refine x_lload rfl rfl rfl ?_
  refine x_lload rfl rfl rfl ?_
  refine x_lload rfl rfl rfl ?_
  refine x_callSi (d2 := 1) (c_canBeMembers hG (Nat.le_refl 1) (a) (b) (0)) rfl rfl s_8_105 rfl rfl (Nat.le_of_ble_eq_true rfl) (by omega) (by omega) ?_
  refine x_ifB_ne rfl rfl (fun hc2 => ?_) (fun hc2 => absurd h2 hc2)
  refine x_aload_n rfl rfl rfl ?_
  refine x_getR0 rfl rfl f_8_20 rfl (by decide) rfl rfl ?_
  refine x_getR0 rfl rfl f_8_109 rfl (by decide) rfl rfl ?_
  refine x_aload_n rfl rfl rfl ?_
  refine x_getR0 rfl rfl f_8_20 rfl (by decide) rfl rfl ?_
  refine x_getIv (v := nI tn) htn rfl rfl f_8_113 rfl (by decide) rfl ?_
  refine x_aaldi (a := tn) rfl rfl rfl (by decide) (by decide) (by omega) (by decide) rfl ?_
  refine x_astore rfl rfl rfl rfl ?_
  refine x_aload rfl rfl rfl ?_
  refine x_lload_n rfl rfl rfl ?_
  refine x_iload_n rfl rfl rfl ?_
  refine x_callVv (d2 := 1) (c_Tr_become hG (Nat.le_refl 1) (by omega) (nm) (dy)) rfl rfl v_8_116 rfl rfl (by show _ < 13; omega) rfl rfl (Nat.le_of_ble_eq_true rfl) (by omega) (by omega) ?_
  refine x_aload rfl rfl rfl ?_
  refine x_lload rfl rfl rfl ?_
  refine x_callSv (d2 := 1) (c_addMember1 (m := 0) hG (Nat.le_refl 1) (by omega) (a) ha0 (by first | rfl | simp [ui, ul]) (by omega)) rfl rfl s_8_122 rfl rfl (Nat.le_of_ble_eq_true rfl) (by omega) (by omega) ?_
  refine x_aload rfl rfl rfl ?_
  refine x_lload rfl rfl rfl ?_
  refine x_callSv (d2 := 1) (c_addMember1 (m := 1) hG (Nat.le_refl 1) (by omega) (b) hb0 (by first | rfl | simp [ui, ul]) (by omega)) rfl rfl s_8_122 rfl rfl (Nat.le_of_ble_eq_true rfl) (by omega) (by omega) ?_
  refine x_aload rfl rfl rfl ?_
  refine x_lload rfl rfl rfl ?_
  refine x_callSv (d2 := 0) (c_addMember0 hG (by omega)) rfl rfl s_8_122 rfl rfl (Nat.le_of_ble_eq_true rfl) (by omega) (by omega) ?_
  refine x_aload_n rfl rfl rfl ?_
  refine x_getR0 rfl rfl f_8_20 rfl (by decide) rfl rfl ?_
  refine x_aload_n rfl rfl rfl ?_
  refine x_getR0 rfl rfl f_8_20 rfl (by decide) rfl rfl ?_
  refine x_getIv (v := nI tn) (by first | exact htn | (rw [← htn]; rfl) | simp [ui, ul, htn]) rfl rfl f_8_113 rfl (by decide) rfl ?_
  refine x_callVi (d2 := 2) (c_placeOfDraft (dr := tn) (ml := ml) hG (Nat.le_refl 2) (by omega) (by exact hml)) rfl rfl v_8_126 rfl rfl (by decide) rfl rfl (Nat.le_of_ble_eq_true rfl) (by omega) (by omega) ?_
  refine x_topI (v := nI p) (by rw [hp]) ?_
  refine x_istore rfl rfl rfl rfl ?_
  refine x_iload rfl rfl rfl ?_
  refine x_bipush (v := nI 12) rfl rfl (by decide +kernel) ?_
  refine x_icmpN_ne (by omega) (by omega) rfl rfl (fun hc3 => ?_) (fun hc3 => absurd hc3 (by omega))
  refine x_iload rfl rfl rfl ?_
  refine x_aload_n rfl rfl rfl ?_
  refine x_getR0 rfl rfl f_8_20 rfl (by decide) rfl rfl ?_
  refine x_getIv (v := nI tn) (by first | exact htn | (rw [← htn]; rfl) | simp [ui, ul, htn]) rfl rfl f_8_113 rfl (by decide) rfl ?_
  refine x_icmpN_ne (by omega) (by omega) rfl rfl (fun hc4 => ?_) (fun hc4 => absurd hc4 (by omega))
  refine x_iload rfl rfl rfl ?_
  exact x_retI rfl rfl rfl (by omega) rfl rfl
set_option maxHeartbeats 4000000 in
set_option maxRecDepth 20000 in
theorem c_traits2N (hG : Gok G) (hd : 6 ≤ d) (nm : Int64) (dy : Prop) (a : Int64) (ha0 : a ≠ 0) (b : Int64) (hb0 : b ≠ 0) (h1 : isTx nm) (h2 : cbm a b 0) {tn : Nat} (htn : M.1 (1, 0) 4 = nI tn) (htn2 : tn ≤ 12) (ml : Nat → Nat) (hml : ∀ i, i ≤ tn → (ui (ul (ui (ul (ui (ui (ul M (5, tn) 1 nm) (5, tn) 2 (bI (dy))) (6, tn) 1 (nI 0)) (7, tn) 0 a) (6, tn) 1 (nI 1)) (7, tn) 1 b) (6, tn) 1 (nI 2)).1 (6, i) 1 = nI (ml i) ∧ ml i ≤ 3) {p : Nat} (hp : fp (fun i => alk (ui (ul (ui (ul (ui (ui (ul M (5, tn) 1 nm) (5, tn) 2 (bI (dy))) (6, tn) 1 (nI 0)) (7, tn) 0 a) (6, tn) 1 (nI 1)) (7, tn) 1 b) (6, tn) 1 (nI 2)) i tn (ml i) (ml tn)) 0 tn = p) (hpt : p = tn) (htn3 : tn < 12) : Ct G mX8_traits d [.ref (ga G (0, 0)), .long (nm), .int (bI (dy)), .long (a), .long (b), .long (0)] M (.inl (some (.int (nI p)))) (ui (ui (ul (ui (ul (ui (ui (ul M (5, tn) 1 nm) (5, tn) 2 (bI (dy))) (6, tn) 1 (nI 0)) (7, tn) 0 a) (6, tn) 1 (nI 1)) (7, tn) 1 b) (6, tn) 1 (nI 2)) (1, 0) 4 (nI (tn + 1))) 0 := by
  refine ct_of hG okX8_traits (by decide +kernel) rfl (Nat.le_of_ble_eq_true rfl) ?_
  refine x_lload_n rfl rfl rfl ?_
  refine x_callSi (d2 := 0) (c_isText hG (nm)) rfl rfl s_8_101 rfl rfl (Nat.le_of_ble_eq_true rfl) (by omega) (by omega) ?_
  refine x_ifB_eq rfl rfl (fun hc1 => absurd h1 hc1) (fun hc1 => ?_)
  refine x_lload rfl rfl rfl ?_
  refine x_lload rfl rfl rfl ?_
  refine x_lload rfl rfl rfl ?_
  refine x_callSi (d2 := 1) (c_canBeMembers hG (Nat.le_refl 1) (a) (b) (0)) rfl rfl s_8_105 rfl rfl (Nat.le_of_ble_eq_true rfl) (by omega) (by omega) ?_
  refine x_ifB_ne rfl rfl (fun hc2 => ?_) (fun hc2 => absurd h2 hc2)
  refine x_aload_n rfl rfl rfl ?_
  refine x_getR0 rfl rfl f_8_20 rfl (by decide) rfl rfl ?_
  refine x_getR0 rfl rfl f_8_109 rfl (by decide) rfl rfl ?_
  refine x_aload_n rfl rfl rfl ?_
  refine x_getR0 rfl rfl f_8_20 rfl (by decide) rfl rfl ?_
  refine x_getIv (v := nI tn) htn rfl rfl f_8_113 rfl (by decide) rfl ?_
  refine x_aaldi (a := tn) rfl rfl rfl (by decide) (by decide) (by omega) (by decide) rfl ?_
  refine x_astore rfl rfl rfl rfl ?_
  refine x_aload rfl rfl rfl ?_
  refine x_lload_n rfl rfl rfl ?_
  refine x_iload_n rfl rfl rfl ?_
  refine x_callVv (d2 := 1) (c_Tr_become hG (Nat.le_refl 1) (by omega) (nm) (dy)) rfl rfl v_8_116 rfl rfl (by show _ < 13; omega) rfl rfl (Nat.le_of_ble_eq_true rfl) (by omega) (by omega) ?_
  refine x_aload rfl rfl rfl ?_
  refine x_lload rfl rfl rfl ?_
  refine x_callSv (d2 := 1) (c_addMember1 (m := 0) hG (Nat.le_refl 1) (by omega) (a) ha0 (by first | rfl | simp [ui, ul]) (by omega)) rfl rfl s_8_122 rfl rfl (Nat.le_of_ble_eq_true rfl) (by omega) (by omega) ?_
  refine x_aload rfl rfl rfl ?_
  refine x_lload rfl rfl rfl ?_
  refine x_callSv (d2 := 1) (c_addMember1 (m := 1) hG (Nat.le_refl 1) (by omega) (b) hb0 (by first | rfl | simp [ui, ul]) (by omega)) rfl rfl s_8_122 rfl rfl (Nat.le_of_ble_eq_true rfl) (by omega) (by omega) ?_
  refine x_aload rfl rfl rfl ?_
  refine x_lload rfl rfl rfl ?_
  refine x_callSv (d2 := 0) (c_addMember0 hG (by omega)) rfl rfl s_8_122 rfl rfl (Nat.le_of_ble_eq_true rfl) (by omega) (by omega) ?_
  refine x_aload_n rfl rfl rfl ?_
  refine x_getR0 rfl rfl f_8_20 rfl (by decide) rfl rfl ?_
  refine x_aload_n rfl rfl rfl ?_
  refine x_getR0 rfl rfl f_8_20 rfl (by decide) rfl rfl ?_
  refine x_getIv (v := nI tn) (by first | exact htn | (rw [← htn]; rfl) | simp [ui, ul, htn]) rfl rfl f_8_113 rfl (by decide) rfl ?_
  refine x_callVi (d2 := 2) (c_placeOfDraft (dr := tn) (ml := ml) hG (Nat.le_refl 2) (by omega) (by exact hml)) rfl rfl v_8_126 rfl rfl (by decide) rfl rfl (Nat.le_of_ble_eq_true rfl) (by omega) (by omega) ?_
  refine x_topI (v := nI p) (by rw [hp]) ?_
  refine x_istore rfl rfl rfl rfl ?_
  refine x_iload rfl rfl rfl ?_
  refine x_bipush (v := nI 12) rfl rfl (by decide +kernel) ?_
  refine x_icmpN_ne (by omega) (by omega) rfl rfl (fun hc3 => ?_) (fun hc3 => absurd hc3 (by omega))
  refine x_iload rfl rfl rfl ?_
  refine x_aload_n rfl rfl rfl ?_
  refine x_getR0 rfl rfl f_8_20 rfl (by decide) rfl rfl ?_
  refine x_getIv (v := nI tn) (by first | exact htn | (rw [← htn]; rfl) | simp [ui, ul, htn]) rfl rfl f_8_113 rfl (by decide) rfl ?_
  refine x_icmpN_ne (by omega) (by omega) rfl rfl (fun hc4 => absurd hpt hc4) (fun hc4 => ?_)
  refine x_aload_n rfl rfl rfl ?_
  refine x_getR0 rfl rfl f_8_20 rfl (by decide) rfl rfl ?_
  refine x_dup rfl rfl rfl ?_
  refine x_getIv (v := nI tn) (by first | exact htn | (rw [← htn]; rfl) | simp [ui, ul, htn]) rfl rfl f_8_113 rfl (by decide) rfl ?_
  refine x_iconstN (b := 1) rfl rfl ?_
  refine x_iaddN (a := tn) (b := 1) rfl rfl ?_
  refine x_putI rfl rfl f_8_113 rfl rfl (by decide) rfl ?_
  refine x_iload rfl rfl rfl ?_
  exact x_retI rfl rfl rfl (by omega) rfl rfl
set_option maxHeartbeats 4000000 in
set_option maxRecDepth 20000 in
theorem c_traits2X (hG : Gok G) (hd : 6 ≤ d) (nm : Int64) (dy : Prop) (a : Int64) (ha0 : a ≠ 0) (b : Int64) (hb0 : b ≠ 0) (h1 : isTx nm) (h2 : cbm a b 0) {tn : Nat} (htn : M.1 (1, 0) 4 = nI tn) (htn2 : tn ≤ 12) (ml : Nat → Nat) (hml : ∀ i, i ≤ tn → (ui (ul (ui (ul (ui (ui (ul M (5, tn) 1 nm) (5, tn) 2 (bI (dy))) (6, tn) 1 (nI 0)) (7, tn) 0 a) (6, tn) 1 (nI 1)) (7, tn) 1 b) (6, tn) 1 (nI 2)).1 (6, i) 1 = nI (ml i) ∧ ml i ≤ 3) {p : Nat} (hp : fp (fun i => alk (ui (ul (ui (ul (ui (ui (ul M (5, tn) 1 nm) (5, tn) 2 (bI (dy))) (6, tn) 1 (nI 0)) (7, tn) 0 a) (6, tn) 1 (nI 1)) (7, tn) 1 b) (6, tn) 1 (nI 2)) i tn (ml i) (ml tn)) 0 tn = p) (hpt : p = 12) : Ct G mX8_traits d [.ref (ga G (0, 0)), .long (nm), .int (bI (dy)), .long (a), .long (b), .long (0)] M (.inr "java/lang/IllegalStateException") (ui (ul (ui (ul (ui (ui (ul M (5, tn) 1 nm) (5, tn) 2 (bI (dy))) (6, tn) 1 (nI 0)) (7, tn) 0 a) (6, tn) 1 (nI 1)) (7, tn) 1 b) (6, tn) 1 (nI 2)) 1 := by
  refine ct_of hG okX8_traits (by decide +kernel) rfl (Nat.le_of_ble_eq_true rfl) ?_
  refine x_lload_n rfl rfl rfl ?_
  refine x_callSi (d2 := 0) (c_isText hG (nm)) rfl rfl s_8_101 rfl rfl (Nat.le_of_ble_eq_true rfl) (by omega) (by omega) ?_
  refine x_ifB_eq rfl rfl (fun hc1 => absurd h1 hc1) (fun hc1 => ?_)
  refine x_lload rfl rfl rfl ?_
  refine x_lload rfl rfl rfl ?_
  refine x_lload rfl rfl rfl ?_
  refine x_callSi (d2 := 1) (c_canBeMembers hG (Nat.le_refl 1) (a) (b) (0)) rfl rfl s_8_105 rfl rfl (Nat.le_of_ble_eq_true rfl) (by omega) (by omega) ?_
  refine x_ifB_ne rfl rfl (fun hc2 => ?_) (fun hc2 => absurd h2 hc2)
  refine x_aload_n rfl rfl rfl ?_
  refine x_getR0 rfl rfl f_8_20 rfl (by decide) rfl rfl ?_
  refine x_getR0 rfl rfl f_8_109 rfl (by decide) rfl rfl ?_
  refine x_aload_n rfl rfl rfl ?_
  refine x_getR0 rfl rfl f_8_20 rfl (by decide) rfl rfl ?_
  refine x_getIv (v := nI tn) htn rfl rfl f_8_113 rfl (by decide) rfl ?_
  refine x_aaldi (a := tn) rfl rfl rfl (by decide) (by decide) (by omega) (by decide) rfl ?_
  refine x_astore rfl rfl rfl rfl ?_
  refine x_aload rfl rfl rfl ?_
  refine x_lload_n rfl rfl rfl ?_
  refine x_iload_n rfl rfl rfl ?_
  refine x_callVv (d2 := 1) (c_Tr_become hG (Nat.le_refl 1) (by omega) (nm) (dy)) rfl rfl v_8_116 rfl rfl (by show _ < 13; omega) rfl rfl (Nat.le_of_ble_eq_true rfl) (by omega) (by omega) ?_
  refine x_aload rfl rfl rfl ?_
  refine x_lload rfl rfl rfl ?_
  refine x_callSv (d2 := 1) (c_addMember1 (m := 0) hG (Nat.le_refl 1) (by omega) (a) ha0 (by first | rfl | simp [ui, ul]) (by omega)) rfl rfl s_8_122 rfl rfl (Nat.le_of_ble_eq_true rfl) (by omega) (by omega) ?_
  refine x_aload rfl rfl rfl ?_
  refine x_lload rfl rfl rfl ?_
  refine x_callSv (d2 := 1) (c_addMember1 (m := 1) hG (Nat.le_refl 1) (by omega) (b) hb0 (by first | rfl | simp [ui, ul]) (by omega)) rfl rfl s_8_122 rfl rfl (Nat.le_of_ble_eq_true rfl) (by omega) (by omega) ?_
  refine x_aload rfl rfl rfl ?_
  refine x_lload rfl rfl rfl ?_
  refine x_callSv (d2 := 0) (c_addMember0 hG (by omega)) rfl rfl s_8_122 rfl rfl (Nat.le_of_ble_eq_true rfl) (by omega) (by omega) ?_
  refine x_aload_n rfl rfl rfl ?_
  refine x_getR0 rfl rfl f_8_20 rfl (by decide) rfl rfl ?_
  refine x_aload_n rfl rfl rfl ?_
  refine x_getR0 rfl rfl f_8_20 rfl (by decide) rfl rfl ?_
  refine x_getIv (v := nI tn) (by first | exact htn | (rw [← htn]; rfl) | simp [ui, ul, htn]) rfl rfl f_8_113 rfl (by decide) rfl ?_
  refine x_callVi (d2 := 2) (c_placeOfDraft (dr := tn) (ml := ml) hG (Nat.le_refl 2) (by omega) (by exact hml)) rfl rfl v_8_126 rfl rfl (by decide) rfl rfl (Nat.le_of_ble_eq_true rfl) (by omega) (by omega) ?_
  refine x_topI (v := nI p) (by rw [hp]) ?_
  refine x_istore rfl rfl rfl rfl ?_
  refine x_iload rfl rfl rfl ?_
  refine x_bipush (v := nI 12) rfl rfl (by decide +kernel) ?_
  refine x_icmpN_ne (by omega) (by omega) rfl rfl (fun hc3 => absurd hpt hc3) (fun hc3 => ?_)
  exact x_throw rfl rfl rfl rfl rfl rfl rfl rfl th_8_61_63 (Nat.le_of_ble_eq_true rfl) (by omega) (by omega)
set_option maxHeartbeats 4000000 in
set_option maxRecDepth 20000 in
theorem c_traits3O (hG : Gok G) (hd : 6 ≤ d) (nm : Int64) (dy : Prop) (a : Int64) (ha0 : a ≠ 0) (b : Int64) (hb0 : b ≠ 0) (c : Int64) (hc0 : c ≠ 0) (h1 : isTx nm) (h2 : cbm a b c) {tn : Nat} (htn : M.1 (1, 0) 4 = nI tn) (htn2 : tn ≤ 12) (ml : Nat → Nat) (hml : ∀ i, i ≤ tn → (ui (ul (ui (ul (ui (ul (ui (ui (ul M (5, tn) 1 nm) (5, tn) 2 (bI (dy))) (6, tn) 1 (nI 0)) (7, tn) 0 a) (6, tn) 1 (nI 1)) (7, tn) 1 b) (6, tn) 1 (nI 2)) (7, tn) 2 c) (6, tn) 1 (nI 3)).1 (6, i) 1 = nI (ml i) ∧ ml i ≤ 3) {p : Nat} (hp : fp (fun i => alk (ui (ul (ui (ul (ui (ul (ui (ui (ul M (5, tn) 1 nm) (5, tn) 2 (bI (dy))) (6, tn) 1 (nI 0)) (7, tn) 0 a) (6, tn) 1 (nI 1)) (7, tn) 1 b) (6, tn) 1 (nI 2)) (7, tn) 2 c) (6, tn) 1 (nI 3)) i tn (ml i) (ml tn)) 0 tn = p) (hpt : p < tn) : Ct G mX8_traits d [.ref (ga G (0, 0)), .long (nm), .int (bI (dy)), .long (a), .long (b), .long (c)] M (.inl (some (.int (nI p)))) (ui (ul (ui (ul (ui (ul (ui (ui (ul M (5, tn) 1 nm) (5, tn) 2 (bI (dy))) (6, tn) 1 (nI 0)) (7, tn) 0 a) (6, tn) 1 (nI 1)) (7, tn) 1 b) (6, tn) 1 (nI 2)) (7, tn) 2 c) (6, tn) 1 (nI 3)) 0 := by
  refine ct_of hG okX8_traits (by decide +kernel) rfl (Nat.le_of_ble_eq_true rfl) ?_
  refine x_lload_n rfl rfl rfl ?_
  refine x_callSi (d2 := 0) (c_isText hG (nm)) rfl rfl s_8_101 rfl rfl (Nat.le_of_ble_eq_true rfl) (by omega) (by omega) ?_
  refine x_ifB_eq rfl rfl (fun hc1 => absurd h1 hc1) (fun hc1 => ?_)
  refine x_lload rfl rfl rfl ?_
  refine x_lload rfl rfl rfl ?_
  refine x_lload rfl rfl rfl ?_
  refine x_callSi (d2 := 1) (c_canBeMembers hG (Nat.le_refl 1) (a) (b) (c)) rfl rfl s_8_105 rfl rfl (Nat.le_of_ble_eq_true rfl) (by omega) (by omega) ?_
  refine x_ifB_ne rfl rfl (fun hc2 => ?_) (fun hc2 => absurd h2 hc2)
  refine x_aload_n rfl rfl rfl ?_
  refine x_getR0 rfl rfl f_8_20 rfl (by decide) rfl rfl ?_
  refine x_getR0 rfl rfl f_8_109 rfl (by decide) rfl rfl ?_
  refine x_aload_n rfl rfl rfl ?_
  refine x_getR0 rfl rfl f_8_20 rfl (by decide) rfl rfl ?_
  refine x_getIv (v := nI tn) htn rfl rfl f_8_113 rfl (by decide) rfl ?_
  refine x_aaldi (a := tn) rfl rfl rfl (by decide) (by decide) (by omega) (by decide) rfl ?_
  refine x_astore rfl rfl rfl rfl ?_
  refine x_aload rfl rfl rfl ?_
  refine x_lload_n rfl rfl rfl ?_
  refine x_iload_n rfl rfl rfl ?_
  refine x_callVv (d2 := 1) (c_Tr_become hG (Nat.le_refl 1) (by omega) (nm) (dy)) rfl rfl v_8_116 rfl rfl (by show _ < 13; omega) rfl rfl (Nat.le_of_ble_eq_true rfl) (by omega) (by omega) ?_
  refine x_aload rfl rfl rfl ?_
  refine x_lload rfl rfl rfl ?_
  refine x_callSv (d2 := 1) (c_addMember1 (m := 0) hG (Nat.le_refl 1) (by omega) (a) ha0 (by first | rfl | simp [ui, ul]) (by omega)) rfl rfl s_8_122 rfl rfl (Nat.le_of_ble_eq_true rfl) (by omega) (by omega) ?_
  refine x_aload rfl rfl rfl ?_
  refine x_lload rfl rfl rfl ?_
  refine x_callSv (d2 := 1) (c_addMember1 (m := 1) hG (Nat.le_refl 1) (by omega) (b) hb0 (by first | rfl | simp [ui, ul]) (by omega)) rfl rfl s_8_122 rfl rfl (Nat.le_of_ble_eq_true rfl) (by omega) (by omega) ?_
  refine x_aload rfl rfl rfl ?_
  refine x_lload rfl rfl rfl ?_
  refine x_callSv (d2 := 1) (c_addMember1 (m := 2) hG (Nat.le_refl 1) (by omega) (c) hc0 (by first | rfl | simp [ui, ul]) (by omega)) rfl rfl s_8_122 rfl rfl (Nat.le_of_ble_eq_true rfl) (by omega) (by omega) ?_
  refine x_aload_n rfl rfl rfl ?_
  refine x_getR0 rfl rfl f_8_20 rfl (by decide) rfl rfl ?_
  refine x_aload_n rfl rfl rfl ?_
  refine x_getR0 rfl rfl f_8_20 rfl (by decide) rfl rfl ?_
  refine x_getIv (v := nI tn) (by first | exact htn | (rw [← htn]; rfl) | simp [ui, ul, htn]) rfl rfl f_8_113 rfl (by decide) rfl ?_
  refine x_callVi (d2 := 2) (c_placeOfDraft (dr := tn) (ml := ml) hG (Nat.le_refl 2) (by omega) (by exact hml)) rfl rfl v_8_126 rfl rfl (by decide) rfl rfl (Nat.le_of_ble_eq_true rfl) (by omega) (by omega) ?_
  refine x_topI (v := nI p) (by rw [hp]) ?_
  refine x_istore rfl rfl rfl rfl ?_
  refine x_iload rfl rfl rfl ?_
  refine x_bipush (v := nI 12) rfl rfl (by decide +kernel) ?_
  refine x_icmpN_ne (by omega) (by omega) rfl rfl (fun hc3 => ?_) (fun hc3 => absurd hc3 (by omega))
  refine x_iload rfl rfl rfl ?_
  refine x_aload_n rfl rfl rfl ?_
  refine x_getR0 rfl rfl f_8_20 rfl (by decide) rfl rfl ?_
  refine x_getIv (v := nI tn) (by first | exact htn | (rw [← htn]; rfl) | simp [ui, ul, htn]) rfl rfl f_8_113 rfl (by decide) rfl ?_
  refine x_icmpN_ne (by omega) (by omega) rfl rfl (fun hc4 => ?_) (fun hc4 => absurd hc4 (by omega))
  refine x_iload rfl rfl rfl ?_
  exact x_retI rfl rfl rfl (by omega) rfl rfl
set_option maxHeartbeats 4000000 in
set_option maxRecDepth 20000 in
theorem c_traits3N (hG : Gok G) (hd : 6 ≤ d) (nm : Int64) (dy : Prop) (a : Int64) (ha0 : a ≠ 0) (b : Int64) (hb0 : b ≠ 0) (c : Int64) (hc0 : c ≠ 0) (h1 : isTx nm) (h2 : cbm a b c) {tn : Nat} (htn : M.1 (1, 0) 4 = nI tn) (htn2 : tn ≤ 12) (ml : Nat → Nat) (hml : ∀ i, i ≤ tn → (ui (ul (ui (ul (ui (ul (ui (ui (ul M (5, tn) 1 nm) (5, tn) 2 (bI (dy))) (6, tn) 1 (nI 0)) (7, tn) 0 a) (6, tn) 1 (nI 1)) (7, tn) 1 b) (6, tn) 1 (nI 2)) (7, tn) 2 c) (6, tn) 1 (nI 3)).1 (6, i) 1 = nI (ml i) ∧ ml i ≤ 3) {p : Nat} (hp : fp (fun i => alk (ui (ul (ui (ul (ui (ul (ui (ui (ul M (5, tn) 1 nm) (5, tn) 2 (bI (dy))) (6, tn) 1 (nI 0)) (7, tn) 0 a) (6, tn) 1 (nI 1)) (7, tn) 1 b) (6, tn) 1 (nI 2)) (7, tn) 2 c) (6, tn) 1 (nI 3)) i tn (ml i) (ml tn)) 0 tn = p) (hpt : p = tn) (htn3 : tn < 12) : Ct G mX8_traits d [.ref (ga G (0, 0)), .long (nm), .int (bI (dy)), .long (a), .long (b), .long (c)] M (.inl (some (.int (nI p)))) (ui (ui (ul (ui (ul (ui (ul (ui (ui (ul M (5, tn) 1 nm) (5, tn) 2 (bI (dy))) (6, tn) 1 (nI 0)) (7, tn) 0 a) (6, tn) 1 (nI 1)) (7, tn) 1 b) (6, tn) 1 (nI 2)) (7, tn) 2 c) (6, tn) 1 (nI 3)) (1, 0) 4 (nI (tn + 1))) 0 := by
  refine ct_of hG okX8_traits (by decide +kernel) rfl (Nat.le_of_ble_eq_true rfl) ?_
  refine x_lload_n rfl rfl rfl ?_
  refine x_callSi (d2 := 0) (c_isText hG (nm)) rfl rfl s_8_101 rfl rfl (Nat.le_of_ble_eq_true rfl) (by omega) (by omega) ?_
  refine x_ifB_eq rfl rfl (fun hc1 => absurd h1 hc1) (fun hc1 => ?_)
  refine x_lload rfl rfl rfl ?_
  refine x_lload rfl rfl rfl ?_
  refine x_lload rfl rfl rfl ?_
  refine x_callSi (d2 := 1) (c_canBeMembers hG (Nat.le_refl 1) (a) (b) (c)) rfl rfl s_8_105 rfl rfl (Nat.le_of_ble_eq_true rfl) (by omega) (by omega) ?_
  refine x_ifB_ne rfl rfl (fun hc2 => ?_) (fun hc2 => absurd h2 hc2)
  refine x_aload_n rfl rfl rfl ?_
  refine x_getR0 rfl rfl f_8_20 rfl (by decide) rfl rfl ?_
  refine x_getR0 rfl rfl f_8_109 rfl (by decide) rfl rfl ?_
  refine x_aload_n rfl rfl rfl ?_
  refine x_getR0 rfl rfl f_8_20 rfl (by decide) rfl rfl ?_
  refine x_getIv (v := nI tn) htn rfl rfl f_8_113 rfl (by decide) rfl ?_
  refine x_aaldi (a := tn) rfl rfl rfl (by decide) (by decide) (by omega) (by decide) rfl ?_
  refine x_astore rfl rfl rfl rfl ?_
  refine x_aload rfl rfl rfl ?_
  refine x_lload_n rfl rfl rfl ?_
  refine x_iload_n rfl rfl rfl ?_
  refine x_callVv (d2 := 1) (c_Tr_become hG (Nat.le_refl 1) (by omega) (nm) (dy)) rfl rfl v_8_116 rfl rfl (by show _ < 13; omega) rfl rfl (Nat.le_of_ble_eq_true rfl) (by omega) (by omega) ?_
  refine x_aload rfl rfl rfl ?_
  refine x_lload rfl rfl rfl ?_
  refine x_callSv (d2 := 1) (c_addMember1 (m := 0) hG (Nat.le_refl 1) (by omega) (a) ha0 (by first | rfl | simp [ui, ul]) (by omega)) rfl rfl s_8_122 rfl rfl (Nat.le_of_ble_eq_true rfl) (by omega) (by omega) ?_
  refine x_aload rfl rfl rfl ?_
  refine x_lload rfl rfl rfl ?_
  refine x_callSv (d2 := 1) (c_addMember1 (m := 1) hG (Nat.le_refl 1) (by omega) (b) hb0 (by first | rfl | simp [ui, ul]) (by omega)) rfl rfl s_8_122 rfl rfl (Nat.le_of_ble_eq_true rfl) (by omega) (by omega) ?_
  refine x_aload rfl rfl rfl ?_
  refine x_lload rfl rfl rfl ?_
  refine x_callSv (d2 := 1) (c_addMember1 (m := 2) hG (Nat.le_refl 1) (by omega) (c) hc0 (by first | rfl | simp [ui, ul]) (by omega)) rfl rfl s_8_122 rfl rfl (Nat.le_of_ble_eq_true rfl) (by omega) (by omega) ?_
  refine x_aload_n rfl rfl rfl ?_
  refine x_getR0 rfl rfl f_8_20 rfl (by decide) rfl rfl ?_
  refine x_aload_n rfl rfl rfl ?_
  refine x_getR0 rfl rfl f_8_20 rfl (by decide) rfl rfl ?_
  refine x_getIv (v := nI tn) (by first | exact htn | (rw [← htn]; rfl) | simp [ui, ul, htn]) rfl rfl f_8_113 rfl (by decide) rfl ?_
  refine x_callVi (d2 := 2) (c_placeOfDraft (dr := tn) (ml := ml) hG (Nat.le_refl 2) (by omega) (by exact hml)) rfl rfl v_8_126 rfl rfl (by decide) rfl rfl (Nat.le_of_ble_eq_true rfl) (by omega) (by omega) ?_
  refine x_topI (v := nI p) (by rw [hp]) ?_
  refine x_istore rfl rfl rfl rfl ?_
  refine x_iload rfl rfl rfl ?_
  refine x_bipush (v := nI 12) rfl rfl (by decide +kernel) ?_
  refine x_icmpN_ne (by omega) (by omega) rfl rfl (fun hc3 => ?_) (fun hc3 => absurd hc3 (by omega))
  refine x_iload rfl rfl rfl ?_
  refine x_aload_n rfl rfl rfl ?_
  refine x_getR0 rfl rfl f_8_20 rfl (by decide) rfl rfl ?_
  refine x_getIv (v := nI tn) (by first | exact htn | (rw [← htn]; rfl) | simp [ui, ul, htn]) rfl rfl f_8_113 rfl (by decide) rfl ?_
  refine x_icmpN_ne (by omega) (by omega) rfl rfl (fun hc4 => absurd hpt hc4) (fun hc4 => ?_)
  refine x_aload_n rfl rfl rfl ?_
  refine x_getR0 rfl rfl f_8_20 rfl (by decide) rfl rfl ?_
  refine x_dup rfl rfl rfl ?_
  refine x_getIv (v := nI tn) (by first | exact htn | (rw [← htn]; rfl) | simp [ui, ul, htn]) rfl rfl f_8_113 rfl (by decide) rfl ?_
  refine x_iconstN (b := 1) rfl rfl ?_
  refine x_iaddN (a := tn) (b := 1) rfl rfl ?_
  refine x_putI rfl rfl f_8_113 rfl rfl (by decide) rfl ?_
  refine x_iload rfl rfl rfl ?_
  exact x_retI rfl rfl rfl (by omega) rfl rfl
set_option maxHeartbeats 4000000 in
set_option maxRecDepth 20000 in
theorem c_traits3X (hG : Gok G) (hd : 6 ≤ d) (nm : Int64) (dy : Prop) (a : Int64) (ha0 : a ≠ 0) (b : Int64) (hb0 : b ≠ 0) (c : Int64) (hc0 : c ≠ 0) (h1 : isTx nm) (h2 : cbm a b c) {tn : Nat} (htn : M.1 (1, 0) 4 = nI tn) (htn2 : tn ≤ 12) (ml : Nat → Nat) (hml : ∀ i, i ≤ tn → (ui (ul (ui (ul (ui (ul (ui (ui (ul M (5, tn) 1 nm) (5, tn) 2 (bI (dy))) (6, tn) 1 (nI 0)) (7, tn) 0 a) (6, tn) 1 (nI 1)) (7, tn) 1 b) (6, tn) 1 (nI 2)) (7, tn) 2 c) (6, tn) 1 (nI 3)).1 (6, i) 1 = nI (ml i) ∧ ml i ≤ 3) {p : Nat} (hp : fp (fun i => alk (ui (ul (ui (ul (ui (ul (ui (ui (ul M (5, tn) 1 nm) (5, tn) 2 (bI (dy))) (6, tn) 1 (nI 0)) (7, tn) 0 a) (6, tn) 1 (nI 1)) (7, tn) 1 b) (6, tn) 1 (nI 2)) (7, tn) 2 c) (6, tn) 1 (nI 3)) i tn (ml i) (ml tn)) 0 tn = p) (hpt : p = 12) : Ct G mX8_traits d [.ref (ga G (0, 0)), .long (nm), .int (bI (dy)), .long (a), .long (b), .long (c)] M (.inr "java/lang/IllegalStateException") (ui (ul (ui (ul (ui (ul (ui (ui (ul M (5, tn) 1 nm) (5, tn) 2 (bI (dy))) (6, tn) 1 (nI 0)) (7, tn) 0 a) (6, tn) 1 (nI 1)) (7, tn) 1 b) (6, tn) 1 (nI 2)) (7, tn) 2 c) (6, tn) 1 (nI 3)) 1 := by
  refine ct_of hG okX8_traits (by decide +kernel) rfl (Nat.le_of_ble_eq_true rfl) ?_
  refine x_lload_n rfl rfl rfl ?_
  refine x_callSi (d2 := 0) (c_isText hG (nm)) rfl rfl s_8_101 rfl rfl (Nat.le_of_ble_eq_true rfl) (by omega) (by omega) ?_
  refine x_ifB_eq rfl rfl (fun hc1 => absurd h1 hc1) (fun hc1 => ?_)
  refine x_lload rfl rfl rfl ?_
  refine x_lload rfl rfl rfl ?_
  refine x_lload rfl rfl rfl ?_
  refine x_callSi (d2 := 1) (c_canBeMembers hG (Nat.le_refl 1) (a) (b) (c)) rfl rfl s_8_105 rfl rfl (Nat.le_of_ble_eq_true rfl) (by omega) (by omega) ?_
  refine x_ifB_ne rfl rfl (fun hc2 => ?_) (fun hc2 => absurd h2 hc2)
  refine x_aload_n rfl rfl rfl ?_
  refine x_getR0 rfl rfl f_8_20 rfl (by decide) rfl rfl ?_
  refine x_getR0 rfl rfl f_8_109 rfl (by decide) rfl rfl ?_
  refine x_aload_n rfl rfl rfl ?_
  refine x_getR0 rfl rfl f_8_20 rfl (by decide) rfl rfl ?_
  refine x_getIv (v := nI tn) htn rfl rfl f_8_113 rfl (by decide) rfl ?_
  refine x_aaldi (a := tn) rfl rfl rfl (by decide) (by decide) (by omega) (by decide) rfl ?_
  refine x_astore rfl rfl rfl rfl ?_
  refine x_aload rfl rfl rfl ?_
  refine x_lload_n rfl rfl rfl ?_
  refine x_iload_n rfl rfl rfl ?_
  refine x_callVv (d2 := 1) (c_Tr_become hG (Nat.le_refl 1) (by omega) (nm) (dy)) rfl rfl v_8_116 rfl rfl (by show _ < 13; omega) rfl rfl (Nat.le_of_ble_eq_true rfl) (by omega) (by omega) ?_
  refine x_aload rfl rfl rfl ?_
  refine x_lload rfl rfl rfl ?_
  refine x_callSv (d2 := 1) (c_addMember1 (m := 0) hG (Nat.le_refl 1) (by omega) (a) ha0 (by first | rfl | simp [ui, ul]) (by omega)) rfl rfl s_8_122 rfl rfl (Nat.le_of_ble_eq_true rfl) (by omega) (by omega) ?_
  refine x_aload rfl rfl rfl ?_
  refine x_lload rfl rfl rfl ?_
  refine x_callSv (d2 := 1) (c_addMember1 (m := 1) hG (Nat.le_refl 1) (by omega) (b) hb0 (by first | rfl | simp [ui, ul]) (by omega)) rfl rfl s_8_122 rfl rfl (Nat.le_of_ble_eq_true rfl) (by omega) (by omega) ?_
  refine x_aload rfl rfl rfl ?_
  refine x_lload rfl rfl rfl ?_
  refine x_callSv (d2 := 1) (c_addMember1 (m := 2) hG (Nat.le_refl 1) (by omega) (c) hc0 (by first | rfl | simp [ui, ul]) (by omega)) rfl rfl s_8_122 rfl rfl (Nat.le_of_ble_eq_true rfl) (by omega) (by omega) ?_
  refine x_aload_n rfl rfl rfl ?_
  refine x_getR0 rfl rfl f_8_20 rfl (by decide) rfl rfl ?_
  refine x_aload_n rfl rfl rfl ?_
  refine x_getR0 rfl rfl f_8_20 rfl (by decide) rfl rfl ?_
  refine x_getIv (v := nI tn) (by first | exact htn | (rw [← htn]; rfl) | simp [ui, ul, htn]) rfl rfl f_8_113 rfl (by decide) rfl ?_
  refine x_callVi (d2 := 2) (c_placeOfDraft (dr := tn) (ml := ml) hG (Nat.le_refl 2) (by omega) (by exact hml)) rfl rfl v_8_126 rfl rfl (by decide) rfl rfl (Nat.le_of_ble_eq_true rfl) (by omega) (by omega) ?_
  refine x_topI (v := nI p) (by rw [hp]) ?_
  refine x_istore rfl rfl rfl rfl ?_
  refine x_iload rfl rfl rfl ?_
  refine x_bipush (v := nI 12) rfl rfl (by decide +kernel) ?_
  refine x_icmpN_ne (by omega) (by omega) rfl rfl (fun hc3 => absurd hpt hc3) (fun hc3 => ?_)
  exact x_throw rfl rfl rfl rfl rfl rfl rfl rfl th_8_61_63 (Nat.le_of_ble_eq_true rfl) (by omega) (by omega)
def mal (M : Mm) (nm : Int64) (dv : Int32) (m : Nat) (a b c : Int64) (t : Nat) : Prop := M.2 (42, 0) t = nm ∧ M.1 (43, 0) t = dv ∧ M.1 (44, 0) t = nI m ∧ (m < 1 ∨ M.2 (45, 0) (3 * t) = a) ∧ (m < 2 ∨ M.2 (45, 0) ((3 * t) + 1) = b) ∧ (m < 3 ∨ M.2 (45, 0) ((3 * t) + 2) = c)
set_option maxHeartbeats 4000000 in
theorem l_malike (nm : Int64) (dy : Prop) {m : Nat} (hm : m ≤ 3) (a b c : Int64) {tn : Nat} (htn : M.1 (40, 0) 3 = nI tn) (htn2 : tn ≤ 12) : ∀ (n k : Nat) (r : Option Nat), k + n = tn → Fr G mX9_alike d 0 (Zm G (.inl (some (.int (ixv (lxP (mal M nm (bI dy) m a b c) r k n))))) M 0) 0 6 [(0, .ref (ga G (40, 0))), (1, .long (nm)), (3, .int (bI (dy))), (4, .int (nI m)), (5, .long (a)), (7, .long (b)), (9, .long (c)), (11, .int (ixv r)), (12, .int (nI k))] [] M := by
  intro n
  induction n with
  | zero =>
    intro k r hk
    refine x_iload rfl rfl rfl ?_
    refine x_aload_n rfl rfl rfl ?_
    refine x_getIv (v := nI tn) htn rfl rfl f_9_142 rfl (by decide) rfl ?_
    refine x_icmpN_ge (by omega) (by omega) rfl rfl (fun hc1 => ?_) (fun hc1 => absurd hc1 (by omega))
    refine x_iload rfl rfl rfl ?_
    exact x_retI rfl rfl rfl (by omega) rfl rfl
  | succ n ih =>
    intro k r hk
    refine x_iload rfl rfl rfl ?_
    refine x_aload_n rfl rfl rfl ?_
    refine x_getIv (v := nI tn) htn rfl rfl f_9_142 rfl (by decide) rfl ?_
    refine x_icmpN_ge (by omega) (by omega) rfl rfl (fun hc1 => absurd hc1 (by omega)) (fun hc1 => ?_)
    refine x_aload_n rfl rfl rfl ?_
    refine x_getR0 rfl rfl f_9_13 rfl (by decide) rfl rfl ?_
    refine x_iload rfl rfl rfl ?_
    refine x_lald (a := k) rfl rfl rfl (by decide) (by omega) (by decide) ?_
    refine x_lload_n rfl rfl rfl ?_
    refine x_lc_ne rfl rfl rfl rfl (fun hc2 => ?_) (fun hc2 => ?_)
    · refine x_iconstN (b := 0) rfl rfl ?_
      refine x_istore rfl rfl rfl rfl ?_
      refine x_iload rfl rfl rfl ?_
      refine x_if_eq rfl rfl (fun _ => ?_) (fun hc3 => absurd hc3 (by decide +kernel))
      refine x_iconstN (b := 0) rfl rfl ?_
      refine x_istore rfl rfl rfl rfl ?_
      refine x_iload rfl rfl rfl ?_
      refine x_if_eq rfl rfl (fun _ => ?_) (fun hc4 => absurd hc4 (by decide +kernel))
      refine x_iload rfl rfl rfl ?_
      refine x_istore rfl rfl rfl rfl ?_
      refine x_iincN (a := k) (b := 1) rfl rfl rfl rfl rfl ?_
      refine x_goto rfl rfl ?_
      refine x_pick [0, 1, 2, 3, 4, 5, 6, 7, 8] rfl ?_
      (have hz := ih (k + 1) r (by omega); rw [lxP_f (show ¬ mal M nm (bI dy) m a b c k from by unfold mal; intro hz9; simp_all <;> omega)]; exact hz)
    · refine x_aload_n rfl rfl rfl ?_
      refine x_getR0 rfl rfl f_9_16 rfl (by decide) rfl rfl ?_
      refine x_iload rfl rfl rfl ?_
      refine x_zald (a := k) rfl rfl rfl (by decide) (by omega) (by decide) ?_
      refine x_iload_n rfl rfl rfl ?_
      refine x_icmp_ne rfl rfl (fun hc5 => ?_) (fun hc5 => ?_)
      · refine x_iconstN (b := 0) rfl rfl ?_
        refine x_istore rfl rfl rfl rfl ?_
        refine x_iload rfl rfl rfl ?_
        refine x_if_eq rfl rfl (fun _ => ?_) (fun hc6 => absurd hc6 (by decide +kernel))
        refine x_iconstN (b := 0) rfl rfl ?_
        refine x_istore rfl rfl rfl rfl ?_
        refine x_iload rfl rfl rfl ?_
        refine x_if_eq rfl rfl (fun _ => ?_) (fun hc7 => absurd hc7 (by decide +kernel))
        refine x_iload rfl rfl rfl ?_
        refine x_istore rfl rfl rfl rfl ?_
        refine x_iincN (a := k) (b := 1) rfl rfl rfl rfl rfl ?_
        refine x_goto rfl rfl ?_
        refine x_pick [0, 1, 2, 3, 4, 5, 6, 7, 8] rfl ?_
        (have hz := ih (k + 1) r (by omega); rw [lxP_f (show ¬ mal M nm (bI dy) m a b c k from by unfold mal; intro hz9; simp_all <;> omega)]; exact hz)
      · refine x_aload_n rfl rfl rfl ?_
        refine x_getR0 rfl rfl f_9_20 rfl (by decide) rfl rfl ?_
        refine x_iload rfl rfl rfl ?_
        refine x_iald (a := k) rfl rfl rfl (by decide) (by omega) (by decide) ?_
        refine x_iload rfl rfl rfl ?_
        refine x_icmp_ne rfl rfl (fun hc8 => ?_) (fun hc8 => ?_)
        · refine x_iconstN (b := 0) rfl rfl ?_
          refine x_istore rfl rfl rfl rfl ?_
          refine x_iload rfl rfl rfl ?_
          refine x_if_eq rfl rfl (fun _ => ?_) (fun hc9 => absurd hc9 (by decide +kernel))
          refine x_iconstN (b := 0) rfl rfl ?_
          refine x_istore rfl rfl rfl rfl ?_
          refine x_iload rfl rfl rfl ?_
          refine x_if_eq rfl rfl (fun _ => ?_) (fun hc10 => absurd hc10 (by decide +kernel))
          refine x_iload rfl rfl rfl ?_
          refine x_istore rfl rfl rfl rfl ?_
          refine x_iincN (a := k) (b := 1) rfl rfl rfl rfl rfl ?_
          refine x_goto rfl rfl ?_
          refine x_pick [0, 1, 2, 3, 4, 5, 6, 7, 8] rfl ?_
          (have hz := ih (k + 1) r (by omega); rw [lxP_f (show ¬ mal M nm (bI dy) m a b c k from by unfold mal; intro hz9; simp_all <;> omega)]; exact hz)
        · refine x_iconstN (b := 1) rfl rfl ?_
          refine x_goto rfl rfl ?_
          refine x_istore rfl rfl rfl rfl ?_
          refine x_iload rfl rfl rfl ?_
          refine x_if_eq rfl rfl (fun hc11 => absurd hc11 (by decide +kernel)) (fun _ => ?_)
          refine x_iload rfl rfl rfl ?_
          refine x_iconstN (b := 1) rfl rfl ?_
          refine x_icmpN_lt (by omega) (by omega) rfl rfl (fun hc12 => ?_) (fun hc12 => ?_)
          · refine x_iload rfl rfl rfl ?_
            refine x_iconstN (b := 2) rfl rfl ?_
            refine x_icmpN_lt (by omega) (by omega) rfl rfl (fun hc13 => ?_) (fun hc13 => ?_)
            · refine x_iload rfl rfl rfl ?_
              refine x_iconstN (b := 3) rfl rfl ?_
              refine x_icmpN_lt (by omega) (by omega) rfl rfl (fun hc14 => ?_) (fun hc14 => ?_)
              · refine x_iconstN (b := 1) rfl rfl ?_
                refine x_goto rfl rfl ?_
                refine x_istore rfl rfl rfl rfl ?_
                refine x_iload rfl rfl rfl ?_
                refine x_if_eq rfl rfl (fun hc15 => absurd hc15 (by decide +kernel)) (fun _ => ?_)
                refine x_iload rfl rfl rfl ?_
                refine x_goto rfl rfl ?_
                refine x_istore rfl rfl rfl rfl ?_
                refine x_iincN (a := k) (b := 1) rfl rfl rfl rfl rfl ?_
                refine x_goto rfl rfl ?_
                refine x_pick [0, 1, 2, 3, 4, 5, 6, 7, 8] rfl ?_
                (have hz := ih (k + 1) (some k) (by omega); rw [lxP_t (show mal M nm (bI dy) m a b c k from by unfold mal; simp_all)]; exact hz)
              · refine x_aload_n rfl rfl rfl ?_
                refine x_getR0 rfl rfl f_9_24 rfl (by decide) rfl rfl ?_
                refine x_iconstN (b := 3) rfl rfl ?_
                refine x_iload rfl rfl rfl ?_
                refine x_imulN (a := 3) (b := k) rfl rfl ?_
                refine x_iconstN (b := 2) rfl rfl ?_
                refine x_iaddN (a := 3 * k) (b := 2) rfl rfl ?_
                refine x_lald (a := (3 * k) + 2) rfl rfl rfl (by decide) (by omega) (by decide) ?_
                refine x_lload rfl rfl rfl ?_
                refine x_lc_ne rfl rfl rfl rfl (fun hc16 => ?_) (fun hc16 => ?_)
                · refine x_iconstN (b := 0) rfl rfl ?_
                  refine x_istore rfl rfl rfl rfl ?_
                  refine x_iload rfl rfl rfl ?_
                  refine x_if_eq rfl rfl (fun _ => ?_) (fun hc17 => absurd hc17 (by decide +kernel))
                  refine x_iload rfl rfl rfl ?_
                  refine x_istore rfl rfl rfl rfl ?_
                  refine x_iincN (a := k) (b := 1) rfl rfl rfl rfl rfl ?_
                  refine x_goto rfl rfl ?_
                  refine x_pick [0, 1, 2, 3, 4, 5, 6, 7, 8] rfl ?_
                  (have hz := ih (k + 1) r (by omega); rw [lxP_f (show ¬ mal M nm (bI dy) m a b c k from by unfold mal; intro hz9; simp_all <;> omega)]; exact hz)
                · refine x_iconstN (b := 1) rfl rfl ?_
                  refine x_goto rfl rfl ?_
                  refine x_istore rfl rfl rfl rfl ?_
                  refine x_iload rfl rfl rfl ?_
                  refine x_if_eq rfl rfl (fun hc18 => absurd hc18 (by decide +kernel)) (fun _ => ?_)
                  refine x_iload rfl rfl rfl ?_
                  refine x_goto rfl rfl ?_
                  refine x_istore rfl rfl rfl rfl ?_
                  refine x_iincN (a := k) (b := 1) rfl rfl rfl rfl rfl ?_
                  refine x_goto rfl rfl ?_
                  refine x_pick [0, 1, 2, 3, 4, 5, 6, 7, 8] rfl ?_
                  (have hz := ih (k + 1) (some k) (by omega); rw [lxP_t (show mal M nm (bI dy) m a b c k from by unfold mal; simp_all)]; exact hz)
            · refine x_aload_n rfl rfl rfl ?_
              refine x_getR0 rfl rfl f_9_24 rfl (by decide) rfl rfl ?_
              refine x_iconstN (b := 3) rfl rfl ?_
              refine x_iload rfl rfl rfl ?_
              refine x_imulN (a := 3) (b := k) rfl rfl ?_
              refine x_iconstN (b := 1) rfl rfl ?_
              refine x_iaddN (a := 3 * k) (b := 1) rfl rfl ?_
              refine x_lald (a := (3 * k) + 1) rfl rfl rfl (by decide) (by omega) (by decide) ?_
              refine x_lload rfl rfl rfl ?_
              refine x_lc_ne rfl rfl rfl rfl (fun hc19 => ?_) (fun hc19 => ?_)
              · refine x_iconstN (b := 0) rfl rfl ?_
                refine x_istore rfl rfl rfl rfl ?_
                refine x_iload rfl rfl rfl ?_
                refine x_if_eq rfl rfl (fun _ => ?_) (fun hc20 => absurd hc20 (by decide +kernel))
                refine x_iload rfl rfl rfl ?_
                refine x_istore rfl rfl rfl rfl ?_
                refine x_iincN (a := k) (b := 1) rfl rfl rfl rfl rfl ?_
                refine x_goto rfl rfl ?_
                refine x_pick [0, 1, 2, 3, 4, 5, 6, 7, 8] rfl ?_
                (have hz := ih (k + 1) r (by omega); rw [lxP_f (show ¬ mal M nm (bI dy) m a b c k from by unfold mal; intro hz9; simp_all <;> omega)]; exact hz)
              · refine x_iload rfl rfl rfl ?_
                refine x_iconstN (b := 3) rfl rfl ?_
                refine x_icmpN_lt (by omega) (by omega) rfl rfl (fun hc21 => ?_) (fun hc21 => ?_)
                · refine x_iconstN (b := 1) rfl rfl ?_
                  refine x_goto rfl rfl ?_
                  refine x_istore rfl rfl rfl rfl ?_
                  refine x_iload rfl rfl rfl ?_
                  refine x_if_eq rfl rfl (fun hc22 => absurd hc22 (by decide +kernel)) (fun _ => ?_)
                  refine x_iload rfl rfl rfl ?_
                  refine x_goto rfl rfl ?_
                  refine x_istore rfl rfl rfl rfl ?_
                  refine x_iincN (a := k) (b := 1) rfl rfl rfl rfl rfl ?_
                  refine x_goto rfl rfl ?_
                  refine x_pick [0, 1, 2, 3, 4, 5, 6, 7, 8] rfl ?_
                  (have hz := ih (k + 1) (some k) (by omega); rw [lxP_t (show mal M nm (bI dy) m a b c k from by unfold mal; simp_all)]; exact hz)
                · refine x_aload_n rfl rfl rfl ?_
                  refine x_getR0 rfl rfl f_9_24 rfl (by decide) rfl rfl ?_
                  refine x_iconstN (b := 3) rfl rfl ?_
                  refine x_iload rfl rfl rfl ?_
                  refine x_imulN (a := 3) (b := k) rfl rfl ?_
                  refine x_iconstN (b := 2) rfl rfl ?_
                  refine x_iaddN (a := 3 * k) (b := 2) rfl rfl ?_
                  refine x_lald (a := (3 * k) + 2) rfl rfl rfl (by decide) (by omega) (by decide) ?_
                  refine x_lload rfl rfl rfl ?_
                  refine x_lc_ne rfl rfl rfl rfl (fun hc23 => ?_) (fun hc23 => ?_)
                  · refine x_iconstN (b := 0) rfl rfl ?_
                    refine x_istore rfl rfl rfl rfl ?_
                    refine x_iload rfl rfl rfl ?_
                    refine x_if_eq rfl rfl (fun _ => ?_) (fun hc24 => absurd hc24 (by decide +kernel))
                    refine x_iload rfl rfl rfl ?_
                    refine x_istore rfl rfl rfl rfl ?_
                    refine x_iincN (a := k) (b := 1) rfl rfl rfl rfl rfl ?_
                    refine x_goto rfl rfl ?_
                    refine x_pick [0, 1, 2, 3, 4, 5, 6, 7, 8] rfl ?_
                    (have hz := ih (k + 1) r (by omega); rw [lxP_f (show ¬ mal M nm (bI dy) m a b c k from by unfold mal; intro hz9; simp_all <;> omega)]; exact hz)
                  · refine x_iconstN (b := 1) rfl rfl ?_
                    refine x_goto rfl rfl ?_
                    refine x_istore rfl rfl rfl rfl ?_
                    refine x_iload rfl rfl rfl ?_
                    refine x_if_eq rfl rfl (fun hc25 => absurd hc25 (by decide +kernel)) (fun _ => ?_)
                    refine x_iload rfl rfl rfl ?_
                    refine x_goto rfl rfl ?_
                    refine x_istore rfl rfl rfl rfl ?_
                    refine x_iincN (a := k) (b := 1) rfl rfl rfl rfl rfl ?_
                    refine x_goto rfl rfl ?_
                    refine x_pick [0, 1, 2, 3, 4, 5, 6, 7, 8] rfl ?_
                    (have hz := ih (k + 1) (some k) (by omega); rw [lxP_t (show mal M nm (bI dy) m a b c k from by unfold mal; simp_all)]; exact hz)
          · refine x_aload_n rfl rfl rfl ?_
            refine x_getR0 rfl rfl f_9_24 rfl (by decide) rfl rfl ?_
            refine x_iconstN (b := 3) rfl rfl ?_
            refine x_iload rfl rfl rfl ?_
            refine x_imulN (a := 3) (b := k) rfl rfl ?_
            refine x_lald (a := 3 * k) rfl rfl rfl (by decide) (by omega) (by decide) ?_
            refine x_lload rfl rfl rfl ?_
            refine x_lc_ne rfl rfl rfl rfl (fun hc26 => ?_) (fun hc26 => ?_)
            · refine x_iconstN (b := 0) rfl rfl ?_
              refine x_istore rfl rfl rfl rfl ?_
              refine x_iload rfl rfl rfl ?_
              refine x_if_eq rfl rfl (fun _ => ?_) (fun hc27 => absurd hc27 (by decide +kernel))
              refine x_iload rfl rfl rfl ?_
              refine x_istore rfl rfl rfl rfl ?_
              refine x_iincN (a := k) (b := 1) rfl rfl rfl rfl rfl ?_
              refine x_goto rfl rfl ?_
              refine x_pick [0, 1, 2, 3, 4, 5, 6, 7, 8] rfl ?_
              (have hz := ih (k + 1) r (by omega); rw [lxP_f (show ¬ mal M nm (bI dy) m a b c k from by unfold mal; intro hz9; simp_all <;> omega)]; exact hz)
            · refine x_iload rfl rfl rfl ?_
              refine x_iconstN (b := 2) rfl rfl ?_
              refine x_icmpN_lt (by omega) (by omega) rfl rfl (fun hc28 => ?_) (fun hc28 => ?_)
              · refine x_iload rfl rfl rfl ?_
                refine x_iconstN (b := 3) rfl rfl ?_
                refine x_icmpN_lt (by omega) (by omega) rfl rfl (fun hc29 => ?_) (fun hc29 => ?_)
                · refine x_iconstN (b := 1) rfl rfl ?_
                  refine x_goto rfl rfl ?_
                  refine x_istore rfl rfl rfl rfl ?_
                  refine x_iload rfl rfl rfl ?_
                  refine x_if_eq rfl rfl (fun hc30 => absurd hc30 (by decide +kernel)) (fun _ => ?_)
                  refine x_iload rfl rfl rfl ?_
                  refine x_goto rfl rfl ?_
                  refine x_istore rfl rfl rfl rfl ?_
                  refine x_iincN (a := k) (b := 1) rfl rfl rfl rfl rfl ?_
                  refine x_goto rfl rfl ?_
                  refine x_pick [0, 1, 2, 3, 4, 5, 6, 7, 8] rfl ?_
                  (have hz := ih (k + 1) (some k) (by omega); rw [lxP_t (show mal M nm (bI dy) m a b c k from by unfold mal; simp_all)]; exact hz)
                · refine x_aload_n rfl rfl rfl ?_
                  refine x_getR0 rfl rfl f_9_24 rfl (by decide) rfl rfl ?_
                  refine x_iconstN (b := 3) rfl rfl ?_
                  refine x_iload rfl rfl rfl ?_
                  refine x_imulN (a := 3) (b := k) rfl rfl ?_
                  refine x_iconstN (b := 2) rfl rfl ?_
                  refine x_iaddN (a := 3 * k) (b := 2) rfl rfl ?_
                  refine x_lald (a := (3 * k) + 2) rfl rfl rfl (by decide) (by omega) (by decide) ?_
                  refine x_lload rfl rfl rfl ?_
                  refine x_lc_ne rfl rfl rfl rfl (fun hc31 => ?_) (fun hc31 => ?_)
                  · refine x_iconstN (b := 0) rfl rfl ?_
                    refine x_istore rfl rfl rfl rfl ?_
                    refine x_iload rfl rfl rfl ?_
                    refine x_if_eq rfl rfl (fun _ => ?_) (fun hc32 => absurd hc32 (by decide +kernel))
                    refine x_iload rfl rfl rfl ?_
                    refine x_istore rfl rfl rfl rfl ?_
                    refine x_iincN (a := k) (b := 1) rfl rfl rfl rfl rfl ?_
                    refine x_goto rfl rfl ?_
                    refine x_pick [0, 1, 2, 3, 4, 5, 6, 7, 8] rfl ?_
                    (have hz := ih (k + 1) r (by omega); rw [lxP_f (show ¬ mal M nm (bI dy) m a b c k from by unfold mal; intro hz9; simp_all <;> omega)]; exact hz)
                  · refine x_iconstN (b := 1) rfl rfl ?_
                    refine x_goto rfl rfl ?_
                    refine x_istore rfl rfl rfl rfl ?_
                    refine x_iload rfl rfl rfl ?_
                    refine x_if_eq rfl rfl (fun hc33 => absurd hc33 (by decide +kernel)) (fun _ => ?_)
                    refine x_iload rfl rfl rfl ?_
                    refine x_goto rfl rfl ?_
                    refine x_istore rfl rfl rfl rfl ?_
                    refine x_iincN (a := k) (b := 1) rfl rfl rfl rfl rfl ?_
                    refine x_goto rfl rfl ?_
                    refine x_pick [0, 1, 2, 3, 4, 5, 6, 7, 8] rfl ?_
                    (have hz := ih (k + 1) (some k) (by omega); rw [lxP_t (show mal M nm (bI dy) m a b c k from by unfold mal; simp_all)]; exact hz)
              · refine x_aload_n rfl rfl rfl ?_
                refine x_getR0 rfl rfl f_9_24 rfl (by decide) rfl rfl ?_
                refine x_iconstN (b := 3) rfl rfl ?_
                refine x_iload rfl rfl rfl ?_
                refine x_imulN (a := 3) (b := k) rfl rfl ?_
                refine x_iconstN (b := 1) rfl rfl ?_
                refine x_iaddN (a := 3 * k) (b := 1) rfl rfl ?_
                refine x_lald (a := (3 * k) + 1) rfl rfl rfl (by decide) (by omega) (by decide) ?_
                refine x_lload rfl rfl rfl ?_
                refine x_lc_ne rfl rfl rfl rfl (fun hc34 => ?_) (fun hc34 => ?_)
                · refine x_iconstN (b := 0) rfl rfl ?_
                  refine x_istore rfl rfl rfl rfl ?_
                  refine x_iload rfl rfl rfl ?_
                  refine x_if_eq rfl rfl (fun _ => ?_) (fun hc35 => absurd hc35 (by decide +kernel))
                  refine x_iload rfl rfl rfl ?_
                  refine x_istore rfl rfl rfl rfl ?_
                  refine x_iincN (a := k) (b := 1) rfl rfl rfl rfl rfl ?_
                  refine x_goto rfl rfl ?_
                  refine x_pick [0, 1, 2, 3, 4, 5, 6, 7, 8] rfl ?_
                  (have hz := ih (k + 1) r (by omega); rw [lxP_f (show ¬ mal M nm (bI dy) m a b c k from by unfold mal; intro hz9; simp_all <;> omega)]; exact hz)
                · refine x_iload rfl rfl rfl ?_
                  refine x_iconstN (b := 3) rfl rfl ?_
                  refine x_icmpN_lt (by omega) (by omega) rfl rfl (fun hc36 => ?_) (fun hc36 => ?_)
                  · refine x_iconstN (b := 1) rfl rfl ?_
                    refine x_goto rfl rfl ?_
                    refine x_istore rfl rfl rfl rfl ?_
                    refine x_iload rfl rfl rfl ?_
                    refine x_if_eq rfl rfl (fun hc37 => absurd hc37 (by decide +kernel)) (fun _ => ?_)
                    refine x_iload rfl rfl rfl ?_
                    refine x_goto rfl rfl ?_
                    refine x_istore rfl rfl rfl rfl ?_
                    refine x_iincN (a := k) (b := 1) rfl rfl rfl rfl rfl ?_
                    refine x_goto rfl rfl ?_
                    refine x_pick [0, 1, 2, 3, 4, 5, 6, 7, 8] rfl ?_
                    (have hz := ih (k + 1) (some k) (by omega); rw [lxP_t (show mal M nm (bI dy) m a b c k from by unfold mal; simp_all)]; exact hz)
                  · refine x_aload_n rfl rfl rfl ?_
                    refine x_getR0 rfl rfl f_9_24 rfl (by decide) rfl rfl ?_
                    refine x_iconstN (b := 3) rfl rfl ?_
                    refine x_iload rfl rfl rfl ?_
                    refine x_imulN (a := 3) (b := k) rfl rfl ?_
                    refine x_iconstN (b := 2) rfl rfl ?_
                    refine x_iaddN (a := 3 * k) (b := 2) rfl rfl ?_
                    refine x_lald (a := (3 * k) + 2) rfl rfl rfl (by decide) (by omega) (by decide) ?_
                    refine x_lload rfl rfl rfl ?_
                    refine x_lc_ne rfl rfl rfl rfl (fun hc38 => ?_) (fun hc38 => ?_)
                    · refine x_iconstN (b := 0) rfl rfl ?_
                      refine x_istore rfl rfl rfl rfl ?_
                      refine x_iload rfl rfl rfl ?_
                      refine x_if_eq rfl rfl (fun _ => ?_) (fun hc39 => absurd hc39 (by decide +kernel))
                      refine x_iload rfl rfl rfl ?_
                      refine x_istore rfl rfl rfl rfl ?_
                      refine x_iincN (a := k) (b := 1) rfl rfl rfl rfl rfl ?_
                      refine x_goto rfl rfl ?_
                      refine x_pick [0, 1, 2, 3, 4, 5, 6, 7, 8] rfl ?_
                      (have hz := ih (k + 1) r (by omega); rw [lxP_f (show ¬ mal M nm (bI dy) m a b c k from by unfold mal; intro hz9; simp_all <;> omega)]; exact hz)
                    · refine x_iconstN (b := 1) rfl rfl ?_
                      refine x_goto rfl rfl ?_
                      refine x_istore rfl rfl rfl rfl ?_
                      refine x_iload rfl rfl rfl ?_
                      refine x_if_eq rfl rfl (fun hc40 => absurd hc40 (by decide +kernel)) (fun _ => ?_)
                      refine x_iload rfl rfl rfl ?_
                      refine x_goto rfl rfl ?_
                      refine x_istore rfl rfl rfl rfl ?_
                      refine x_iincN (a := k) (b := 1) rfl rfl rfl rfl rfl ?_
                      refine x_goto rfl rfl ?_
                      refine x_pick [0, 1, 2, 3, 4, 5, 6, 7, 8] rfl ?_
                      (have hz := ih (k + 1) (some k) (by omega); rw [lxP_t (show mal M nm (bI dy) m a b c k from by unfold mal; simp_all)]; exact hz)
set_option maxHeartbeats 4000000 in
set_option maxRecDepth 20000 in
theorem c_malike (hG : Gok G) (nm : Int64) (dy : Prop) {m : Nat} (hm : m ≤ 3) (a b c : Int64) {tn : Nat} (htn : M.1 (40, 0) 3 = nI tn) (htn2 : tn ≤ 12) : Ct G mX9_alike d [.ref (ga G (40, 0)), .long (nm), .int (bI (dy)), .int (nI m), .long (a), .long (b), .long (c)] M (.inl (some (.int (ixv (lxP (mal M nm (bI dy) m a b c) none 0 tn))))) M 0 := by
  refine ct_of hG okX9_alike (by decide +kernel) rfl (Nat.le_of_ble_eq_true rfl) ?_
  refine x_iconst (v := -1) rfl rfl (by decide +kernel) ?_
  refine x_istore rfl rfl rfl rfl ?_
  refine x_iconstN (b := 0) rfl rfl ?_
  refine x_istore rfl rfl rfl rfl ?_
  exact l_malike nm dy hm a b c htn htn2 tn 0 none (by omega)
set_option maxHeartbeats 4000000 in
set_option maxRecDepth 20000 in
theorem c_mnewTraits (hG : Gok G) (nm : Int64) (dy : Prop) (m : Nat) (a b c : Int64) {tn : Nat} (htn : M.1 (40, 0) 3 = nI tn) (htn2 : tn < 12) : Ct G mX9_newTraits d [.ref (ga G (40, 0)), .long (nm), .int (bI (dy)), .int (nI m), .long (a), .long (b), .long (c)] M (.inl (some (.int (nI tn)))) (ui (ul (ul (ul (ui (ui (ul M (42, 0) tn nm) (43, 0) tn (bI (dy))) (44, 0) tn (nI m)) (45, 0) (3 * tn) a) (45, 0) ((3 * tn) + 1) b) (45, 0) ((3 * tn) + 2) c) (40, 0) 3 (nI (tn + 1))) 0 := by
  refine ct_of hG okX9_newTraits (by decide +kernel) rfl (Nat.le_of_ble_eq_true rfl) ?_
  refine x_aload_n rfl rfl rfl ?_
  refine x_getR0 rfl rfl f_9_13 rfl (by decide) rfl rfl ?_
  refine x_aload_n rfl rfl rfl ?_
  refine x_getIv (v := nI tn) htn rfl rfl f_9_142 rfl (by decide) rfl ?_
  refine x_lload_n rfl rfl rfl ?_
  refine x_last (a := tn) rfl rfl rfl (by decide) (by omega) (by decide) ?_
  refine x_aload_n rfl rfl rfl ?_
  refine x_getR0 rfl rfl f_9_16 rfl (by decide) rfl rfl ?_
  refine x_aload_n rfl rfl rfl ?_
  refine x_getIv (v := nI tn) (by first | exact htn | (rw [← htn]; rfl) | simp [ui, ul, htn]) rfl rfl f_9_142 rfl (by decide) rfl ?_
  refine x_iload_n rfl rfl rfl ?_
  refine x_zast (a := tn) rfl rfl rfl (by decide) (by omega) (by decide) (by first | exact Or.inl rfl | exact Or.inr rfl | exact bI_01 _ | assumption) ?_
  refine x_aload_n rfl rfl rfl ?_
  refine x_getR0 rfl rfl f_9_20 rfl (by decide) rfl rfl ?_
  refine x_aload_n rfl rfl rfl ?_
  refine x_getIv (v := nI tn) (by first | exact htn | (rw [← htn]; rfl) | simp [ui, ul, htn]) rfl rfl f_9_142 rfl (by decide) rfl ?_
  refine x_iload rfl rfl rfl ?_
  refine x_iast (a := tn) rfl rfl rfl (by decide) (by omega) (by decide) ?_
  refine x_aload_n rfl rfl rfl ?_
  refine x_getR0 rfl rfl f_9_24 rfl (by decide) rfl rfl ?_
  refine x_iconstN (b := 3) rfl rfl ?_
  refine x_aload_n rfl rfl rfl ?_
  refine x_getIv (v := nI tn) (by first | exact htn | (rw [← htn]; rfl) | simp [ui, ul, htn]) rfl rfl f_9_142 rfl (by decide) rfl ?_
  refine x_imulN (a := 3) (b := tn) rfl rfl ?_
  refine x_lload rfl rfl rfl ?_
  refine x_last (a := 3 * tn) rfl rfl rfl (by decide) (by omega) (by decide) ?_
  refine x_aload_n rfl rfl rfl ?_
  refine x_getR0 rfl rfl f_9_24 rfl (by decide) rfl rfl ?_
  refine x_iconstN (b := 3) rfl rfl ?_
  refine x_aload_n rfl rfl rfl ?_
  refine x_getIv (v := nI tn) (by first | exact htn | (rw [← htn]; rfl) | simp [ui, ul, htn]) rfl rfl f_9_142 rfl (by decide) rfl ?_
  refine x_imulN (a := 3) (b := tn) rfl rfl ?_
  refine x_iconstN (b := 1) rfl rfl ?_
  refine x_iaddN (a := 3 * tn) (b := 1) rfl rfl ?_
  refine x_lload rfl rfl rfl ?_
  refine x_last (a := (3 * tn) + 1) rfl rfl rfl (by decide) (by omega) (by decide) ?_
  refine x_aload_n rfl rfl rfl ?_
  refine x_getR0 rfl rfl f_9_24 rfl (by decide) rfl rfl ?_
  refine x_iconstN (b := 3) rfl rfl ?_
  refine x_aload_n rfl rfl rfl ?_
  refine x_getIv (v := nI tn) (by first | exact htn | (rw [← htn]; rfl) | simp [ui, ul, htn]) rfl rfl f_9_142 rfl (by decide) rfl ?_
  refine x_imulN (a := 3) (b := tn) rfl rfl ?_
  refine x_iconstN (b := 2) rfl rfl ?_
  refine x_iaddN (a := 3 * tn) (b := 2) rfl rfl ?_
  refine x_lload rfl rfl rfl ?_
  refine x_last (a := (3 * tn) + 2) rfl rfl rfl (by decide) (by omega) (by decide) ?_
  refine x_aload_n rfl rfl rfl ?_
  refine x_dup rfl rfl rfl ?_
  refine x_getIv (v := nI tn) (by first | exact htn | (rw [← htn]; rfl) | simp [ui, ul, htn]) rfl rfl f_9_142 rfl (by decide) rfl ?_
  refine x_iconstN (b := 1) rfl rfl ?_
  refine x_iaddN (a := tn) (b := 1) rfl rfl ?_
  refine x_putI rfl rfl f_9_142 rfl rfl (by decide) rfl ?_
  refine x_aload_n rfl rfl rfl ?_
  refine x_getIv (v := nI (tn + 1)) (by first | rfl | simp [ui, ul]) rfl rfl f_9_142 rfl (by decide) rfl ?_
  refine x_iconstN (b := 1) rfl rfl ?_
  refine x_isubN (a := tn + 1) (b := 1) (by omega) rfl rfl ?_
  exact x_retI rfl rfl rfl (by omega) rfl rfl
end E1
