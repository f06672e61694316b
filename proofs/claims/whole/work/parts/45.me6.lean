def TopS (h i a b : Nat) (ov : Prop) (M : Mm) : Prop := M.1 (40, 0) 28 = nI (h + 1) ∧ M.1 (59, 0) h = nI i ∧ M.1 (60, 0) h = nI a ∧ M.1 (61, 0) h = nI b ∧ M.1 (62, 0) h = bI ov
section M6
variable {G : Gd} {d : Nat} {M : Mm} {A : Ab}
set_option maxHeartbeats 4000000 in
set_option maxRecDepth 20000 in
theorem c_goP1_9T (hG : Gok G) (hd : 6 ≤ d) (hwf : wfA A) {s : WS} (hw0 : WrM s M) (hb : s.1.length ≤ 600) (hR : RM A M) {h i a b : Nat} {ov : Prop} (hT : TopS h i a b ov M) (hh : h < 12) {x : Th} (hx : (aH A)[i]? = some x) (hal : a ≤ (tL x).length) (hbl : b ≤ (tY x).length) (hk : tK x = 9) (hle : a < (tL x).length) (hov : ¬ ov) (hbb : b < (tY x).length) : Ce G mX9_goOn d [.ref (ga G (40, 0))] M (.inl none) (fun M' => ∃ M1, EqF (onS h) M M1 ∧ TopS h i a (b + 1) ov M1 ∧ WrM (strT ((tY x)[b]?.getD 0) s) M1 ∧ PH A (h + 1) M1 (vhd A (h + 1) ((tV x)[b]?.getD 0) (strT ((tY x)[b]?.getD 0) s)) M') 0 := by
  have hS0 : EqF onX M M := EqF.rf
  have ht := hR.1.2.2.1 i x hx
  have ht0 := ht
  have hil := at_lt hx
  have hn40 := hR.n40
  have hl8 := ht.2.2.2.2.2.2.2.2.2.1
  have hl6 := ht.2.2.2.2.2.2.2.2.2.2.1
  have hlv := ht.2.2.2.2.2.2.2.2.2.2.2.1
  have hk16 := ht.2.2.2.2.2.2.2.2.2.2.2.2
  have hok := hwf.2.2.1 _ (at_mem hx)
  obtain ⟨q1, q2, q3, q4, q5⟩ := hT
  have htx := (hok.2.2.2.1 _ (getD_mem (l := tY x) (j := b) (by omega))).1
  refine ce_of hG okX9_goOn (by decide +kernel) rfl (Nat.le_of_ble_eq_true rfl) ?_
  refine x_aload_n rfl rfl rfl ?_
  refine x_getIv (v := nI (h + 1)) q1 rfl rfl f_9_196 rfl (by decide) rfl ?_
  refine x_iconstN (b := 1) rfl rfl ?_
  refine x_isubN (a := h + 1) (b := 1) (by omega) rfl rfl ?_
  refine x_istore_n rfl rfl rfl rfl ?_
  refine x_aload_n rfl rfl rfl ?_
  refine x_getR0 rfl rfl f_9_66 rfl (by decide) rfl rfl ?_
  refine x_iload_n rfl rfl rfl ?_
  refine x_ialdv (a := h) (v := nI i) q2 rfl rfl rfl (by decide) (by omega) (by decide) ?_
  refine x_istore_n rfl rfl rfl rfl ?_
  refine x_aload_n rfl rfl rfl ?_
  refine x_getR0 rfl rfl f_9_69 rfl (by decide) rfl rfl ?_
  refine x_iload_n rfl rfl rfl ?_
  refine x_ialdv (a := h) (v := nI a) q3 rfl rfl rfl (by decide) (by omega) (by decide) ?_
  refine x_aload_n rfl rfl rfl ?_
  refine x_getR0 rfl rfl f_9_33 rfl (by decide) rfl rfl ?_
  refine x_iload_n rfl rfl rfl ?_
  refine x_ialdv (a := i) (v := nI ((tL x).length)) ht0.2.1 rfl rfl rfl (by decide) (by omega) (by decide) ?_
  refine x_icmpN_ge (by omega) (by omega) rfl rfl (fun hc1 => absurd hc1 (by omega)) (fun hc1 => ?_)
  refine x_iconstN (b := 1) rfl rfl ?_
  refine x_goto rfl rfl ?_
  refine x_istore_n rfl rfl rfl rfl ?_
  refine x_aload_n rfl rfl rfl ?_
  refine x_getR0 rfl rfl f_9_75 rfl (by decide) rfl rfl ?_
  refine x_iload_n rfl rfl rfl ?_
  refine x_zaldv (a := h) (v := bI (ov)) q5 rfl rfl rfl (by decide) (by omega) (by decide) ?_
  refine x_ifB_ne rfl rfl (fun hc2 => absurd hc2 hov) (fun hc2 => ?_)
  refine x_aload_n rfl rfl rfl ?_
  refine x_getR0 rfl rfl f_9_27 rfl (by decide) rfl rfl ?_
  refine x_iload_n rfl rfl rfl ?_
  refine x_ialdv (a := i) (v := nI 9) (ht0.1.trans (by rw [hk])) rfl rfl rfl (by decide) (by omega) (by decide) ?_
  refine x_bipush (v := nI 9) rfl rfl (by decide +kernel) ?_
  refine x_icmpN_eq (by omega) (by omega) rfl rfl (fun hc3 => ?_) (fun hc3 => absurd hc3 (by omega))
  refine x_iconstN (b := 1) rfl rfl ?_
  refine x_goto rfl rfl ?_
  refine x_istore rfl rfl rfl rfl ?_
  refine x_iload rfl rfl rfl ?_
  refine x_if_eq rfl rfl (fun hc4 => absurd hc4 (by decide +kernel)) (fun _ => ?_)
  refine x_aload_n rfl rfl rfl ?_
  refine x_getR0 rfl rfl f_9_72 rfl (by decide) rfl rfl ?_
  refine x_iload_n rfl rfl rfl ?_
  refine x_ialdv (a := h) (v := nI b) q4 rfl rfl rfl (by decide) (by omega) (by decide) ?_
  refine x_istore rfl rfl rfl rfl ?_
  refine x_iload rfl rfl rfl ?_
  refine x_aload_n rfl rfl rfl ?_
  refine x_getR0 rfl rfl f_9_42 rfl (by decide) rfl rfl ?_
  refine x_iload_n rfl rfl rfl ?_
  refine x_ialdv (a := i) (v := nI ((tY x).length)) ht0.2.2.2.1 rfl rfl rfl (by decide) (by omega) (by decide) ?_
  refine x_icmpN_ge (by omega) (by omega) rfl rfl (fun hc5 => absurd hc5 (by omega)) (fun hc5 => ?_)
  refine x_aload_n rfl rfl rfl ?_
  refine x_getR0 rfl rfl f_9_72 rfl (by decide) rfl rfl ?_
  refine x_iload_n rfl rfl rfl ?_
  refine x_dup2 rfl rfl rfl rfl ?_
  refine x_ialdv (a := h) (v := nI b) q4 rfl rfl rfl (by decide) (by omega) (by decide) ?_
  refine x_iconstN (b := 1) rfl rfl ?_
  refine x_iaddN (a := b) (b := 1) rfl rfl ?_
  refine x_iast (a := h) rfl rfl rfl (by decide) (by omega) (by decide) ?_
  refine x_aload_n rfl rfl rfl ?_
  refine x_aload_n rfl rfl rfl ?_
  refine x_getR0 rfl rfl f_9_45 rfl (by decide) rfl rfl ?_
  refine x_bipush (v := nI 6) rfl rfl (by decide +kernel) ?_
  refine x_iload_n rfl rfl rfl ?_
  refine x_imulN (a := 6) (b := i) rfl rfl ?_
  refine x_iload rfl rfl rfl ?_
  refine x_iaddN (a := 6 * i) (b := b) rfl rfl ?_
  refine x_laldv (a := (6 * i) + b) (v := (tY x)[b]?.getD 0) (by first | exact (ht0.2.2.2.2.1.at (k := b) (by omega)) | (rw [← (ht0.2.2.2.2.1.at (k := b) (by omega))]; rfl) | simp [ui, ul, (ht0.2.2.2.2.1.at (k := b) (by omega))]) rfl rfl rfl (by decide) (by omega) (by decide) ?_
  have hSu : EqF (onS h) M (ui M (61, 0) h (nI (b + 1))) := EqF.rf.ui (by simp [onS])
  have hwu : WrM s (ui M (61, 0) h (nI (b + 1))) := hw0.eq (EqF.rf.ui (by simp [onV]))
  refine x_callVe (k2 := 0) (d2 := 2) (c_memitString hG (Nat.le_refl 2) hwu (by omega) ((tY x)[b]?.getD 0) htx) rfl rfl v_9_205 rfl rfl (by decide) rfl rfl (Nat.le_of_ble_eq_true rfl) (by omega) (Nat.zero_le _) (fun M1 p1 => ?_)
  have hS1 : EqF (onS h) M M1 := hSu.tr p1.1.s
  have hw1 := p1.2
  have ht1 := ht.eq hS1.sr
  have u1 : ∀ (k : Ky) (j : Nat), onX k j → M1.1 k j = (ui M (61, 0) h (nI (b + 1))).1 k j := fun k j z => (p1.1 k j z).1
  refine x_aload_n rfl rfl rfl ?_
  refine x_aload_n rfl rfl rfl ?_
  refine x_getR0 rfl rfl f_9_48 rfl (by decide) rfl rfl ?_
  refine x_bipush (v := nI 6) rfl rfl (by decide +kernel) ?_
  refine x_iload_n rfl rfl rfl ?_
  refine x_imulN (a := 6) (b := i) rfl rfl ?_
  refine x_iload rfl rfl rfl ?_
  refine x_iaddN (a := 6 * i) (b := b) rfl rfl ?_
  refine x_laldv (a := (6 * i) + b) (v := (tV x)[b]?.getD 0) (ht1.2.2.2.2.2.1.at (k := b) (by omega)) rfl rfl rfl (by decide) (by omega) (by decide) ?_
  have hwE := hw1
  have hRE := hR.eq hS1.sr
  have hvE := hok.2.2.1 _ (getD_mem (l := tV x) (j := b) (by omega))
  have hTE : TopS h i a (b + 1) ov M1 := ⟨by rw [u1 _ _ (by simp [onX])]; simpa [ui] using q1, by rw [u1 _ _ (by simp [onX])]; simpa [ui] using q2, by rw [u1 _ _ (by simp [onX])]; simpa [ui] using q3, by rw [u1 _ _ (by simp [onX])]; simp [ui], by rw [u1 _ _ (by simp [onX])]; simpa [ui] using q5⟩
  have hhE := hTE.1
  refine x_callVe (k2 := 0) (d2 := 5) (c_memitValue (h := h + 1) hG (Nat.le_refl 5) hwf (s := strT ((tY x)[b]?.getD 0) (s)) hwE (by first | omega | (have := strT_len ((tY x)[b]?.getD 0) s; omega)) hRE hhE (by omega) _ hvE) rfl rfl v_9_223 rfl rfl (by decide) rfl rfl (Nat.le_of_ble_eq_true rfl) (by omega) (Nat.zero_le _) (fun M9 q9 => ?_)
  refine x_goto rfl rfl ?_
  refine x_goto rfl rfl ?_
  exact fr_e (x_vret rfl rfl rfl (Nat.zero_le _)) ⟨M1, hS1, hTE, hwE, q9⟩
set_option maxHeartbeats 4000000 in
set_option maxRecDepth 20000 in
theorem c_goP2_9T (hG : Gok G) (hd : 6 ≤ d) (hwf : wfA A) {s : WS} (hw0 : WrM s M) (hb : s.1.length ≤ 600) (hR : RM A M) {h i a b : Nat} {ov : Prop} (hT : TopS h i a b ov M) (hh : h < 12) {x : Th} (hx : (aH A)[i]? = some x) (hal : a ≤ (tL x).length) (hbl : b ≤ (tY x).length) (hk : tK x = 9) (hle : a < (tL x).length) (hov : ¬ ov) (hbb : b = (tY x).length) : Ce G mX9_goOn d [.ref (ga G (40, 0))] M (.inl none) (fun M' => EqF (onS h) M M' ∧ TopS h i a b True M' ∧ WrM (strT 0 s) M') 0 := by
  have hS0 : EqF onX M M := EqF.rf
  have ht := hR.1.2.2.1 i x hx
  have ht0 := ht
  have hil := at_lt hx
  have hn40 := hR.n40
  have hl8 := ht.2.2.2.2.2.2.2.2.2.1
  have hl6 := ht.2.2.2.2.2.2.2.2.2.2.1
  have hlv := ht.2.2.2.2.2.2.2.2.2.2.2.1
  have hk16 := ht.2.2.2.2.2.2.2.2.2.2.2.2
  have hok := hwf.2.2.1 _ (at_mem hx)
  obtain ⟨q1, q2, q3, q4, q5⟩ := hT
  have htx : isTx 0 := Or.inl rfl
  refine ce_of hG okX9_goOn (by decide +kernel) rfl (Nat.le_of_ble_eq_true rfl) ?_
  refine x_aload_n rfl rfl rfl ?_
  refine x_getIv (v := nI (h + 1)) q1 rfl rfl f_9_196 rfl (by decide) rfl ?_
  refine x_iconstN (b := 1) rfl rfl ?_
  refine x_isubN (a := h + 1) (b := 1) (by omega) rfl rfl ?_
  refine x_istore_n rfl rfl rfl rfl ?_
  refine x_aload_n rfl rfl rfl ?_
  refine x_getR0 rfl rfl f_9_66 rfl (by decide) rfl rfl ?_
  refine x_iload_n rfl rfl rfl ?_
  refine x_ialdv (a := h) (v := nI i) q2 rfl rfl rfl (by decide) (by omega) (by decide) ?_
  refine x_istore_n rfl rfl rfl rfl ?_
  refine x_aload_n rfl rfl rfl ?_
  refine x_getR0 rfl rfl f_9_69 rfl (by decide) rfl rfl ?_
  refine x_iload_n rfl rfl rfl ?_
  refine x_ialdv (a := h) (v := nI a) q3 rfl rfl rfl (by decide) (by omega) (by decide) ?_
  refine x_aload_n rfl rfl rfl ?_
  refine x_getR0 rfl rfl f_9_33 rfl (by decide) rfl rfl ?_
  refine x_iload_n rfl rfl rfl ?_
  refine x_ialdv (a := i) (v := nI ((tL x).length)) ht0.2.1 rfl rfl rfl (by decide) (by omega) (by decide) ?_
  refine x_icmpN_ge (by omega) (by omega) rfl rfl (fun hc1 => absurd hc1 (by omega)) (fun hc1 => ?_)
  refine x_iconstN (b := 1) rfl rfl ?_
  refine x_goto rfl rfl ?_
  refine x_istore_n rfl rfl rfl rfl ?_
  refine x_aload_n rfl rfl rfl ?_
  refine x_getR0 rfl rfl f_9_75 rfl (by decide) rfl rfl ?_
  refine x_iload_n rfl rfl rfl ?_
  refine x_zaldv (a := h) (v := bI (ov)) q5 rfl rfl rfl (by decide) (by omega) (by decide) ?_
  refine x_ifB_ne rfl rfl (fun hc2 => absurd hc2 hov) (fun hc2 => ?_)
  refine x_aload_n rfl rfl rfl ?_
  refine x_getR0 rfl rfl f_9_27 rfl (by decide) rfl rfl ?_
  refine x_iload_n rfl rfl rfl ?_
  refine x_ialdv (a := i) (v := nI 9) (ht0.1.trans (by rw [hk])) rfl rfl rfl (by decide) (by omega) (by decide) ?_
  refine x_bipush (v := nI 9) rfl rfl (by decide +kernel) ?_
  refine x_icmpN_eq (by omega) (by omega) rfl rfl (fun hc3 => ?_) (fun hc3 => absurd hc3 (by omega))
  refine x_iconstN (b := 1) rfl rfl ?_
  refine x_goto rfl rfl ?_
  refine x_istore rfl rfl rfl rfl ?_
  refine x_iload rfl rfl rfl ?_
  refine x_if_eq rfl rfl (fun hc4 => absurd hc4 (by decide +kernel)) (fun _ => ?_)
  refine x_aload_n rfl rfl rfl ?_
  refine x_getR0 rfl rfl f_9_72 rfl (by decide) rfl rfl ?_
  refine x_iload_n rfl rfl rfl ?_
  refine x_ialdv (a := h) (v := nI b) q4 rfl rfl rfl (by decide) (by omega) (by decide) ?_
  refine x_istore rfl rfl rfl rfl ?_
  refine x_iload rfl rfl rfl ?_
  refine x_aload_n rfl rfl rfl ?_
  refine x_getR0 rfl rfl f_9_42 rfl (by decide) rfl rfl ?_
  refine x_iload_n rfl rfl rfl ?_
  refine x_ialdv (a := i) (v := nI ((tY x).length)) ht0.2.2.2.1 rfl rfl rfl (by decide) (by omega) (by decide) ?_
  refine x_icmpN_ge (by omega) (by omega) rfl rfl (fun hc5 => ?_) (fun hc5 => absurd hc5 (by omega))
  refine x_aload_n rfl rfl rfl ?_
  refine x_lconst (v := 0) rfl rfl (by decide +kernel) ?_
  have hSu : EqF (onS h) M M := EqF.rf
  have hwu : WrM s M := hw0
  refine x_callVe (k2 := 0) (d2 := 2) (c_memitString hG (Nat.le_refl 2) hwu (by omega) (0) htx) rfl rfl v_9_205 rfl rfl (by decide) rfl rfl (Nat.le_of_ble_eq_true rfl) (by omega) (Nat.zero_le _) (fun M1 p1 => ?_)
  have hS1 : EqF (onS h) M M1 := hSu.tr p1.1.s
  have hw1 := p1.2
  have ht1 := ht.eq hS1.sr
  have u1 : ∀ (k : Ky) (j : Nat), onX k j → M1.1 k j = M.1 k j := fun k j z => (p1.1 k j z).1
  refine x_aload_n rfl rfl rfl ?_
  refine x_getR0 rfl rfl f_9_75 rfl (by decide) rfl rfl ?_
  refine x_iload_n rfl rfl rfl ?_
  refine x_iconstN (b := 1) rfl rfl ?_
  refine x_zast (a := h) rfl rfl rfl (by decide) (by omega) (by decide) (by first | exact Or.inl rfl | exact Or.inr rfl | exact bI_01 _ | assumption) ?_
  refine x_goto rfl rfl ?_
  exact fr_e (x_vret rfl rfl rfl (Nat.zero_le _)) ⟨hS1.ui (by simp [onS]), ⟨by rw [ui_v, if_neg (by simp), u1 _ _ (by simp [onX])]; exact q1, by rw [ui_v, if_neg (by simp), u1 _ _ (by simp [onX])]; exact q2, by rw [ui_v, if_neg (by simp), u1 _ _ (by simp [onX])]; exact q3, by rw [ui_v, if_neg (by simp), u1 _ _ (by simp [onX])]; exact q4, by rw [ui_v, if_pos ⟨rfl, rfl⟩, bI_t trivial]⟩, hw1.eq (EqF.rf.ui (by simp [onV]))⟩
set_option maxHeartbeats 4000000 in
set_option maxRecDepth 20000 in
theorem c_goP1_9F (hG : Gok G) (hd : 6 ≤ d) (hwf : wfA A) {s : WS} (hw0 : WrM s M) (hb : s.1.length ≤ 600) (hR : RM A M) {h i a b : Nat} {ov : Prop} (hT : TopS h i a b ov M) (hh : h < 12) {x : Th} (hx : (aH A)[i]? = some x) (hal : a ≤ (tL x).length) (hbl : b ≤ (tY x).length) (hk : tK x = 9) (hle : a = (tL x).length) (hov : ¬ ov) (hbb : b < (tY x).length) : Ce G mX9_goOn d [.ref (ga G (40, 0))] M (.inl none) (fun M' => ∃ M1, EqF (onS h) M M1 ∧ TopS h i a (b + 1) ov M1 ∧ WrM (strT ((tY x)[b]?.getD 0) s) M1 ∧ PH A (h + 1) M1 (vhd A (h + 1) ((tV x)[b]?.getD 0) (strT ((tY x)[b]?.getD 0) s)) M') 0 := by
  have hS0 : EqF onX M M := EqF.rf
  have ht := hR.1.2.2.1 i x hx
  have ht0 := ht
  have hil := at_lt hx
  have hn40 := hR.n40
  have hl8 := ht.2.2.2.2.2.2.2.2.2.1
  have hl6 := ht.2.2.2.2.2.2.2.2.2.2.1
  have hlv := ht.2.2.2.2.2.2.2.2.2.2.2.1
  have hk16 := ht.2.2.2.2.2.2.2.2.2.2.2.2
  have hok := hwf.2.2.1 _ (at_mem hx)
  obtain ⟨q1, q2, q3, q4, q5⟩ := hT
  have htx := (hok.2.2.2.1 _ (getD_mem (l := tY x) (j := b) (by omega))).1
  refine ce_of hG okX9_goOn (by decide +kernel) rfl (Nat.le_of_ble_eq_true rfl) ?_
  refine x_aload_n rfl rfl rfl ?_
  refine x_getIv (v := nI (h + 1)) q1 rfl rfl f_9_196 rfl (by decide) rfl ?_
  refine x_iconstN (b := 1) rfl rfl ?_
  refine x_isubN (a := h + 1) (b := 1) (by omega) rfl rfl ?_
  refine x_istore_n rfl rfl rfl rfl ?_
  refine x_aload_n rfl rfl rfl ?_
  refine x_getR0 rfl rfl f_9_66 rfl (by decide) rfl rfl ?_
  refine x_iload_n rfl rfl rfl ?_
  refine x_ialdv (a := h) (v := nI i) q2 rfl rfl rfl (by decide) (by omega) (by decide) ?_
  refine x_istore_n rfl rfl rfl rfl ?_
  refine x_aload_n rfl rfl rfl ?_
  refine x_getR0 rfl rfl f_9_69 rfl (by decide) rfl rfl ?_
  refine x_iload_n rfl rfl rfl ?_
  refine x_ialdv (a := h) (v := nI a) q3 rfl rfl rfl (by decide) (by omega) (by decide) ?_
  refine x_aload_n rfl rfl rfl ?_
  refine x_getR0 rfl rfl f_9_33 rfl (by decide) rfl rfl ?_
  refine x_iload_n rfl rfl rfl ?_
  refine x_ialdv (a := i) (v := nI ((tL x).length)) ht0.2.1 rfl rfl rfl (by decide) (by omega) (by decide) ?_
  refine x_icmpN_ge (by omega) (by omega) rfl rfl (fun hc1 => ?_) (fun hc1 => absurd hc1 (by omega))
  refine x_iconstN (b := 0) rfl rfl ?_
  refine x_istore_n rfl rfl rfl rfl ?_
  refine x_aload_n rfl rfl rfl ?_
  refine x_getR0 rfl rfl f_9_75 rfl (by decide) rfl rfl ?_
  refine x_iload_n rfl rfl rfl ?_
  refine x_zaldv (a := h) (v := bI (ov)) q5 rfl rfl rfl (by decide) (by omega) (by decide) ?_
  refine x_ifB_ne rfl rfl (fun hc2 => absurd hc2 hov) (fun hc2 => ?_)
  refine x_aload_n rfl rfl rfl ?_
  refine x_getR0 rfl rfl f_9_27 rfl (by decide) rfl rfl ?_
  refine x_iload_n rfl rfl rfl ?_
  refine x_ialdv (a := i) (v := nI 9) (ht0.1.trans (by rw [hk])) rfl rfl rfl (by decide) (by omega) (by decide) ?_
  refine x_bipush (v := nI 9) rfl rfl (by decide +kernel) ?_
  refine x_icmpN_eq (by omega) (by omega) rfl rfl (fun hc3 => ?_) (fun hc3 => absurd hc3 (by omega))
  refine x_iconstN (b := 1) rfl rfl ?_
  refine x_goto rfl rfl ?_
  refine x_istore rfl rfl rfl rfl ?_
  refine x_iload rfl rfl rfl ?_
  refine x_if_eq rfl rfl (fun hc4 => absurd hc4 (by decide +kernel)) (fun _ => ?_)
  refine x_aload_n rfl rfl rfl ?_
  refine x_getR0 rfl rfl f_9_72 rfl (by decide) rfl rfl ?_
  refine x_iload_n rfl rfl rfl ?_
  refine x_ialdv (a := h) (v := nI b) q4 rfl rfl rfl (by decide) (by omega) (by decide) ?_
  refine x_istore rfl rfl rfl rfl ?_
  refine x_iload rfl rfl rfl ?_
  refine x_aload_n rfl rfl rfl ?_
  refine x_getR0 rfl rfl f_9_42 rfl (by decide) rfl rfl ?_
  refine x_iload_n rfl rfl rfl ?_
  refine x_ialdv (a := i) (v := nI ((tY x).length)) ht0.2.2.2.1 rfl rfl rfl (by decide) (by omega) (by decide) ?_
  refine x_icmpN_ge (by omega) (by omega) rfl rfl (fun hc5 => absurd hc5 (by omega)) (fun hc5 => ?_)
  refine x_aload_n rfl rfl rfl ?_
  refine x_getR0 rfl rfl f_9_72 rfl (by decide) rfl rfl ?_
  refine x_iload_n rfl rfl rfl ?_
  refine x_dup2 rfl rfl rfl rfl ?_
  refine x_ialdv (a := h) (v := nI b) q4 rfl rfl rfl (by decide) (by omega) (by decide) ?_
  refine x_iconstN (b := 1) rfl rfl ?_
  refine x_iaddN (a := b) (b := 1) rfl rfl ?_
  refine x_iast (a := h) rfl rfl rfl (by decide) (by omega) (by decide) ?_
  refine x_aload_n rfl rfl rfl ?_
  refine x_aload_n rfl rfl rfl ?_
  refine x_getR0 rfl rfl f_9_45 rfl (by decide) rfl rfl ?_
  refine x_bipush (v := nI 6) rfl rfl (by decide +kernel) ?_
  refine x_iload_n rfl rfl rfl ?_
  refine x_imulN (a := 6) (b := i) rfl rfl ?_
  refine x_iload rfl rfl rfl ?_
  refine x_iaddN (a := 6 * i) (b := b) rfl rfl ?_
  refine x_laldv (a := (6 * i) + b) (v := (tY x)[b]?.getD 0) (by first | exact (ht0.2.2.2.2.1.at (k := b) (by omega)) | (rw [← (ht0.2.2.2.2.1.at (k := b) (by omega))]; rfl) | simp [ui, ul, (ht0.2.2.2.2.1.at (k := b) (by omega))]) rfl rfl rfl (by decide) (by omega) (by decide) ?_
  have hSu : EqF (onS h) M (ui M (61, 0) h (nI (b + 1))) := EqF.rf.ui (by simp [onS])
  have hwu : WrM s (ui M (61, 0) h (nI (b + 1))) := hw0.eq (EqF.rf.ui (by simp [onV]))
  refine x_callVe (k2 := 0) (d2 := 2) (c_memitString hG (Nat.le_refl 2) hwu (by omega) ((tY x)[b]?.getD 0) htx) rfl rfl v_9_205 rfl rfl (by decide) rfl rfl (Nat.le_of_ble_eq_true rfl) (by omega) (Nat.zero_le _) (fun M1 p1 => ?_)
  have hS1 : EqF (onS h) M M1 := hSu.tr p1.1.s
  have hw1 := p1.2
  have ht1 := ht.eq hS1.sr
  have u1 : ∀ (k : Ky) (j : Nat), onX k j → M1.1 k j = (ui M (61, 0) h (nI (b + 1))).1 k j := fun k j z => (p1.1 k j z).1
  refine x_aload_n rfl rfl rfl ?_
  refine x_aload_n rfl rfl rfl ?_
  refine x_getR0 rfl rfl f_9_48 rfl (by decide) rfl rfl ?_
  refine x_bipush (v := nI 6) rfl rfl (by decide +kernel) ?_
  refine x_iload_n rfl rfl rfl ?_
  refine x_imulN (a := 6) (b := i) rfl rfl ?_
  refine x_iload rfl rfl rfl ?_
  refine x_iaddN (a := 6 * i) (b := b) rfl rfl ?_
  refine x_laldv (a := (6 * i) + b) (v := (tV x)[b]?.getD 0) (ht1.2.2.2.2.2.1.at (k := b) (by omega)) rfl rfl rfl (by decide) (by omega) (by decide) ?_
  have hwE := hw1
  have hRE := hR.eq hS1.sr
  have hvE := hok.2.2.1 _ (getD_mem (l := tV x) (j := b) (by omega))
  have hTE : TopS h i a (b + 1) ov M1 := ⟨by rw [u1 _ _ (by simp [onX])]; simpa [ui] using q1, by rw [u1 _ _ (by simp [onX])]; simpa [ui] using q2, by rw [u1 _ _ (by simp [onX])]; simpa [ui] using q3, by rw [u1 _ _ (by simp [onX])]; simp [ui], by rw [u1 _ _ (by simp [onX])]; simpa [ui] using q5⟩
  have hhE := hTE.1
  refine x_callVe (k2 := 0) (d2 := 5) (c_memitValue (h := h + 1) hG (Nat.le_refl 5) hwf (s := strT ((tY x)[b]?.getD 0) (s)) hwE (by first | omega | (have := strT_len ((tY x)[b]?.getD 0) s; omega)) hRE hhE (by omega) _ hvE) rfl rfl v_9_223 rfl rfl (by decide) rfl rfl (Nat.le_of_ble_eq_true rfl) (by omega) (Nat.zero_le _) (fun M9 q9 => ?_)
  refine x_goto rfl rfl ?_
  refine x_goto rfl rfl ?_
  exact fr_e (x_vret rfl rfl rfl (Nat.zero_le _)) ⟨M1, hS1, hTE, hwE, q9⟩
set_option maxHeartbeats 4000000 in
set_option maxRecDepth 20000 in
theorem c_goP2_9F (hG : Gok G) (hd : 6 ≤ d) (hwf : wfA A) {s : WS} (hw0 : WrM s M) (hb : s.1.length ≤ 600) (hR : RM A M) {h i a b : Nat} {ov : Prop} (hT : TopS h i a b ov M) (hh : h < 12) {x : Th} (hx : (aH A)[i]? = some x) (hal : a ≤ (tL x).length) (hbl : b ≤ (tY x).length) (hk : tK x = 9) (hle : a = (tL x).length) (hov : ¬ ov) (hbb : b = (tY x).length) : Ce G mX9_goOn d [.ref (ga G (40, 0))] M (.inl none) (fun M' => EqF (onS h) M M' ∧ TopS h i a b True M' ∧ WrM (strT 0 s) M') 0 := by
  have hS0 : EqF onX M M := EqF.rf
  have ht := hR.1.2.2.1 i x hx
  have ht0 := ht
  have hil := at_lt hx
  have hn40 := hR.n40
  have hl8 := ht.2.2.2.2.2.2.2.2.2.1
  have hl6 := ht.2.2.2.2.2.2.2.2.2.2.1
  have hlv := ht.2.2.2.2.2.2.2.2.2.2.2.1
  have hk16 := ht.2.2.2.2.2.2.2.2.2.2.2.2
  have hok := hwf.2.2.1 _ (at_mem hx)
  obtain ⟨q1, q2, q3, q4, q5⟩ := hT
  have htx : isTx 0 := Or.inl rfl
  refine ce_of hG okX9_goOn (by decide +kernel) rfl (Nat.le_of_ble_eq_true rfl) ?_
  refine x_aload_n rfl rfl rfl ?_
  refine x_getIv (v := nI (h + 1)) q1 rfl rfl f_9_196 rfl (by decide) rfl ?_
  refine x_iconstN (b := 1) rfl rfl ?_
  refine x_isubN (a := h + 1) (b := 1) (by omega) rfl rfl ?_
  refine x_istore_n rfl rfl rfl rfl ?_
  refine x_aload_n rfl rfl rfl ?_
  refine x_getR0 rfl rfl f_9_66 rfl (by decide) rfl rfl ?_
  refine x_iload_n rfl rfl rfl ?_
  refine x_ialdv (a := h) (v := nI i) q2 rfl rfl rfl (by decide) (by omega) (by decide) ?_
  refine x_istore_n rfl rfl rfl rfl ?_
  refine x_aload_n rfl rfl rfl ?_
  refine x_getR0 rfl rfl f_9_69 rfl (by decide) rfl rfl ?_
  refine x_iload_n rfl rfl rfl ?_
  refine x_ialdv (a := h) (v := nI a) q3 rfl rfl rfl (by decide) (by omega) (by decide) ?_
  refine x_aload_n rfl rfl rfl ?_
  refine x_getR0 rfl rfl f_9_33 rfl (by decide) rfl rfl ?_
  refine x_iload_n rfl rfl rfl ?_
  refine x_ialdv (a := i) (v := nI ((tL x).length)) ht0.2.1 rfl rfl rfl (by decide) (by omega) (by decide) ?_
  refine x_icmpN_ge (by omega) (by omega) rfl rfl (fun hc1 => ?_) (fun hc1 => absurd hc1 (by omega))
  refine x_iconstN (b := 0) rfl rfl ?_
  refine x_istore_n rfl rfl rfl rfl ?_
  refine x_aload_n rfl rfl rfl ?_
  refine x_getR0 rfl rfl f_9_75 rfl (by decide) rfl rfl ?_
  refine x_iload_n rfl rfl rfl ?_
  refine x_zaldv (a := h) (v := bI (ov)) q5 rfl rfl rfl (by decide) (by omega) (by decide) ?_
  refine x_ifB_ne rfl rfl (fun hc2 => absurd hc2 hov) (fun hc2 => ?_)
  refine x_aload_n rfl rfl rfl ?_
  refine x_getR0 rfl rfl f_9_27 rfl (by decide) rfl rfl ?_
  refine x_iload_n rfl rfl rfl ?_
  refine x_ialdv (a := i) (v := nI 9) (ht0.1.trans (by rw [hk])) rfl rfl rfl (by decide) (by omega) (by decide) ?_
  refine x_bipush (v := nI 9) rfl rfl (by decide +kernel) ?_
  refine x_icmpN_eq (by omega) (by omega) rfl rfl (fun hc3 => ?_) (fun hc3 => absurd hc3 (by omega))
  refine x_iconstN (b := 1) rfl rfl ?_
  refine x_goto rfl rfl ?_
  refine x_istore rfl rfl rfl rfl ?_
  refine x_iload rfl rfl rfl ?_
  refine x_if_eq rfl rfl (fun hc4 => absurd hc4 (by decide +kernel)) (fun _ => ?_)
  refine x_aload_n rfl rfl rfl ?_
  refine x_getR0 rfl rfl f_9_72 rfl (by decide) rfl rfl ?_
  refine x_iload_n rfl rfl rfl ?_
  refine x_ialdv (a := h) (v := nI b) q4 rfl rfl rfl (by decide) (by omega) (by decide) ?_
  refine x_istore rfl rfl rfl rfl ?_
  refine x_iload rfl rfl rfl ?_
  refine x_aload_n rfl rfl rfl ?_
  refine x_getR0 rfl rfl f_9_42 rfl (by decide) rfl rfl ?_
  refine x_iload_n rfl rfl rfl ?_
  refine x_ialdv (a := i) (v := nI ((tY x).length)) ht0.2.2.2.1 rfl rfl rfl (by decide) (by omega) (by decide) ?_
  refine x_icmpN_ge (by omega) (by omega) rfl rfl (fun hc5 => ?_) (fun hc5 => absurd hc5 (by omega))
  refine x_aload_n rfl rfl rfl ?_
  refine x_lconst (v := 0) rfl rfl (by decide +kernel) ?_
  have hSu : EqF (onS h) M M := EqF.rf
  have hwu : WrM s M := hw0
  refine x_callVe (k2 := 0) (d2 := 2) (c_memitString hG (Nat.le_refl 2) hwu (by omega) (0) htx) rfl rfl v_9_205 rfl rfl (by decide) rfl rfl (Nat.le_of_ble_eq_true rfl) (by omega) (Nat.zero_le _) (fun M1 p1 => ?_)
  have hS1 : EqF (onS h) M M1 := hSu.tr p1.1.s
  have hw1 := p1.2
  have ht1 := ht.eq hS1.sr
  have u1 : ∀ (k : Ky) (j : Nat), onX k j → M1.1 k j = M.1 k j := fun k j z => (p1.1 k j z).1
  refine x_aload_n rfl rfl rfl ?_
  refine x_getR0 rfl rfl f_9_75 rfl (by decide) rfl rfl ?_
  refine x_iload_n rfl rfl rfl ?_
  refine x_iconstN (b := 1) rfl rfl ?_
  refine x_zast (a := h) rfl rfl rfl (by decide) (by omega) (by decide) (by first | exact Or.inl rfl | exact Or.inr rfl | exact bI_01 _ | assumption) ?_
  refine x_goto rfl rfl ?_
  exact fr_e (x_vret rfl rfl rfl (Nat.zero_le _)) ⟨hS1.ui (by simp [onS]), ⟨by rw [ui_v, if_neg (by simp), u1 _ _ (by simp [onX])]; exact q1, by rw [ui_v, if_neg (by simp), u1 _ _ (by simp [onX])]; exact q2, by rw [ui_v, if_neg (by simp), u1 _ _ (by simp [onX])]; exact q3, by rw [ui_v, if_neg (by simp), u1 _ _ (by simp [onX])]; exact q4, by rw [ui_v, if_pos ⟨rfl, rfl⟩, bI_t trivial]⟩, hw1.eq (EqF.rf.ui (by simp [onV]))⟩
set_option maxHeartbeats 4000000 in
set_option maxRecDepth 20000 in
theorem c_goP1_10F (hG : Gok G) (hd : 6 ≤ d) (hwf : wfA A) {s : WS} (hw0 : WrM s M) (hb : s.1.length ≤ 600) (hR : RM A M) {h i a b : Nat} {ov : Prop} (hT : TopS h i a b ov M) (hh : h < 12) {x : Th} (hx : (aH A)[i]? = some x) (hal : a ≤ (tL x).length) (hbl : b ≤ (tY x).length) (hk : tK x = 10) (hle : a = (tL x).length) (hov : ¬ ov) (hbb : b < (tY x).length) : Ce G mX9_goOn d [.ref (ga G (40, 0))] M (.inl none) (fun M' => ∃ M1, EqF (onS h) M M1 ∧ TopS h i a (b + 1) ov M1 ∧ WrM (strT ((tY x)[b]?.getD 0) s) M1 ∧ PH A (h + 1) M1 (vhd A (h + 1) ((tV x)[b]?.getD 0) (strT ((tY x)[b]?.getD 0) s)) M') 0 := by
  have hS0 : EqF onX M M := EqF.rf
  have ht := hR.1.2.2.1 i x hx
  have ht0 := ht
  have hil := at_lt hx
  have hn40 := hR.n40
  have hl8 := ht.2.2.2.2.2.2.2.2.2.1
  have hl6 := ht.2.2.2.2.2.2.2.2.2.2.1
  have hlv := ht.2.2.2.2.2.2.2.2.2.2.2.1
  have hk16 := ht.2.2.2.2.2.2.2.2.2.2.2.2
  have hok := hwf.2.2.1 _ (at_mem hx)
  obtain ⟨q1, q2, q3, q4, q5⟩ := hT
  have htx := (hok.2.2.2.1 _ (getD_mem (l := tY x) (j := b) (by omega))).1
  refine ce_of hG okX9_goOn (by decide +kernel) rfl (Nat.le_of_ble_eq_true rfl) ?_
  refine x_aload_n rfl rfl rfl ?_
  refine x_getIv (v := nI (h + 1)) q1 rfl rfl f_9_196 rfl (by decide) rfl ?_
  refine x_iconstN (b := 1) rfl rfl ?_
  refine x_isubN (a := h + 1) (b := 1) (by omega) rfl rfl ?_
  refine x_istore_n rfl rfl rfl rfl ?_
  refine x_aload_n rfl rfl rfl ?_
  refine x_getR0 rfl rfl f_9_66 rfl (by decide) rfl rfl ?_
  refine x_iload_n rfl rfl rfl ?_
  refine x_ialdv (a := h) (v := nI i) q2 rfl rfl rfl (by decide) (by omega) (by decide) ?_
  refine x_istore_n rfl rfl rfl rfl ?_
  refine x_aload_n rfl rfl rfl ?_
  refine x_getR0 rfl rfl f_9_69 rfl (by decide) rfl rfl ?_
  refine x_iload_n rfl rfl rfl ?_
  refine x_ialdv (a := h) (v := nI a) q3 rfl rfl rfl (by decide) (by omega) (by decide) ?_
  refine x_aload_n rfl rfl rfl ?_
  refine x_getR0 rfl rfl f_9_33 rfl (by decide) rfl rfl ?_
  refine x_iload_n rfl rfl rfl ?_
  refine x_ialdv (a := i) (v := nI ((tL x).length)) ht0.2.1 rfl rfl rfl (by decide) (by omega) (by decide) ?_
  refine x_icmpN_ge (by omega) (by omega) rfl rfl (fun hc1 => ?_) (fun hc1 => absurd hc1 (by omega))
  refine x_iconstN (b := 0) rfl rfl ?_
  refine x_istore_n rfl rfl rfl rfl ?_
  refine x_aload_n rfl rfl rfl ?_
  refine x_getR0 rfl rfl f_9_75 rfl (by decide) rfl rfl ?_
  refine x_iload_n rfl rfl rfl ?_
  refine x_zaldv (a := h) (v := bI (ov)) q5 rfl rfl rfl (by decide) (by omega) (by decide) ?_
  refine x_ifB_ne rfl rfl (fun hc2 => absurd hc2 hov) (fun hc2 => ?_)
  refine x_aload_n rfl rfl rfl ?_
  refine x_getR0 rfl rfl f_9_27 rfl (by decide) rfl rfl ?_
  refine x_iload_n rfl rfl rfl ?_
  refine x_ialdv (a := i) (v := nI 10) (ht0.1.trans (by rw [hk])) rfl rfl rfl (by decide) (by omega) (by decide) ?_
  refine x_bipush (v := nI 9) rfl rfl (by decide +kernel) ?_
  refine x_icmpN_eq (by omega) (by omega) rfl rfl (fun hc3 => absurd hc3 (by omega)) (fun hc3 => ?_)
  refine x_iload_n rfl rfl rfl ?_
  refine x_if_ne rfl rfl (fun hc4 => absurd hc4 (by decide +kernel)) (fun _ => ?_)
  refine x_iconstN (b := 1) rfl rfl ?_
  refine x_goto rfl rfl ?_
  refine x_istore rfl rfl rfl rfl ?_
  refine x_iload rfl rfl rfl ?_
  refine x_if_eq rfl rfl (fun hc5 => absurd hc5 (by decide +kernel)) (fun _ => ?_)
  refine x_aload_n rfl rfl rfl ?_
  refine x_getR0 rfl rfl f_9_72 rfl (by decide) rfl rfl ?_
  refine x_iload_n rfl rfl rfl ?_
  refine x_ialdv (a := h) (v := nI b) q4 rfl rfl rfl (by decide) (by omega) (by decide) ?_
  refine x_istore rfl rfl rfl rfl ?_
  refine x_iload rfl rfl rfl ?_
  refine x_aload_n rfl rfl rfl ?_
  refine x_getR0 rfl rfl f_9_42 rfl (by decide) rfl rfl ?_
  refine x_iload_n rfl rfl rfl ?_
  refine x_ialdv (a := i) (v := nI ((tY x).length)) ht0.2.2.2.1 rfl rfl rfl (by decide) (by omega) (by decide) ?_
  refine x_icmpN_ge (by omega) (by omega) rfl rfl (fun hc6 => absurd hc6 (by omega)) (fun hc6 => ?_)
  refine x_aload_n rfl rfl rfl ?_
  refine x_getR0 rfl rfl f_9_72 rfl (by decide) rfl rfl ?_
  refine x_iload_n rfl rfl rfl ?_
  refine x_dup2 rfl rfl rfl rfl ?_
  refine x_ialdv (a := h) (v := nI b) q4 rfl rfl rfl (by decide) (by omega) (by decide) ?_
  refine x_iconstN (b := 1) rfl rfl ?_
  refine x_iaddN (a := b) (b := 1) rfl rfl ?_
  refine x_iast (a := h) rfl rfl rfl (by decide) (by omega) (by decide) ?_
  refine x_aload_n rfl rfl rfl ?_
  refine x_aload_n rfl rfl rfl ?_
  refine x_getR0 rfl rfl f_9_45 rfl (by decide) rfl rfl ?_
  refine x_bipush (v := nI 6) rfl rfl (by decide +kernel) ?_
  refine x_iload_n rfl rfl rfl ?_
  refine x_imulN (a := 6) (b := i) rfl rfl ?_
  refine x_iload rfl rfl rfl ?_
  refine x_iaddN (a := 6 * i) (b := b) rfl rfl ?_
  refine x_laldv (a := (6 * i) + b) (v := (tY x)[b]?.getD 0) (by first | exact (ht0.2.2.2.2.1.at (k := b) (by omega)) | (rw [← (ht0.2.2.2.2.1.at (k := b) (by omega))]; rfl) | simp [ui, ul, (ht0.2.2.2.2.1.at (k := b) (by omega))]) rfl rfl rfl (by decide) (by omega) (by decide) ?_
  have hSu : EqF (onS h) M (ui M (61, 0) h (nI (b + 1))) := EqF.rf.ui (by simp [onS])
  have hwu : WrM s (ui M (61, 0) h (nI (b + 1))) := hw0.eq (EqF.rf.ui (by simp [onV]))
  refine x_callVe (k2 := 0) (d2 := 2) (c_memitString hG (Nat.le_refl 2) hwu (by omega) ((tY x)[b]?.getD 0) htx) rfl rfl v_9_205 rfl rfl (by decide) rfl rfl (Nat.le_of_ble_eq_true rfl) (by omega) (Nat.zero_le _) (fun M1 p1 => ?_)
  have hS1 : EqF (onS h) M M1 := hSu.tr p1.1.s
  have hw1 := p1.2
  have ht1 := ht.eq hS1.sr
  have u1 : ∀ (k : Ky) (j : Nat), onX k j → M1.1 k j = (ui M (61, 0) h (nI (b + 1))).1 k j := fun k j z => (p1.1 k j z).1
  refine x_aload_n rfl rfl rfl ?_
  refine x_aload_n rfl rfl rfl ?_
  refine x_getR0 rfl rfl f_9_48 rfl (by decide) rfl rfl ?_
  refine x_bipush (v := nI 6) rfl rfl (by decide +kernel) ?_
  refine x_iload_n rfl rfl rfl ?_
  refine x_imulN (a := 6) (b := i) rfl rfl ?_
  refine x_iload rfl rfl rfl ?_
  refine x_iaddN (a := 6 * i) (b := b) rfl rfl ?_
  refine x_laldv (a := (6 * i) + b) (v := (tV x)[b]?.getD 0) (ht1.2.2.2.2.2.1.at (k := b) (by omega)) rfl rfl rfl (by decide) (by omega) (by decide) ?_
  have hwE := hw1
  have hRE := hR.eq hS1.sr
  have hvE := hok.2.2.1 _ (getD_mem (l := tV x) (j := b) (by omega))
  have hTE : TopS h i a (b + 1) ov M1 := ⟨by rw [u1 _ _ (by simp [onX])]; simpa [ui] using q1, by rw [u1 _ _ (by simp [onX])]; simpa [ui] using q2, by rw [u1 _ _ (by simp [onX])]; simpa [ui] using q3, by rw [u1 _ _ (by simp [onX])]; simp [ui], by rw [u1 _ _ (by simp [onX])]; simpa [ui] using q5⟩
  have hhE := hTE.1
  refine x_callVe (k2 := 0) (d2 := 5) (c_memitValue (h := h + 1) hG (Nat.le_refl 5) hwf (s := strT ((tY x)[b]?.getD 0) (s)) hwE (by first | omega | (have := strT_len ((tY x)[b]?.getD 0) s; omega)) hRE hhE (by omega) _ hvE) rfl rfl v_9_223 rfl rfl (by decide) rfl rfl (Nat.le_of_ble_eq_true rfl) (by omega) (Nat.zero_le _) (fun M9 q9 => ?_)
  refine x_goto rfl rfl ?_
  refine x_goto rfl rfl ?_
  exact fr_e (x_vret rfl rfl rfl (Nat.zero_le _)) ⟨M1, hS1, hTE, hwE, q9⟩
set_option maxHeartbeats 4000000 in
set_option maxRecDepth 20000 in
theorem c_goP2_10F (hG : Gok G) (hd : 6 ≤ d) (hwf : wfA A) {s : WS} (hw0 : WrM s M) (hb : s.1.length ≤ 600) (hR : RM A M) {h i a b : Nat} {ov : Prop} (hT : TopS h i a b ov M) (hh : h < 12) {x : Th} (hx : (aH A)[i]? = some x) (hal : a ≤ (tL x).length) (hbl : b ≤ (tY x).length) (hk : tK x = 10) (hle : a = (tL x).length) (hov : ¬ ov) (hbb : b = (tY x).length) : Ce G mX9_goOn d [.ref (ga G (40, 0))] M (.inl none) (fun M' => EqF (onS h) M M' ∧ TopS h i a b True M' ∧ WrM (strT 0 s) M') 0 := by
  have hS0 : EqF onX M M := EqF.rf
  have ht := hR.1.2.2.1 i x hx
  have ht0 := ht
  have hil := at_lt hx
  have hn40 := hR.n40
  have hl8 := ht.2.2.2.2.2.2.2.2.2.1
  have hl6 := ht.2.2.2.2.2.2.2.2.2.2.1
  have hlv := ht.2.2.2.2.2.2.2.2.2.2.2.1
  have hk16 := ht.2.2.2.2.2.2.2.2.2.2.2.2
  have hok := hwf.2.2.1 _ (at_mem hx)
  obtain ⟨q1, q2, q3, q4, q5⟩ := hT
  have htx : isTx 0 := Or.inl rfl
  refine ce_of hG okX9_goOn (by decide +kernel) rfl (Nat.le_of_ble_eq_true rfl) ?_
  refine x_aload_n rfl rfl rfl ?_
  refine x_getIv (v := nI (h + 1)) q1 rfl rfl f_9_196 rfl (by decide) rfl ?_
  refine x_iconstN (b := 1) rfl rfl ?_
  refine x_isubN (a := h + 1) (b := 1) (by omega) rfl rfl ?_
  refine x_istore_n rfl rfl rfl rfl ?_
  refine x_aload_n rfl rfl rfl ?_
  refine x_getR0 rfl rfl f_9_66 rfl (by decide) rfl rfl ?_
  refine x_iload_n rfl rfl rfl ?_
  refine x_ialdv (a := h) (v := nI i) q2 rfl rfl rfl (by decide) (by omega) (by decide) ?_
  refine x_istore_n rfl rfl rfl rfl ?_
  refine x_aload_n rfl rfl rfl ?_
  refine x_getR0 rfl rfl f_9_69 rfl (by decide) rfl rfl ?_
  refine x_iload_n rfl rfl rfl ?_
  refine x_ialdv (a := h) (v := nI a) q3 rfl rfl rfl (by decide) (by omega) (by decide) ?_
  refine x_aload_n rfl rfl rfl ?_
  refine x_getR0 rfl rfl f_9_33 rfl (by decide) rfl rfl ?_
  refine x_iload_n rfl rfl rfl ?_
  refine x_ialdv (a := i) (v := nI ((tL x).length)) ht0.2.1 rfl rfl rfl (by decide) (by omega) (by decide) ?_
  refine x_icmpN_ge (by omega) (by omega) rfl rfl (fun hc1 => ?_) (fun hc1 => absurd hc1 (by omega))
  refine x_iconstN (b := 0) rfl rfl ?_
  refine x_istore_n rfl rfl rfl rfl ?_
  refine x_aload_n rfl rfl rfl ?_
  refine x_getR0 rfl rfl f_9_75 rfl (by decide) rfl rfl ?_
  refine x_iload_n rfl rfl rfl ?_
  refine x_zaldv (a := h) (v := bI (ov)) q5 rfl rfl rfl (by decide) (by omega) (by decide) ?_
  refine x_ifB_ne rfl rfl (fun hc2 => absurd hc2 hov) (fun hc2 => ?_)
  refine x_aload_n rfl rfl rfl ?_
  refine x_getR0 rfl rfl f_9_27 rfl (by decide) rfl rfl ?_
  refine x_iload_n rfl rfl rfl ?_
  refine x_ialdv (a := i) (v := nI 10) (ht0.1.trans (by rw [hk])) rfl rfl rfl (by decide) (by omega) (by decide) ?_
  refine x_bipush (v := nI 9) rfl rfl (by decide +kernel) ?_
  refine x_icmpN_eq (by omega) (by omega) rfl rfl (fun hc3 => absurd hc3 (by omega)) (fun hc3 => ?_)
  refine x_iload_n rfl rfl rfl ?_
  refine x_if_ne rfl rfl (fun hc4 => absurd hc4 (by decide +kernel)) (fun _ => ?_)
  refine x_iconstN (b := 1) rfl rfl ?_
  refine x_goto rfl rfl ?_
  refine x_istore rfl rfl rfl rfl ?_
  refine x_iload rfl rfl rfl ?_
  refine x_if_eq rfl rfl (fun hc5 => absurd hc5 (by decide +kernel)) (fun _ => ?_)
  refine x_aload_n rfl rfl rfl ?_
  refine x_getR0 rfl rfl f_9_72 rfl (by decide) rfl rfl ?_
  refine x_iload_n rfl rfl rfl ?_
  refine x_ialdv (a := h) (v := nI b) q4 rfl rfl rfl (by decide) (by omega) (by decide) ?_
  refine x_istore rfl rfl rfl rfl ?_
  refine x_iload rfl rfl rfl ?_
  refine x_aload_n rfl rfl rfl ?_
  refine x_getR0 rfl rfl f_9_42 rfl (by decide) rfl rfl ?_
  refine x_iload_n rfl rfl rfl ?_
  refine x_ialdv (a := i) (v := nI ((tY x).length)) ht0.2.2.2.1 rfl rfl rfl (by decide) (by omega) (by decide) ?_
  refine x_icmpN_ge (by omega) (by omega) rfl rfl (fun hc6 => ?_) (fun hc6 => absurd hc6 (by omega))
  refine x_aload_n rfl rfl rfl ?_
  refine x_lconst (v := 0) rfl rfl (by decide +kernel) ?_
  have hSu : EqF (onS h) M M := EqF.rf
  have hwu : WrM s M := hw0
  refine x_callVe (k2 := 0) (d2 := 2) (c_memitString hG (Nat.le_refl 2) hwu (by omega) (0) htx) rfl rfl v_9_205 rfl rfl (by decide) rfl rfl (Nat.le_of_ble_eq_true rfl) (by omega) (Nat.zero_le _) (fun M1 p1 => ?_)
  have hS1 : EqF (onS h) M M1 := hSu.tr p1.1.s
  have hw1 := p1.2
  have ht1 := ht.eq hS1.sr
  have u1 : ∀ (k : Ky) (j : Nat), onX k j → M1.1 k j = M.1 k j := fun k j z => (p1.1 k j z).1
  refine x_aload_n rfl rfl rfl ?_
  refine x_getR0 rfl rfl f_9_75 rfl (by decide) rfl rfl ?_
  refine x_iload_n rfl rfl rfl ?_
  refine x_iconstN (b := 1) rfl rfl ?_
  refine x_zast (a := h) rfl rfl rfl (by decide) (by omega) (by decide) (by first | exact Or.inl rfl | exact Or.inr rfl | exact bI_01 _ | assumption) ?_
  refine x_goto rfl rfl ?_
  exact fr_e (x_vret rfl rfl rfl (Nat.zero_le _)) ⟨hS1.ui (by simp [onS]), ⟨by rw [ui_v, if_neg (by simp), u1 _ _ (by simp [onX])]; exact q1, by rw [ui_v, if_neg (by simp), u1 _ _ (by simp [onX])]; exact q2, by rw [ui_v, if_neg (by simp), u1 _ _ (by simp [onX])]; exact q3, by rw [ui_v, if_neg (by simp), u1 _ _ (by simp [onX])]; exact q4, by rw [ui_v, if_pos ⟨rfl, rfl⟩, bI_t trivial]⟩, hw1.eq (EqF.rf.ui (by simp [onV]))⟩
set_option maxHeartbeats 4000000 in
set_option maxRecDepth 20000 in
theorem c_goI_O (hG : Gok G) (hd : 6 ≤ d) (hwf : wfA A) {s : WS} (hw0 : WrM s M) (hb : s.1.length ≤ 600) (hR : RM A M) {h i a b : Nat} {ov : Prop} (hT : TopS h i a b ov M) (hh : h < 12) {x : Th} (hx : (aH A)[i]? = some x) (hal : a ≤ (tL x).length) (hbl : b ≤ (tY x).length) (hk9 : tK x = 9 ∨ tK x = 10) (hle : a < (tL x).length) (hov : ov) : Ce G mX9_goOn d [.ref (ga G (40, 0))] M (.inl none) (fun M' => ∃ M1, EqF (onS h) M M1 ∧ TopS h i (a + 1) b ov M1 ∧ WrM (s) M1 ∧ PH A (h + 1) M1 (vhd A (h + 1) ((tL x)[a]?.getD 0) (s)) M') 0 := by
  have hS0 : EqF onX M M := EqF.rf
  have ht := hR.1.2.2.1 i x hx
  have ht0 := ht
  have hil := at_lt hx
  have hn40 := hR.n40
  have hl8 := ht.2.2.2.2.2.2.2.2.2.1
  have hl6 := ht.2.2.2.2.2.2.2.2.2.2.1
  have hlv := ht.2.2.2.2.2.2.2.2.2.2.2.1
  have hk16 := ht.2.2.2.2.2.2.2.2.2.2.2.2
  have hok := hwf.2.2.1 _ (at_mem hx)
  obtain ⟨q1, q2, q3, q4, q5⟩ := hT
  have hk12 : ¬ tK x = 12 := by omega
  refine ce_of hG okX9_goOn (by decide +kernel) rfl (Nat.le_of_ble_eq_true rfl) ?_
  refine x_aload_n rfl rfl rfl ?_
  refine x_getIv (v := nI (h + 1)) q1 rfl rfl f_9_196 rfl (by decide) rfl ?_
  refine x_iconstN (b := 1) rfl rfl ?_
  refine x_isubN (a := h + 1) (b := 1) (by omega) rfl rfl ?_
  refine x_istore_n rfl rfl rfl rfl ?_
  refine x_aload_n rfl rfl rfl ?_
  refine x_getR0 rfl rfl f_9_66 rfl (by decide) rfl rfl ?_
  refine x_iload_n rfl rfl rfl ?_
  refine x_ialdv (a := h) (v := nI i) q2 rfl rfl rfl (by decide) (by omega) (by decide) ?_
  refine x_istore_n rfl rfl rfl rfl ?_
  refine x_aload_n rfl rfl rfl ?_
  refine x_getR0 rfl rfl f_9_69 rfl (by decide) rfl rfl ?_
  refine x_iload_n rfl rfl rfl ?_
  refine x_ialdv (a := h) (v := nI a) q3 rfl rfl rfl (by decide) (by omega) (by decide) ?_
  refine x_aload_n rfl rfl rfl ?_
  refine x_getR0 rfl rfl f_9_33 rfl (by decide) rfl rfl ?_
  refine x_iload_n rfl rfl rfl ?_
  refine x_ialdv (a := i) (v := nI ((tL x).length)) ht0.2.1 rfl rfl rfl (by decide) (by omega) (by decide) ?_
  refine x_icmpN_ge (by omega) (by omega) rfl rfl (fun hc1 => absurd hc1 (by omega)) (fun hc1 => ?_)
  refine x_iconstN (b := 1) rfl rfl ?_
  refine x_goto rfl rfl ?_
  refine x_istore_n rfl rfl rfl rfl ?_
  refine x_aload_n rfl rfl rfl ?_
  refine x_getR0 rfl rfl f_9_75 rfl (by decide) rfl rfl ?_
  refine x_iload_n rfl rfl rfl ?_
  refine x_zaldv (a := h) (v := bI (ov)) q5 rfl rfl rfl (by decide) (by omega) (by decide) ?_
  refine x_ifB_ne rfl rfl (fun hc2 => ?_) (fun hc2 => absurd hov hc2)
  refine x_iconstN (b := 0) rfl rfl ?_
  refine x_istore rfl rfl rfl rfl ?_
  refine x_iload rfl rfl rfl ?_
  refine x_if_eq rfl rfl (fun _ => ?_) (fun hc3 => absurd hc3 (by decide +kernel))
  refine x_iload_n rfl rfl rfl ?_
  refine x_if_eq rfl rfl (fun hc4 => absurd hc4 (by decide +kernel)) (fun _ => ?_)
  refine x_aload_n rfl rfl rfl ?_
  refine x_getR0 rfl rfl f_9_69 rfl (by decide) rfl rfl ?_
  refine x_iload_n rfl rfl rfl ?_
  refine x_dup2 rfl rfl rfl rfl ?_
  refine x_ialdv (a := h) (v := nI a) q3 rfl rfl rfl (by decide) (by omega) (by decide) ?_
  refine x_iconstN (b := 1) rfl rfl ?_
  refine x_iaddN (a := a) (b := 1) rfl rfl ?_
  refine x_iast (a := h) rfl rfl rfl (by decide) (by omega) (by decide) ?_
  refine x_aload_n rfl rfl rfl ?_
  refine x_aload_n rfl rfl rfl ?_
  refine x_getR0 rfl rfl f_9_39 rfl (by decide) rfl rfl ?_
  refine x_bipush (v := nI 8) rfl rfl (by decide +kernel) ?_
  refine x_iload_n rfl rfl rfl ?_
  refine x_imulN (a := 8) (b := i) rfl rfl ?_
  refine x_aload_n rfl rfl rfl ?_
  refine x_getR0 rfl rfl f_9_69 rfl (by decide) rfl rfl ?_
  refine x_iload_n rfl rfl rfl ?_
  refine x_ialdv (a := h) (v := nI (a + 1)) (by first | rfl | simp [ui, ul]) rfl rfl rfl (by decide) (by omega) (by decide) ?_
  refine x_iaddN (a := 8 * i) (b := a + 1) rfl rfl ?_
  refine x_iconstN (b := 1) rfl rfl ?_
  refine x_isubN (a := (8 * i) + (a + 1)) (b := 1) (by omega) rfl rfl ?_
  refine x_topI (v := nI ((8 * i) + a)) (by congr 1) ?_
  refine x_laldv (a := (8 * i) + a) (v := (tL x)[a]?.getD 0) (by first | exact (by have := (ht0.2.2.2.2.2.2.1 hk12).at (k := a) (by omega); rw [← this]; congr 1) | (rw [← (by have := (ht0.2.2.2.2.2.2.1 hk12).at (k := a) (by omega); rw [← this]; congr 1)]; rfl) | simp [ui, ul, (by have := (ht0.2.2.2.2.2.2.1 hk12).at (k := a) (by omega); rw [← this]; congr 1)]) rfl rfl rfl (by decide) (by omega) (by decide) ?_
  have hS1 : EqF (onS h) M (ui M (60, 0) h (nI (a + 1))) := EqF.rf.ui (by simp [onS])
  have hwE : WrM s (ui M (60, 0) h (nI (a + 1))) := hw0.eq (EqF.rf.ui (by simp [onV]))
  have hRE := hR.eq hS1.sr
  have hvE := hok.2.1 _ (getD_mem (l := tL x) (j := a) (by omega))
  have hTE : TopS h i (a + 1) b ov (ui M (60, 0) h (nI (a + 1))) := ⟨by simpa [ui] using q1, by simpa [ui] using q2, by simp [ui], by simpa [ui] using q4, by simpa [ui] using q5⟩
  have hhE := hTE.1
  refine x_callVe (k2 := 0) (d2 := 5) (c_memitValue (h := h + 1) hG (Nat.le_refl 5) hwf (s := s) hwE (by first | omega | (have := strT_len ((tY x)[b]?.getD 0) s; omega)) hRE hhE (by omega) _ hvE) rfl rfl v_9_223 rfl rfl (by decide) rfl rfl (Nat.le_of_ble_eq_true rfl) (by omega) (Nat.zero_le _) (fun M9 q9 => ?_)
  refine x_goto rfl rfl ?_
  exact fr_e (x_vret rfl rfl rfl (Nat.zero_le _)) ⟨_, hS1, hTE, hwE, q9⟩
set_option maxHeartbeats 4000000 in
set_option maxRecDepth 20000 in
theorem c_goI_10 (hG : Gok G) (hd : 6 ≤ d) (hwf : wfA A) {s : WS} (hw0 : WrM s M) (hb : s.1.length ≤ 600) (hR : RM A M) {h i a b : Nat} {ov : Prop} (hT : TopS h i a b ov M) (hh : h < 12) {x : Th} (hx : (aH A)[i]? = some x) (hal : a ≤ (tL x).length) (hbl : b ≤ (tY x).length) (hk : tK x = 10) (hle : a < (tL x).length) (hov : ¬ ov) : Ce G mX9_goOn d [.ref (ga G (40, 0))] M (.inl none) (fun M' => ∃ M1, EqF (onS h) M M1 ∧ TopS h i (a + 1) b ov M1 ∧ WrM (s) M1 ∧ PH A (h + 1) M1 (vhd A (h + 1) ((tL x)[a]?.getD 0) (s)) M') 0 := by
  have hS0 : EqF onX M M := EqF.rf
  have ht := hR.1.2.2.1 i x hx
  have ht0 := ht
  have hil := at_lt hx
  have hn40 := hR.n40
  have hl8 := ht.2.2.2.2.2.2.2.2.2.1
  have hl6 := ht.2.2.2.2.2.2.2.2.2.2.1
  have hlv := ht.2.2.2.2.2.2.2.2.2.2.2.1
  have hk16 := ht.2.2.2.2.2.2.2.2.2.2.2.2
  have hok := hwf.2.2.1 _ (at_mem hx)
  obtain ⟨q1, q2, q3, q4, q5⟩ := hT
  have hk12 : ¬ tK x = 12 := by omega
  refine ce_of hG okX9_goOn (by decide +kernel) rfl (Nat.le_of_ble_eq_true rfl) ?_
  refine x_aload_n rfl rfl rfl ?_
  refine x_getIv (v := nI (h + 1)) q1 rfl rfl f_9_196 rfl (by decide) rfl ?_
  refine x_iconstN (b := 1) rfl rfl ?_
  refine x_isubN (a := h + 1) (b := 1) (by omega) rfl rfl ?_
  refine x_istore_n rfl rfl rfl rfl ?_
  refine x_aload_n rfl rfl rfl ?_
  refine x_getR0 rfl rfl f_9_66 rfl (by decide) rfl rfl ?_
  refine x_iload_n rfl rfl rfl ?_
  refine x_ialdv (a := h) (v := nI i) q2 rfl rfl rfl (by decide) (by omega) (by decide) ?_
  refine x_istore_n rfl rfl rfl rfl ?_
  refine x_aload_n rfl rfl rfl ?_
  refine x_getR0 rfl rfl f_9_69 rfl (by decide) rfl rfl ?_
  refine x_iload_n rfl rfl rfl ?_
  refine x_ialdv (a := h) (v := nI a) q3 rfl rfl rfl (by decide) (by omega) (by decide) ?_
  refine x_aload_n rfl rfl rfl ?_
  refine x_getR0 rfl rfl f_9_33 rfl (by decide) rfl rfl ?_
  refine x_iload_n rfl rfl rfl ?_
  refine x_ialdv (a := i) (v := nI ((tL x).length)) ht0.2.1 rfl rfl rfl (by decide) (by omega) (by decide) ?_
  refine x_icmpN_ge (by omega) (by omega) rfl rfl (fun hc1 => absurd hc1 (by omega)) (fun hc1 => ?_)
  refine x_iconstN (b := 1) rfl rfl ?_
  refine x_goto rfl rfl ?_
  refine x_istore_n rfl rfl rfl rfl ?_
  refine x_aload_n rfl rfl rfl ?_
  refine x_getR0 rfl rfl f_9_75 rfl (by decide) rfl rfl ?_
  refine x_iload_n rfl rfl rfl ?_
  refine x_zaldv (a := h) (v := bI (ov)) q5 rfl rfl rfl (by decide) (by omega) (by decide) ?_
  refine x_ifB_ne rfl rfl (fun hc2 => absurd hc2 hov) (fun hc2 => ?_)
  refine x_aload_n rfl rfl rfl ?_
  refine x_getR0 rfl rfl f_9_27 rfl (by decide) rfl rfl ?_
  refine x_iload_n rfl rfl rfl ?_
  refine x_ialdv (a := i) (v := nI 10) (ht0.1.trans (by rw [hk])) rfl rfl rfl (by decide) (by omega) (by decide) ?_
  refine x_bipush (v := nI 9) rfl rfl (by decide +kernel) ?_
  refine x_icmpN_eq (by omega) (by omega) rfl rfl (fun hc3 => absurd hc3 (by omega)) (fun hc3 => ?_)
  refine x_iload_n rfl rfl rfl ?_
  refine x_if_ne rfl rfl (fun _ => ?_) (fun hc4 => absurd hc4 (by decide +kernel))
  refine x_iconstN (b := 0) rfl rfl ?_
  refine x_istore rfl rfl rfl rfl ?_
  refine x_iload rfl rfl rfl ?_
  refine x_if_eq rfl rfl (fun _ => ?_) (fun hc5 => absurd hc5 (by decide +kernel))
  refine x_iload_n rfl rfl rfl ?_
  refine x_if_eq rfl rfl (fun hc6 => absurd hc6 (by decide +kernel)) (fun _ => ?_)
  refine x_aload_n rfl rfl rfl ?_
  refine x_getR0 rfl rfl f_9_69 rfl (by decide) rfl rfl ?_
  refine x_iload_n rfl rfl rfl ?_
  refine x_dup2 rfl rfl rfl rfl ?_
  refine x_ialdv (a := h) (v := nI a) q3 rfl rfl rfl (by decide) (by omega) (by decide) ?_
  refine x_iconstN (b := 1) rfl rfl ?_
  refine x_iaddN (a := a) (b := 1) rfl rfl ?_
  refine x_iast (a := h) rfl rfl rfl (by decide) (by omega) (by decide) ?_
  refine x_aload_n rfl rfl rfl ?_
  refine x_aload_n rfl rfl rfl ?_
  refine x_getR0 rfl rfl f_9_39 rfl (by decide) rfl rfl ?_
  refine x_bipush (v := nI 8) rfl rfl (by decide +kernel) ?_
  refine x_iload_n rfl rfl rfl ?_
  refine x_imulN (a := 8) (b := i) rfl rfl ?_
  refine x_aload_n rfl rfl rfl ?_
  refine x_getR0 rfl rfl f_9_69 rfl (by decide) rfl rfl ?_
  refine x_iload_n rfl rfl rfl ?_
  refine x_ialdv (a := h) (v := nI (a + 1)) (by first | rfl | simp [ui, ul]) rfl rfl rfl (by decide) (by omega) (by decide) ?_
  refine x_iaddN (a := 8 * i) (b := a + 1) rfl rfl ?_
  refine x_iconstN (b := 1) rfl rfl ?_
  refine x_isubN (a := (8 * i) + (a + 1)) (b := 1) (by omega) rfl rfl ?_
  refine x_topI (v := nI ((8 * i) + a)) (by congr 1) ?_
  refine x_laldv (a := (8 * i) + a) (v := (tL x)[a]?.getD 0) (by first | exact (by have := (ht0.2.2.2.2.2.2.1 hk12).at (k := a) (by omega); rw [← this]; congr 1) | (rw [← (by have := (ht0.2.2.2.2.2.2.1 hk12).at (k := a) (by omega); rw [← this]; congr 1)]; rfl) | simp [ui, ul, (by have := (ht0.2.2.2.2.2.2.1 hk12).at (k := a) (by omega); rw [← this]; congr 1)]) rfl rfl rfl (by decide) (by omega) (by decide) ?_
  have hS1 : EqF (onS h) M (ui M (60, 0) h (nI (a + 1))) := EqF.rf.ui (by simp [onS])
  have hwE : WrM s (ui M (60, 0) h (nI (a + 1))) := hw0.eq (EqF.rf.ui (by simp [onV]))
  have hRE := hR.eq hS1.sr
  have hvE := hok.2.1 _ (getD_mem (l := tL x) (j := a) (by omega))
  have hTE : TopS h i (a + 1) b ov (ui M (60, 0) h (nI (a + 1))) := ⟨by simpa [ui] using q1, by simpa [ui] using q2, by simp [ui], by simpa [ui] using q4, by simpa [ui] using q5⟩
  have hhE := hTE.1
  refine x_callVe (k2 := 0) (d2 := 5) (c_memitValue (h := h + 1) hG (Nat.le_refl 5) hwf (s := s) hwE (by first | omega | (have := strT_len ((tY x)[b]?.getD 0) s; omega)) hRE hhE (by omega) _ hvE) rfl rfl v_9_223 rfl rfl (by decide) rfl rfl (Nat.le_of_ble_eq_true rfl) (by omega) (Nat.zero_le _) (fun M9 q9 => ?_)
  refine x_goto rfl rfl ?_
  exact fr_e (x_vret rfl rfl rfl (Nat.zero_le _)) ⟨_, hS1, hTE, hwE, q9⟩
set_option maxHeartbeats 4000000 in
set_option maxRecDepth 20000 in
theorem c_goE (hG : Gok G) (hd : 6 ≤ d) (hwf : wfA A) {s : WS} (hw0 : WrM s M) (hb : s.1.length ≤ 600) (hR : RM A M) {h i a b : Nat} {ov : Prop} (hT : TopS h i a b ov M) (hh : h < 12) {x : Th} (hx : (aH A)[i]? = some x) (hal : a ≤ (tL x).length) (hbl : b ≤ (tY x).length) (hle : a = (tL x).length) (hov : ov) : Ce G mX9_goOn d [.ref (ga G (40, 0))] M (.inl none) (fun M' => EqF (onS h) M M' ∧ M'.1 (40, 0) 28 = nI h ∧ WrM s M') 0 := by
  have hS0 : EqF onX M M := EqF.rf
  have ht := hR.1.2.2.1 i x hx
  have ht0 := ht
  have hil := at_lt hx
  have hn40 := hR.n40
  have hl8 := ht.2.2.2.2.2.2.2.2.2.1
  have hl6 := ht.2.2.2.2.2.2.2.2.2.2.1
  have hlv := ht.2.2.2.2.2.2.2.2.2.2.2.1
  have hk16 := ht.2.2.2.2.2.2.2.2.2.2.2.2
  have hok := hwf.2.2.1 _ (at_mem hx)
  obtain ⟨q1, q2, q3, q4, q5⟩ := hT
  refine ce_of hG okX9_goOn (by decide +kernel) rfl (Nat.le_of_ble_eq_true rfl) ?_
  refine x_aload_n rfl rfl rfl ?_
  refine x_getIv (v := nI (h + 1)) q1 rfl rfl f_9_196 rfl (by decide) rfl ?_
  refine x_iconstN (b := 1) rfl rfl ?_
  refine x_isubN (a := h + 1) (b := 1) (by omega) rfl rfl ?_
  refine x_istore_n rfl rfl rfl rfl ?_
  refine x_aload_n rfl rfl rfl ?_
  refine x_getR0 rfl rfl f_9_66 rfl (by decide) rfl rfl ?_
  refine x_iload_n rfl rfl rfl ?_
  refine x_ialdv (a := h) (v := nI i) q2 rfl rfl rfl (by decide) (by omega) (by decide) ?_
  refine x_istore_n rfl rfl rfl rfl ?_
  refine x_aload_n rfl rfl rfl ?_
  refine x_getR0 rfl rfl f_9_69 rfl (by decide) rfl rfl ?_
  refine x_iload_n rfl rfl rfl ?_
  refine x_ialdv (a := h) (v := nI a) q3 rfl rfl rfl (by decide) (by omega) (by decide) ?_
  refine x_aload_n rfl rfl rfl ?_
  refine x_getR0 rfl rfl f_9_33 rfl (by decide) rfl rfl ?_
  refine x_iload_n rfl rfl rfl ?_
  refine x_ialdv (a := i) (v := nI ((tL x).length)) ht0.2.1 rfl rfl rfl (by decide) (by omega) (by decide) ?_
  refine x_icmpN_ge (by omega) (by omega) rfl rfl (fun hc1 => ?_) (fun hc1 => absurd hc1 (by omega))
  refine x_iconstN (b := 0) rfl rfl ?_
  refine x_istore_n rfl rfl rfl rfl ?_
  refine x_aload_n rfl rfl rfl ?_
  refine x_getR0 rfl rfl f_9_75 rfl (by decide) rfl rfl ?_
  refine x_iload_n rfl rfl rfl ?_
  refine x_zaldv (a := h) (v := bI (ov)) q5 rfl rfl rfl (by decide) (by omega) (by decide) ?_
  refine x_ifB_ne rfl rfl (fun hc2 => ?_) (fun hc2 => absurd hov hc2)
  refine x_iconstN (b := 0) rfl rfl ?_
  refine x_istore rfl rfl rfl rfl ?_
  refine x_iload rfl rfl rfl ?_
  refine x_if_eq rfl rfl (fun _ => ?_) (fun hc3 => absurd hc3 (by decide +kernel))
  refine x_iload_n rfl rfl rfl ?_
  refine x_if_eq rfl rfl (fun _ => ?_) (fun hc4 => absurd hc4 (by decide +kernel))
  refine x_aload_n rfl rfl rfl ?_
  refine x_dup rfl rfl rfl ?_
  refine x_getIv (v := nI (h + 1)) q1 rfl rfl f_9_196 rfl (by decide) rfl ?_
  refine x_iconstN (b := 1) rfl rfl ?_
  refine x_isubN (a := h + 1) (b := 1) (by omega) rfl rfl ?_
  refine x_putI rfl rfl f_9_196 rfl rfl (by decide) rfl ?_
  exact fr_e (x_vret rfl rfl rfl (Nat.zero_le _)) ⟨EqF.rf.ui (by simp [onS]), by simp [ui], hw0.eq (EqF.rf.ui (by simp [onV]))⟩
end M6
