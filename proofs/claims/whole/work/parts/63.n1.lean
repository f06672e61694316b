theorem b256M {row : List Nat} {al : List Int64} {s s1 s2 : RS} {b : Nat} {M : Mm} (hw : RdM row al s2 M) (h : rByte row s = .inr (b, s1)) : b < 256 := hw.2.2.2.2.2.2.2.1 b (at_mem (rByte_inr h).2)
section N1
variable {G : Gd} {d : Nat} {M : Mm}
theorem nI_ne1 {f : Nat} (h : f ≤ 600) : ¬ nI f = -1 := fun e => by
  have h1 : (nI f).toInt = (f : Int) := nI_toInt (by omega)
  rw [e] at h1
  have h2 : ((-1 : Int32)).toInt = -1 := by decide +kernel
  omega
set_option maxHeartbeats 4000000 in
set_option maxRecDepth 20000 in
theorem c_mgoesT (hG : Gok G) (hs : M.1 (40, 0) 37 = -1) : Ct G mX9_goes d [.ref (ga G (40, 0))] M (.inl (some (.int (nI 1)))) M 0 := by
  refine ct_of hG okX9_goes (by decide +kernel) rfl (Nat.le_of_ble_eq_true rfl) ?_
  refine x_aload_n rfl rfl rfl ?_
  refine x_getIv (v := (-1)) hs rfl rfl f_9_235 rfl (by decide) rfl ?_
  refine x_iconst (v := -1) rfl rfl (by decide +kernel) ?_
  refine x_icmp_ne rfl rfl (fun hc1 => absurd rfl hc1) (fun hc1 => ?_)
  refine x_iconstN (b := 1) rfl rfl ?_
  refine x_goto rfl rfl ?_
  exact x_retZ rfl rfl rfl (by first | exact Or.inl rfl | exact Or.inr rfl) (by omega) rfl rfl
set_option maxHeartbeats 4000000 in
set_option maxRecDepth 20000 in
theorem c_mgoesF (hG : Gok G) {f : Nat} (hs : M.1 (40, 0) 37 = nI f) (hf : f ≤ 600) : Ct G mX9_goes d [.ref (ga G (40, 0))] M (.inl (some (.int (nI 0)))) M 0 := by
  refine ct_of hG okX9_goes (by decide +kernel) rfl (Nat.le_of_ble_eq_true rfl) ?_
  refine x_aload_n rfl rfl rfl ?_
  refine x_getIv (v := nI f) hs rfl rfl f_9_235 rfl (by decide) rfl ?_
  refine x_iconst (v := -1) rfl rfl (by decide +kernel) ?_
  refine x_icmp_ne rfl rfl (fun hc1 => ?_) (fun hc1 => absurd hc1 (nI_ne1 (by omega)))
  refine x_iconstN (b := 0) rfl rfl ?_
  exact x_retZ rfl rfl rfl (by first | exact Or.inl rfl | exact Or.inr rfl) (by omega) rfl rfl
set_option maxHeartbeats 4000000 in
set_option maxRecDepth 20000 in
theorem c_mstopT (hG : Gok G) (p : Int32) (hs : M.1 (40, 0) 37 = -1) : Ct G mX9_stopAt d [.ref (ga G (40, 0)), .int (p)] M (.inl none) (ui M (40, 0) 37 p) 0 := by
  refine ct_of hG okX9_stopAt (by decide +kernel) rfl (Nat.le_of_ble_eq_true rfl) ?_
  refine x_aload_n rfl rfl rfl ?_
  refine x_aload_n rfl rfl rfl ?_
  refine x_getIv (v := (-1)) hs rfl rfl f_9_235 rfl (by decide) rfl ?_
  refine x_iconst (v := -1) rfl rfl (by decide +kernel) ?_
  refine x_icmp_ne rfl rfl (fun hc1 => absurd rfl hc1) (fun hc1 => ?_)
  refine x_iload_n rfl rfl rfl ?_
  refine x_goto rfl rfl ?_
  refine x_putI rfl rfl f_9_235 rfl rfl (by decide) rfl ?_
  exact x_retV rfl rfl rfl (by omega) rfl rfl
set_option maxHeartbeats 4000000 in
set_option maxRecDepth 20000 in
theorem c_mstopF (hG : Gok G) {f : Nat} (p : Int32) (hs : M.1 (40, 0) 37 = nI f) (hf : f ≤ 600) : Ct G mX9_stopAt d [.ref (ga G (40, 0)), .int (p)] M (.inl none) (ui M (40, 0) 37 (nI f)) 0 := by
  refine ct_of hG okX9_stopAt (by decide +kernel) rfl (Nat.le_of_ble_eq_true rfl) ?_
  refine x_aload_n rfl rfl rfl ?_
  refine x_aload_n rfl rfl rfl ?_
  refine x_getIv (v := nI f) hs rfl rfl f_9_235 rfl (by decide) rfl ?_
  refine x_iconst (v := -1) rfl rfl (by decide +kernel) ?_
  refine x_icmp_ne rfl rfl (fun hc1 => ?_) (fun hc1 => absurd hc1 (nI_ne1 (by omega)))
  refine x_aload_n rfl rfl rfl ?_
  refine x_getIv (v := nI f) hs rfl rfl f_9_235 rfl (by decide) rfl ?_
  refine x_putI rfl rfl f_9_235 rfl rfl (by decide) rfl ?_
  exact x_retV rfl rfl rfl (by omega) rfl rfl
set_option maxHeartbeats 4000000 in
set_option maxRecDepth 20000 in
theorem c_mtakeO (hG : Gok G) (hd : 2 ≤ d) {a n b : Nat} (ha : M.1 (40, 0) 36 = nI a) (hn : M.1 (40, 0) 19 = nI n) (hn6 : n ≤ 600) (hlt : a < n) (hb : M.1 (55, 0) a = nI b) (hs : M.1 (40, 0) 37 = -1) : Ct G mX9_take d [.ref (ga G (40, 0))] M (.inl (some (.int (nI b)))) (ui M (40, 0) 36 (nI (a + 1))) 0 := by
  refine ct_of hG okX9_take (by decide +kernel) rfl (Nat.le_of_ble_eq_true rfl) ?_
  refine x_aload_n rfl rfl rfl ?_
  refine x_callVi (d2 := 0) (c_mgoesT hG hs) rfl rfl v_9_238 rfl rfl (by decide) rfl rfl (Nat.le_of_ble_eq_true rfl) (by omega) (by omega) ?_
  refine x_if_ne rfl rfl (fun _ => ?_) (fun hc1 => absurd hc1 (by decide +kernel))
  refine x_aload_n rfl rfl rfl ?_
  refine x_getIv (v := nI a) ha rfl rfl f_9_242 rfl (by decide) rfl ?_
  refine x_aload_n rfl rfl rfl ?_
  refine x_getIv (v := nI n) hn rfl rfl f_9_232 rfl (by decide) rfl ?_
  refine x_icmpN_lt (by omega) (by omega) rfl rfl (fun hc2 => ?_) (fun hc2 => absurd hc2 (by omega))
  refine x_aload_n rfl rfl rfl ?_
  refine x_dup rfl rfl rfl ?_
  refine x_getIv (v := nI a) ha rfl rfl f_9_242 rfl (by decide) rfl ?_
  refine x_iconstN (b := 1) rfl rfl ?_
  refine x_iaddN (a := a) (b := 1) rfl rfl ?_
  refine x_putI rfl rfl f_9_242 rfl rfl (by decide) rfl ?_
  refine x_aload_n rfl rfl rfl ?_
  refine x_getR0 rfl rfl f_9_54 rfl (by decide) rfl rfl ?_
  refine x_aload_n rfl rfl rfl ?_
  refine x_getIv (v := nI (a + 1)) (by first | rfl | simp [ui, ul]) rfl rfl f_9_242 rfl (by decide) rfl ?_
  refine x_iconstN (b := 1) rfl rfl ?_
  refine x_isubN (a := a + 1) (b := 1) (by omega) rfl rfl ?_
  refine x_ialdv (a := a) (v := nI b) (by first | exact hb | (rw [← hb]; rfl) | simp [ui, ul, hb]) rfl rfl rfl (by decide) (by omega) (by decide) ?_
  exact x_retI rfl rfl rfl (by omega) rfl rfl
set_option maxHeartbeats 4000000 in
set_option maxRecDepth 20000 in
theorem c_mtakeX (hG : Gok G) (hd : 2 ≤ d) {a n : Nat} (ha : M.1 (40, 0) 36 = nI a) (hn : M.1 (40, 0) 19 = nI n) (hn6 : n ≤ 600) (hlt : a = n) (hs : M.1 (40, 0) 37 = -1) : Ct G mX9_take d [.ref (ga G (40, 0))] M (.inl (some (.int (nI 0)))) (ui M (40, 0) 37 (nI n)) 0 := by
  refine ct_of hG okX9_take (by decide +kernel) rfl (Nat.le_of_ble_eq_true rfl) ?_
  refine x_aload_n rfl rfl rfl ?_
  refine x_callVi (d2 := 0) (c_mgoesT hG hs) rfl rfl v_9_238 rfl rfl (by decide) rfl rfl (Nat.le_of_ble_eq_true rfl) (by omega) (by omega) ?_
  refine x_if_ne rfl rfl (fun _ => ?_) (fun hc1 => absurd hc1 (by decide +kernel))
  refine x_aload_n rfl rfl rfl ?_
  refine x_getIv (v := nI a) ha rfl rfl f_9_242 rfl (by decide) rfl ?_
  refine x_aload_n rfl rfl rfl ?_
  refine x_getIv (v := nI n) hn rfl rfl f_9_232 rfl (by decide) rfl ?_
  refine x_icmpN_lt (by omega) (by omega) rfl rfl (fun hc2 => absurd hc2 (by omega)) (fun hc2 => ?_)
  refine x_aload_n rfl rfl rfl ?_
  refine x_aload_n rfl rfl rfl ?_
  refine x_getIv (v := nI n) hn rfl rfl f_9_232 rfl (by decide) rfl ?_
  refine x_callVv (d2 := 0) (c_mstopT hG (nI n) hs) rfl rfl v_9_245 rfl rfl (by decide) rfl rfl (Nat.le_of_ble_eq_true rfl) (by omega) (by omega) ?_
  refine x_iconstN (b := 0) rfl rfl ?_
  exact x_retI rfl rfl rfl (by omega) rfl rfl
set_option maxHeartbeats 4000000 in
set_option maxRecDepth 20000 in
theorem c_mtakeS (hG : Gok G) (hd : 2 ≤ d) {f : Nat} (hs : M.1 (40, 0) 37 = nI f) (hf : f ≤ 600) : Ct G mX9_take d [.ref (ga G (40, 0))] M (.inl (some (.int (nI 0)))) M 0 := by
  refine ct_of hG okX9_take (by decide +kernel) rfl (Nat.le_of_ble_eq_true rfl) ?_
  refine x_aload_n rfl rfl rfl ?_
  refine x_callVi (d2 := 0) (c_mgoesF hG (f := f) hs (by omega)) rfl rfl v_9_238 rfl rfl (by decide) rfl rfl (Nat.le_of_ble_eq_true rfl) (by omega) (by omega) ?_
  refine x_if_ne rfl rfl (fun hc1 => absurd hc1 (by decide +kernel)) (fun _ => ?_)
  refine x_iconstN (b := 0) rfl rfl ?_
  exact x_retI rfl rfl rfl (by omega) rfl rfl
theorem RdM.byte {row : List Nat} {al : List Int64} {s : RS} (hw : RdM row al s M) (hl : s.1 < row.length) : EqF onMA M (ui M (40, 0) 36 (nI (s.1 + 1))) ∧ RdM row al (s.1 + 1, s.2) (ui M (40, 0) 36 (nI (s.1 + 1))) := by
  have hS : EqF onMA M (ui M (40, 0) 36 (nI (s.1 + 1))) := EqF.rf.ui (by simp [onMA])
  have hS2 : EqF (fun k j => k.1 = 40 → j ≠ 36) M (ui M (40, 0) 36 (nI (s.1 + 1))) := EqF.rf.ui (by simp)
  obtain ⟨⟨a1, a2, a3, a4⟩, hb, -⟩ := id hw
  refine ⟨hS, hw.eqA hS ⟨by simp [ui], (hS2 _ _ (by simp)).1.trans a2, (hS2 _ _ (by simp)).1.trans a3, a4.to fun k => (hS2 _ _ (by simp)).2⟩ ⟨hl, ?_, hb.2.2⟩ rfl⟩
  have := hb.2.1
  show 2 * (pX s).length ≤ s.1 + 1
  omega
theorem q_take {β : Type} {y : Mt} {pc n t idx : Nat} {lv : List (Nat × Value)} {rest : List Value} {M0 : Mm} {on : Ky → Nat → Prop} {Ps : β → RS → Mm → Prop} {val : β → Option Value} {row : List Nat} {al : List Int64} {s0 : RS} {f : Nat × RS → Nat ⊕ (β × RS)} (hG : Gok G) (hd : 3 ≤ d) (hw : RdM row al s0 M) (hS : EqF on M0 M) (hon : ∀ k j, on k j → onMA k j) (hi : tget (yT y) pc = some (.invokevirtual idx, n, t)) (hn : pc + 3 = n) (hl : LkV (yC y) idx mX9_take 0) {u : u_T × Nat} (hcl : vwCl[9]? = some ((yN mX9_take).cls, u)) (hW : (rest.map fun v => v.category).sum ≤ 8)
    (kk : ∀ (b : Nat) (s1 : RS) (M1 : Mm), rByte row s0 = .inr (b, s1) → RdM row al s1 M1 → EqF onMA M M1 → EqF on M0 M1 → FQ G y d M0 on Ps val (f (b, s1)) n lv (.int (nI b) :: rest) M1)
    (kf : ∀ (M1 : Mm), rByte row s0 = .inl row.length → M1.1 (40, 0) 37 = nI row.length → EqF on M0 M1 → FQ G y d M0 on Ps val (.inl row.length) n lv (.int (nI 0) :: rest) M1) : FQ G y d M0 on Ps val (rb (rByte row s0) f) pc lv (.ref (ga G (40, 0)) :: rest) M := by
  obtain ⟨⟨a1, a2, a3, a4⟩, hb, hk, hI, hr⟩ := id hw
  cases hq : row[s0.1]? with
  | some b =>
    have e : rByte row s0 = .inr (b, s0.1 + 1, s0.2) := by unfold rByte; rw [hq]
    obtain ⟨hE, hw1⟩ := hw.byte (at_lt hq)
    rw [e]
    exact x_callVi (d2 := 2) (c_mtakeO hG (Nat.le_refl 2) a1 hr.1 hr.2.2.1 (at_lt hq) (hr.2.1 _ _ hq) a2) hi hn hl rfl hcl (by decide) rfl rfl hW (by omega) (Nat.le_refl _) (kk b _ _ e hw1 hE (hS.tr (hE.sub hon)))
  | none =>
    have e : rByte row s0 = .inl row.length := by unfold rByte; rw [hq]
    have hle := List.getElem?_eq_none_iff.mp hq
    have hA := hb.1
    rw [e]
    exact x_callVi (d2 := 2) (c_mtakeX hG (Nat.le_refl 2) a1 hr.1 hr.2.2.1 (by omega) a2) hi hn hl rfl hcl (by decide) rfl rfl hW (by omega) (Nat.le_refl _) (kf _ e (by simp [ui]) (hS.tr ((EqF.rf.ui (by simp [onMA])).sub hon)))
set_option maxHeartbeats 4000000 in
theorem l_tn3 (hG : Gok G) (hd : 3 ≤ d) {row : List Nat} {al : List Int64} {M9 : Mm} (a : Nat) (ha : a < 2097152) (s0 : RS) (M : Mm) (hw0 : RdM row al s0 M) (hS0 : EqF onMA M9 M) : FQ G mX9_takeNumber d M9 onMA (fun _ => RdM row al) vInt (rNumF row 0 a s0) 4 [(0, .ref (ga G (40, 0))), (1, .int (nI a)), (2, .int (nI 3))] [] M := by
  have hL6 := hw0.2.2.2.2.2.2.1
  unfold rNumF
  refine x_iload_n rfl rfl rfl ?_
  refine x_iconstN (b := 4) rfl rfl ?_
  refine x_icmpN_ge (by omega) (by omega) rfl rfl (fun hc1 => absurd hc1 (by omega)) (fun hc1 => ?_)
  refine x_aload_n rfl rfl rfl ?_
  refine q_take (d := d) hG (by omega) hw0 hS0 (fun _ _ z => z) rfl rfl v_9_248 rfl (Nat.le_of_ble_eq_true rfl) (fun b1 s1 M1 e1 hw1 hE1 hS1 => ?_) (fun M1 e1 hf1 hS1 => ?_)
  · have hb1 := b256M hw1 e1
    refine x_istore_n rfl rfl rfl rfl ?_
    refine x_iload_n rfl rfl rfl ?_
    refine x_iconstN (b := 3) rfl rfl ?_
    refine x_icmpN_ne (by omega) (by omega) rfl rfl (fun hc2 => absurd hc2 (by omega)) (fun hc2 => ?_)
    refine x_iload_n rfl rfl rfl ?_
    refine x_bipush (v := nI 8) rfl rfl (by decide +kernel) ?_
    refine x_ishl rfl rfl ?_
    refine x_topI (v := nI (a * 256)) (pk_shlN _ 8 (by decide +kernel) (by omega)) ?_
    refine x_iload_n rfl rfl rfl ?_
    refine x_ior rfl rfl ?_
    refine x_topI (v := nI (a * 256 + b1)) (orN (k := 8) (by omega)) ?_
    exact q_retI rfl hS1 hw1 rfl rfl rfl
  · refine x_istore_n rfl rfl rfl rfl ?_
    refine x_iload_n rfl rfl rfl ?_
    refine x_iconstN (b := 3) rfl rfl ?_
    refine x_icmpN_ne (by omega) (by omega) rfl rfl (fun hc3 => absurd hc3 (by omega)) (fun hc3 => ?_)
    refine x_iload_n rfl rfl rfl ?_
    refine x_bipush (v := nI 8) rfl rfl (by decide +kernel) ?_
    refine x_ishl rfl rfl ?_
    refine x_topI (v := nI (a * 256)) (pk_shlN _ 8 (by decide +kernel) (by omega)) ?_
    refine x_iload_n rfl rfl rfl ?_
    refine x_ior rfl rfl ?_
    refine x_topI (v := nI (a * 256 + 0)) (orN (k := 8) (by omega)) ?_
    exact q_flI (f := row.length) (rfl) hS1 hf1 (by omega) rfl rfl rfl
set_option maxHeartbeats 4000000 in
theorem l_tn2 (hG : Gok G) (hd : 3 ≤ d) {row : List Nat} {al : List Int64} {M9 : Mm} (a : Nat) (ha : a < 16384) (s0 : RS) (M : Mm) (hw0 : RdM row al s0 M) (hS0 : EqF onMA M9 M) : FQ G mX9_takeNumber d M9 onMA (fun _ => RdM row al) vInt (rNumF row 1 a s0) 4 [(0, .ref (ga G (40, 0))), (1, .int (nI a)), (2, .int (nI 2))] [] M := by
  have hL6 := hw0.2.2.2.2.2.2.1
  rw [show rNumF row 1 a s0 = rb (rByte row s0) (fun q => if q.1 < 128 then .inr (a * 128 + q.1 % 128, q.2) else rNumF row 0 (a * 128 + q.1 % 128) q.2) from rfl]
  refine x_iload_n rfl rfl rfl ?_
  refine x_iconstN (b := 4) rfl rfl ?_
  refine x_icmpN_ge (by omega) (by omega) rfl rfl (fun hc1 => absurd hc1 (by omega)) (fun hc1 => ?_)
  refine x_aload_n rfl rfl rfl ?_
  refine q_take (d := d) hG (by omega) hw0 hS0 (fun _ _ z => z) rfl rfl v_9_248 rfl (Nat.le_of_ble_eq_true rfl) (fun b1 s1 M1 e1 hw1 hE1 hS1 => ?_) (fun M1 e1 hf1 hS1 => ?_)
  · have hb1 := b256M hw1 e1
    refine x_istore_n rfl rfl rfl rfl ?_
    refine x_iload_n rfl rfl rfl ?_
    refine x_iconstN (b := 3) rfl rfl ?_
    refine x_icmpN_ne (by omega) (by omega) rfl rfl (fun hc2 => ?_) (fun hc2 => absurd hc2 (by omega))
    refine x_iload_n rfl rfl rfl ?_
    refine x_bipush (v := nI 7) rfl rfl (by decide +kernel) ?_
    refine x_ishl rfl rfl ?_
    refine x_topI (v := nI (a * 128)) (pk_shlN _ 7 (by decide +kernel) (by omega)) ?_
    refine x_iload_n rfl rfl rfl ?_
    refine x_bipush (v := nI 127) rfl rfl (by decide +kernel) ?_
    refine x_iand rfl rfl ?_
    refine x_topI (v := nI (b1 % 128)) (pk_andN (by omega) 7 (by decide +kernel)) ?_
    refine x_ior rfl rfl ?_
    refine x_topI (v := nI (a * 128 + b1 % 128)) (orN (k := 7) (by omega)) ?_
    refine x_istore_n rfl rfl rfl rfl ?_
    refine x_iload_n rfl rfl rfl ?_
    refine x_sipush (v := nI 128) rfl rfl (by decide +kernel) ?_
    refine x_icmpN_ge (by omega) (by omega) rfl rfl (fun hc3 => ?_) (fun hc3 => ?_)
    · refine x_iincN (a := 2) (b := 1) rfl rfl rfl rfl rfl ?_
      refine x_goto rfl rfl ?_
      dsimp only
      rw [if_neg (by omega)]
      exact (x_pick [0, 1, 2] rfl (l_tn3 hG hd _ (by omega) s1 M1 hw1 hS1))
    · refine x_iload_n rfl rfl rfl ?_
      (dsimp only; rw [if_pos (by omega)]; exact q_retI rfl hS1 hw1 rfl rfl rfl)
  · refine x_istore_n rfl rfl rfl rfl ?_
    refine x_iload_n rfl rfl rfl ?_
    refine x_iconstN (b := 3) rfl rfl ?_
    refine x_icmpN_ne (by omega) (by omega) rfl rfl (fun hc4 => ?_) (fun hc4 => absurd hc4 (by omega))
    refine x_iload_n rfl rfl rfl ?_
    refine x_bipush (v := nI 7) rfl rfl (by decide +kernel) ?_
    refine x_ishl rfl rfl ?_
    refine x_topI (v := nI (a * 128)) (pk_shlN _ 7 (by decide +kernel) (by omega)) ?_
    refine x_iload_n rfl rfl rfl ?_
    refine x_bipush (v := nI 127) rfl rfl (by decide +kernel) ?_
    refine x_iand rfl rfl ?_
    refine x_topI (v := nI (0 % 128)) (pk_andN (by omega) 7 (by decide +kernel)) ?_
    refine x_ior rfl rfl ?_
    refine x_topI (v := nI (a * 128 + 0 % 128)) (orN (k := 7) (by omega)) ?_
    refine x_istore_n rfl rfl rfl rfl ?_
    refine x_iload_n rfl rfl rfl ?_
    refine x_sipush (v := nI 128) rfl rfl (by decide +kernel) ?_
    refine x_icmpN_ge (by omega) (by omega) rfl rfl (fun hc5 => absurd hc5 (by omega)) (fun hc5 => ?_)
    refine x_iload_n rfl rfl rfl ?_
    exact q_flI (f := row.length) (rfl) hS1 hf1 (by omega) rfl rfl rfl
set_option maxHeartbeats 4000000 in
theorem l_tn1 (hG : Gok G) (hd : 3 ≤ d) {row : List Nat} {al : List Int64} {M9 : Mm} (a : Nat) (ha : a < 128) (s0 : RS) (M : Mm) (hw0 : RdM row al s0 M) (hS0 : EqF onMA M9 M) : FQ G mX9_takeNumber d M9 onMA (fun _ => RdM row al) vInt (rNumF row 2 a s0) 4 [(0, .ref (ga G (40, 0))), (1, .int (nI a)), (2, .int (nI 1))] [] M := by
  have hL6 := hw0.2.2.2.2.2.2.1
  rw [show rNumF row 2 a s0 = rb (rByte row s0) (fun q => if q.1 < 128 then .inr (a * 128 + q.1 % 128, q.2) else rNumF row 1 (a * 128 + q.1 % 128) q.2) from rfl]
  refine x_iload_n rfl rfl rfl ?_
  refine x_iconstN (b := 4) rfl rfl ?_
  refine x_icmpN_ge (by omega) (by omega) rfl rfl (fun hc1 => absurd hc1 (by omega)) (fun hc1 => ?_)
  refine x_aload_n rfl rfl rfl ?_
  refine q_take (d := d) hG (by omega) hw0 hS0 (fun _ _ z => z) rfl rfl v_9_248 rfl (Nat.le_of_ble_eq_true rfl) (fun b1 s1 M1 e1 hw1 hE1 hS1 => ?_) (fun M1 e1 hf1 hS1 => ?_)
  · have hb1 := b256M hw1 e1
    refine x_istore_n rfl rfl rfl rfl ?_
    refine x_iload_n rfl rfl rfl ?_
    refine x_iconstN (b := 3) rfl rfl ?_
    refine x_icmpN_ne (by omega) (by omega) rfl rfl (fun hc2 => ?_) (fun hc2 => absurd hc2 (by omega))
    refine x_iload_n rfl rfl rfl ?_
    refine x_bipush (v := nI 7) rfl rfl (by decide +kernel) ?_
    refine x_ishl rfl rfl ?_
    refine x_topI (v := nI (a * 128)) (pk_shlN _ 7 (by decide +kernel) (by omega)) ?_
    refine x_iload_n rfl rfl rfl ?_
    refine x_bipush (v := nI 127) rfl rfl (by decide +kernel) ?_
    refine x_iand rfl rfl ?_
    refine x_topI (v := nI (b1 % 128)) (pk_andN (by omega) 7 (by decide +kernel)) ?_
    refine x_ior rfl rfl ?_
    refine x_topI (v := nI (a * 128 + b1 % 128)) (orN (k := 7) (by omega)) ?_
    refine x_istore_n rfl rfl rfl rfl ?_
    refine x_iload_n rfl rfl rfl ?_
    refine x_sipush (v := nI 128) rfl rfl (by decide +kernel) ?_
    refine x_icmpN_ge (by omega) (by omega) rfl rfl (fun hc3 => ?_) (fun hc3 => ?_)
    · refine x_iincN (a := 1) (b := 1) rfl rfl rfl rfl rfl ?_
      refine x_goto rfl rfl ?_
      dsimp only
      rw [if_neg (by omega)]
      exact (x_pick [0, 1, 2] rfl (l_tn2 hG hd _ (by omega) s1 M1 hw1 hS1))
    · refine x_iload_n rfl rfl rfl ?_
      (dsimp only; rw [if_pos (by omega)]; exact q_retI rfl hS1 hw1 rfl rfl rfl)
  · refine x_istore_n rfl rfl rfl rfl ?_
    refine x_iload_n rfl rfl rfl ?_
    refine x_iconstN (b := 3) rfl rfl ?_
    refine x_icmpN_ne (by omega) (by omega) rfl rfl (fun hc4 => ?_) (fun hc4 => absurd hc4 (by omega))
    refine x_iload_n rfl rfl rfl ?_
    refine x_bipush (v := nI 7) rfl rfl (by decide +kernel) ?_
    refine x_ishl rfl rfl ?_
    refine x_topI (v := nI (a * 128)) (pk_shlN _ 7 (by decide +kernel) (by omega)) ?_
    refine x_iload_n rfl rfl rfl ?_
    refine x_bipush (v := nI 127) rfl rfl (by decide +kernel) ?_
    refine x_iand rfl rfl ?_
    refine x_topI (v := nI (0 % 128)) (pk_andN (by omega) 7 (by decide +kernel)) ?_
    refine x_ior rfl rfl ?_
    refine x_topI (v := nI (a * 128 + 0 % 128)) (orN (k := 7) (by omega)) ?_
    refine x_istore_n rfl rfl rfl rfl ?_
    refine x_iload_n rfl rfl rfl ?_
    refine x_sipush (v := nI 128) rfl rfl (by decide +kernel) ?_
    refine x_icmpN_ge (by omega) (by omega) rfl rfl (fun hc5 => absurd hc5 (by omega)) (fun hc5 => ?_)
    refine x_iload_n rfl rfl rfl ?_
    exact q_flI (f := row.length) (rfl) hS1 hf1 (by omega) rfl rfl rfl
set_option maxHeartbeats 4000000 in
theorem l_tn0 (hG : Gok G) (hd : 3 ≤ d) {row : List Nat} {al : List Int64} {M9 : Mm} (a : Nat) (ha : a < 1) (s0 : RS) (M : Mm) (hw0 : RdM row al s0 M) (hS0 : EqF onMA M9 M) : FQ G mX9_takeNumber d M9 onMA (fun _ => RdM row al) vInt (rNumF row 3 a s0) 4 [(0, .ref (ga G (40, 0))), (1, .int (nI a)), (2, .int (nI 0))] [] M := by
  have hL6 := hw0.2.2.2.2.2.2.1
  rw [show rNumF row 3 a s0 = rb (rByte row s0) (fun q => if q.1 < 128 then .inr (a * 128 + q.1 % 128, q.2) else rNumF row 2 (a * 128 + q.1 % 128) q.2) from rfl]
  refine x_iload_n rfl rfl rfl ?_
  refine x_iconstN (b := 4) rfl rfl ?_
  refine x_icmpN_ge (by omega) (by omega) rfl rfl (fun hc1 => absurd hc1 (by omega)) (fun hc1 => ?_)
  refine x_aload_n rfl rfl rfl ?_
  refine q_take (d := d) hG (by omega) hw0 hS0 (fun _ _ z => z) rfl rfl v_9_248 rfl (Nat.le_of_ble_eq_true rfl) (fun b1 s1 M1 e1 hw1 hE1 hS1 => ?_) (fun M1 e1 hf1 hS1 => ?_)
  · have hb1 := b256M hw1 e1
    refine x_istore_n rfl rfl rfl rfl ?_
    refine x_iload_n rfl rfl rfl ?_
    refine x_iconstN (b := 3) rfl rfl ?_
    refine x_icmpN_ne (by omega) (by omega) rfl rfl (fun hc2 => ?_) (fun hc2 => absurd hc2 (by omega))
    refine x_iload_n rfl rfl rfl ?_
    refine x_bipush (v := nI 7) rfl rfl (by decide +kernel) ?_
    refine x_ishl rfl rfl ?_
    refine x_topI (v := nI (a * 128)) (pk_shlN _ 7 (by decide +kernel) (by omega)) ?_
    refine x_iload_n rfl rfl rfl ?_
    refine x_bipush (v := nI 127) rfl rfl (by decide +kernel) ?_
    refine x_iand rfl rfl ?_
    refine x_topI (v := nI (b1 % 128)) (pk_andN (by omega) 7 (by decide +kernel)) ?_
    refine x_ior rfl rfl ?_
    refine x_topI (v := nI (a * 128 + b1 % 128)) (orN (k := 7) (by omega)) ?_
    refine x_istore_n rfl rfl rfl rfl ?_
    refine x_iload_n rfl rfl rfl ?_
    refine x_sipush (v := nI 128) rfl rfl (by decide +kernel) ?_
    refine x_icmpN_ge (by omega) (by omega) rfl rfl (fun hc3 => ?_) (fun hc3 => ?_)
    · refine x_iincN (a := 0) (b := 1) rfl rfl rfl rfl rfl ?_
      refine x_goto rfl rfl ?_
      dsimp only
      rw [if_neg (by omega)]
      exact (x_pick [0, 1, 2] rfl (l_tn1 hG hd _ (by omega) s1 M1 hw1 hS1))
    · refine x_iload_n rfl rfl rfl ?_
      (dsimp only; rw [if_pos (by omega)]; exact q_retI rfl hS1 hw1 rfl rfl rfl)
  · refine x_istore_n rfl rfl rfl rfl ?_
    refine x_iload_n rfl rfl rfl ?_
    refine x_iconstN (b := 3) rfl rfl ?_
    refine x_icmpN_ne (by omega) (by omega) rfl rfl (fun hc4 => ?_) (fun hc4 => absurd hc4 (by omega))
    refine x_iload_n rfl rfl rfl ?_
    refine x_bipush (v := nI 7) rfl rfl (by decide +kernel) ?_
    refine x_ishl rfl rfl ?_
    refine x_topI (v := nI (a * 128)) (pk_shlN _ 7 (by decide +kernel) (by omega)) ?_
    refine x_iload_n rfl rfl rfl ?_
    refine x_bipush (v := nI 127) rfl rfl (by decide +kernel) ?_
    refine x_iand rfl rfl ?_
    refine x_topI (v := nI (0 % 128)) (pk_andN (by omega) 7 (by decide +kernel)) ?_
    refine x_ior rfl rfl ?_
    refine x_topI (v := nI (a * 128 + 0 % 128)) (orN (k := 7) (by omega)) ?_
    refine x_istore_n rfl rfl rfl rfl ?_
    refine x_iload_n rfl rfl rfl ?_
    refine x_sipush (v := nI 128) rfl rfl (by decide +kernel) ?_
    refine x_icmpN_ge (by omega) (by omega) rfl rfl (fun hc5 => absurd hc5 (by omega)) (fun hc5 => ?_)
    refine x_iload_n rfl rfl rfl ?_
    exact q_flI (f := row.length) (rfl) hS1 hf1 (by omega) rfl rfl rfl
set_option maxHeartbeats 4000000 in
set_option maxRecDepth 20000 in
theorem c_mtakeNumber (hG : Gok G) (hd : 3 ≤ d) {row : List Nat} {al : List Int64} {s0 : RS} (hw0 : RdM row al s0 M) : CQ G mX9_takeNumber d [.ref (ga G (40, 0))] M onMA (fun _ => RdM row al) vInt (rNum row s0) := by
  have hS0 : EqF onMA M M := EqF.rf
  have hA0 := hw0.2.1.1
  have hL6 := hw0.2.2.2.2.2.2.1
  unfold rNum
  refine q_of hG okX9_takeNumber (by decide +kernel) rfl (Nat.le_of_ble_eq_true rfl) ?_
  refine x_iconstN (b := 0) rfl rfl ?_
  refine x_istore_n rfl rfl rfl rfl ?_
  refine x_iconstN (b := 0) rfl rfl ?_
  refine x_istore_n rfl rfl rfl rfl ?_
  exact l_tn0 hG hd 0 (by decide) s0 M hw0 hS0
set_option maxHeartbeats 4000000 in
theorem l_teF (hG : Gok G) (hd : 3 ≤ d) {row : List Nat} {al : List Int64} {M9 : Mm} {f : Nat} (hl0 : f ≤ 600) : ∀ (n i : Nat), i + n = 8 → ∀ (a : Int64) (M : Mm), M.1 (40, 0) 37 = nI f → EqF onMA M9 M → FQ G mX9_takeEight d M9 onMA (fun _ => RdM row al) vLng (.inl f) 4 [(0, .ref (ga G (40, 0))), (1, .long (a)), (3, .int (nI i))] [] M := by
  intro n
  induction n with
  | zero =>
    intro i hi a M hf0 hS0
    refine x_iload_n rfl rfl rfl ?_
    refine x_bipush (v := nI 8) rfl rfl (by decide +kernel) ?_
    refine x_icmpN_ge (by omega) (by omega) rfl rfl (fun hc1 => ?_) (fun hc1 => absurd hc1 (by omega))
    refine x_lload_n rfl rfl rfl ?_
    exact q_flL (f := f) (rfl) hS0 hf0 (by omega) rfl rfl rfl
  | succ n ih =>
    intro i hi a M hf0 hS0
    refine x_iload_n rfl rfl rfl ?_
    refine x_bipush (v := nI 8) rfl rfl (by decide +kernel) ?_
    refine x_icmpN_ge (by omega) (by omega) rfl rfl (fun hc1 => absurd hc1 (by omega)) (fun hc1 => ?_)
    refine x_lload_n rfl rfl rfl ?_
    refine x_bipush (v := nI 8) rfl rfl (by decide +kernel) ?_
    refine x_lshl rfl rfl ?_
    refine x_aload_n rfl rfl rfl ?_
    refine x_callVi (d2 := 2) (c_mtakeS hG (Nat.le_refl 2) (f := f) hf0 (by omega)) rfl rfl v_9_248 rfl rfl (by decide) rfl rfl (Nat.le_of_ble_eq_true rfl) (by omega) (by omega) ?_
    refine x_i2lN (a := 0) (by omega) rfl rfl ?_
    refine x_lor rfl rfl ?_
    refine x_lstore_n rfl rfl rfl rfl ?_
    refine x_iincN (a := i) (b := 1) rfl rfl rfl rfl rfl ?_
    refine x_goto rfl rfl ?_
    exact ih (i + 1) (by omega) _ M hf0 hS0
set_option maxHeartbeats 4000000 in
theorem l_te (hG : Gok G) (hd : 3 ≤ d) {row : List Nat} {al : List Int64} {M9 : Mm} : ∀ (n i : Nat), i + n = 8 → ∀ (a : Int64) (s0 : RS) (M : Mm), RdM row al s0 M → EqF onMA M9 M → FQ G mX9_takeEight d M9 onMA (fun _ => RdM row al) vLng (rEightF row n a s0) 4 [(0, .ref (ga G (40, 0))), (1, .long (a)), (3, .int (nI i))] [] M := by
  intro n
  induction n with
  | zero =>
    intro i hi a s0 M hw0 hS0
    refine x_iload_n rfl rfl rfl ?_
    refine x_bipush (v := nI 8) rfl rfl (by decide +kernel) ?_
    refine x_icmpN_ge (by omega) (by omega) rfl rfl (fun hc1 => ?_) (fun hc1 => absurd hc1 (by omega))
    refine x_lload_n rfl rfl rfl ?_
    exact q_retL rfl hS0 hw0 rfl rfl rfl
  | succ n ih =>
    intro i hi a s0 M hw0 hS0
    have hL6 := hw0.2.2.2.2.2.2.1
    rw [show rEightF row (n + 1) a s0 = rb (rByte row s0) (fun q => rEightF row n (sh8 a q.1) q.2) from rfl]
    refine x_iload_n rfl rfl rfl ?_
    refine x_bipush (v := nI 8) rfl rfl (by decide +kernel) ?_
    refine x_icmpN_ge (by omega) (by omega) rfl rfl (fun hc1 => absurd hc1 (by omega)) (fun hc1 => ?_)
    refine x_lload_n rfl rfl rfl ?_
    refine x_bipush (v := nI 8) rfl rfl (by decide +kernel) ?_
    refine x_lshl rfl rfl ?_
    refine x_aload_n rfl rfl rfl ?_
    refine q_take (d := d) hG (by omega) hw0 hS0 (fun _ _ z => z) rfl rfl v_9_248 rfl (Nat.le_of_ble_eq_true rfl) (fun b1 s1 M1 e1 hw1 hE1 hS1 => ?_) (fun M1 e1 hf1 hS1 => ?_)
    · have hb1 := b256M hw1 e1
      refine x_i2lN (a := b1) (by omega) rfl rfl ?_
      refine x_lor rfl rfl ?_
      refine x_topL (v := sh8 a b1) rfl ?_
      refine x_lstore_n rfl rfl rfl rfl ?_
      refine x_iincN (a := i) (b := 1) rfl rfl rfl rfl rfl ?_
      refine x_goto rfl rfl ?_
      exact ih (i + 1) (by omega) (sh8 a b1) s1 M1 hw1 hS1
    · refine x_i2lN (a := 0) (by omega) rfl rfl ?_
      refine x_lor rfl rfl ?_
      refine x_lstore_n rfl rfl rfl rfl ?_
      refine x_iincN (a := i) (b := 1) rfl rfl rfl rfl rfl ?_
      refine x_goto rfl rfl ?_
      exact l_teF (row := row) (al := al) hG hd hL6 n (i + 1) (by omega) ((a <<< ((nI 8).toInt64 &&& 63)) ||| (lN (0))) M1 hf1 hS1
set_option maxHeartbeats 4000000 in
set_option maxRecDepth 20000 in
theorem c_mtakeEight (hG : Gok G) (hd : 3 ≤ d) {row : List Nat} {al : List Int64} {s0 : RS} (hw0 : RdM row al s0 M) : CQ G mX9_takeEight d [.ref (ga G (40, 0))] M onMA (fun _ => RdM row al) vLng (rEight row s0) := by
  have hS0 : EqF onMA M M := EqF.rf
  have hA0 := hw0.2.1.1
  have hL6 := hw0.2.2.2.2.2.2.1
  unfold rEight
  refine q_of hG okX9_takeEight (by decide +kernel) rfl (Nat.le_of_ble_eq_true rfl) ?_
  refine x_lconst (v := 0) rfl rfl (by decide +kernel) ?_
  refine x_lstore_n rfl rfl rfl rfl ?_
  refine x_iconstN (b := 0) rfl rfl ?_
  refine x_istore_n rfl rfl rfl rfl ?_
  exact l_te hG hd 8 0 rfl 0 s0 M hw0 hS0
set_option maxHeartbeats 4000000 in
set_option maxRecDepth 20000 in
theorem c_mtakeEightF (hG : Gok G) (hd : 3 ≤ d) {row : List Nat} {al : List Int64} {f : Nat} (hs : M.1 (40, 0) 37 = nI f) (hf : f ≤ 600) : CQ G mX9_takeEight d [.ref (ga G (40, 0))] M onMA (fun _ => RdM row al) vLng ((.inl f : Nat ⊕ (Int64 × RS))) := by
  have hS0 : EqF onMA M M := EqF.rf
  refine q_of hG okX9_takeEight (by decide +kernel) rfl (Nat.le_of_ble_eq_true rfl) ?_
  refine x_lconst (v := 0) rfl rfl (by decide +kernel) ?_
  refine x_lstore_n rfl rfl rfl rfl ?_
  refine x_iconstN (b := 0) rfl rfl ?_
  refine x_istore_n rfl rfl rfl rfl ?_
  exact l_teF hG hd hf 8 0 rfl 0 M hs hS0
theorem RdM.aX {row : List Nat} {al : List Int64} {s : RS} {t : Int64} (h : RdM row al s M) (ht : ¬ t = 0) (hx : isTx t) (hl : 2 * ((pX s).length + 1) ≤ s.1) : RdM row al (addX t s) (ui (ul M (56, 0) (pX s).length t) (40, 0) 22 (nI ((pX s).length + 1))) := by
  have e : addX t s = (s.1, s.2.1 ++ [t], s.2.2) := if_neg ht
  have hS : EqF onMA M (ui (ul M (56, 0) (pX s).length t) (40, 0) 22 (nI ((pX s).length + 1))) := (EqF.rf.ul (by simp [onMA])).ui (by simp [onMA])
  have hS2 : EqF (fun k j => k.1 ≠ 56 ∧ (k.1 = 40 → j ≠ 22)) M (ui (ul M (56, 0) (pX s).length t) (40, 0) 22 (nI ((pX s).length + 1))) := (EqF.rf.ul (by simp)).ui (by simp)
  obtain ⟨⟨a1, a2, a3, a4⟩, hb, -⟩ := id h
  rw [e]
  refine h.eqA hS ⟨(hS2 _ _ (by simp)).1.trans a1, (hS2 _ _ (by simp)).1.trans a2, ?_, ?_⟩ ⟨h.2.1.1, ?_, ?_⟩ rfl
  · simp [ui, pXd_eq]
  · exact a4.push (fun k hk => by have hne : k ≠ (pX s).length := Nat.ne_of_lt hk; simp [ui, ul, hne]) (by simp [ui, ul, pXd_eq])
  · show 2 * (s.2.1 ++ [t]).length ≤ s.1
    have hl2 : 2 * (s.2.1.length + 1) ≤ s.1 := hl
    simp; omega
  · intro t' ht'
    rcases List.mem_append.mp ht' with h9 | h9
    · exact h.2.1.2.2 t' h9
    · rw [List.mem_singleton.mp h9]; exact ⟨hx, ht⟩
theorem lN_lt1 {b : Nat} (h : b < 256) : lN b < 1 ↔ b = 0 := by
  rw [Int64.lt_iff_toInt_lt, toInt_small (x := lN b) (by rw [uN_lN (by omega)]; omega), uN_lN (by omega)]
  have e : (1 : Int64).toInt = 1 := by decide +kernel
  rw [e]; omega
theorem lN_le6 {b : Nat} (h : b < 256) : lN b ≤ 126 ↔ b ≤ 126 := by
  rw [Int64.le_iff_toInt_le, toInt_small (x := lN b) (by rw [uN_lN (by omega)]; omega), uN_lN (by omega)]
  have e : (126 : Int64).toInt = 126 := by decide +kernel
  rw [e]; omega
set_option maxHeartbeats 4000000 in
theorem l_ts (hG : Gok G) (hd : 4 ≤ d) {row : List Nat} {al : List Int64} {pl nn m : Nat} (hm : m ≤ 7) (hpl : pl ≤ 600) {M9 : Mm} : ∀ (n i : Nat), i + n = m → ∀ (t : Int64) (w : Bool) (s0 : RS) (M : Mm), RdM row al s0 M → EqF onMA M9 M → (¬ w = true → txI i t) → 2 * (pX s0).length + 1 + i ≤ s0.1 → FQ G mX9_takeString d M9 onMA (fun _ => RdM row al) vLng (rb (rLetF row n i t w s0) fun z => if z.1.2 = true then .inl pl else .inr (z.1.1, addX z.1.1 z.2)) 75 [(0, .ref (ga G (40, 0))), (1, .int (nI pl)), (2, .int (nI nn)), (3, .int (nI m)), (4, .long (t)), (6, .int (bI (¬ w = true))), (7, .int (nI i))] [] M := by
  intro n
  induction n with
  | zero =>
    intro i hi t w s0 M hw0 hS0 hI hX
    have hL6 := hw0.2.2.2.2.2.2.1
    have hA0 := hw0.2.1.1
    show FQ G mX9_takeString d M9 onMA _ vLng (if w = true then .inl pl else .inr (t, addX t s0)) 75 _ [] M
    refine x_iload rfl rfl rfl ?_
    refine x_iload_n rfl rfl rfl ?_
    refine x_icmpN_ge (by omega) (by omega) rfl rfl (fun hc1 => ?_) (fun hc1 => absurd hc1 (by omega))
    refine x_aload_n rfl rfl rfl ?_
    refine x_callVi (d2 := 0) (c_mgoesT hG hw0.1.2.1) rfl rfl v_9_238 rfl rfl (by decide) rfl rfl (Nat.le_of_ble_eq_true rfl) (by omega) (by omega) ?_
    refine x_if_eq rfl rfl (fun hc2 => absurd hc2 (by decide +kernel)) (fun _ => ?_)
    refine x_iload rfl rfl rfl ?_
    refine x_ifB_ne rfl rfl (fun hc3 => ?_) (fun hc3 => ?_)
    · refine x_aload_n rfl rfl rfl ?_
      refine x_callVi (d2 := 0) (c_mgoesT hG hw0.1.2.1) rfl rfl v_9_238 rfl rfl (by decide) rfl rfl (Nat.le_of_ble_eq_true rfl) (by omega) (by omega) ?_
      refine x_if_eq rfl rfl (fun hc4 => absurd hc4 (by decide +kernel)) (fun _ => ?_)
      refine x_iload_n rfl rfl rfl ?_
      refine x_ifN_le (by omega) rfl rfl (fun hc5 => ?_) (fun hc5 => ?_)
      · refine x_lload rfl rfl rfl ?_
        (have e0 : t = 0 := Classical.not_not.mp (fun z => absurd (txI_pos (hI hc3) z) (by omega)); exact q_retL (by rw [if_neg hc3, show addX t s0 = s0 from if_pos e0]) hS0 hw0 rfl rfl rfl)
      · refine x_aload_n rfl rfl rfl ?_
        refine x_getR0 rfl rfl f_9_57 rfl (by decide) rfl rfl ?_
        refine x_aload_n rfl rfl rfl ?_
        refine x_getIv (v := nI ((pX s0).length)) hw0.1.2.2.1 rfl rfl f_9_193 rfl (by decide) rfl ?_
        refine x_lload rfl rfl rfl ?_
        refine x_last (a := (pX s0).length) rfl rfl rfl (by decide) (by omega) (by decide) ?_
        refine x_aload_n rfl rfl rfl ?_
        refine x_dup rfl rfl rfl ?_
        refine x_getIv (v := nI ((pX s0).length)) (by first | exact hw0.1.2.2.1 | (rw [← hw0.1.2.2.1]; rfl) | simp [ui, ul, hw0.1.2.2.1]) rfl rfl f_9_193 rfl (by decide) rfl ?_
        refine x_iconstN (b := 1) rfl rfl ?_
        refine x_iaddN (a := (pX s0).length) (b := 1) rfl rfl ?_
        refine x_putI rfl rfl f_9_193 rfl rfl (by decide) rfl ?_
        refine x_lload rfl rfl rfl ?_
        exact q_retL (s := addX t s0) (by rw [if_neg hc3]) ((hS0.ul (by simp [onMA])).ui (by simp [onMA])) (hw0.aX (txI_ne (hI hc3) (by omega)) (txI_tx (hI hc3) (by omega)) (by omega)) rfl rfl rfl
    · refine x_aload_n rfl rfl rfl ?_
      refine x_iload_n rfl rfl rfl ?_
      refine x_callVv (d2 := 0) (c_mstopT hG (nI pl) hw0.1.2.1) rfl rfl v_9_245 rfl rfl (by decide) rfl rfl (Nat.le_of_ble_eq_true rfl) (by omega) (by omega) ?_
      refine x_aload_n rfl rfl rfl ?_
      refine x_callVi (d2 := 0) (c_mgoesF hG (f := pl) (by first | rfl | simp [ui, ul]) (by omega)) rfl rfl v_9_238 rfl rfl (by decide) rfl rfl (Nat.le_of_ble_eq_true rfl) (by omega) (by omega) ?_
      refine x_if_eq rfl rfl (fun _ => ?_) (fun hc6 => absurd hc6 (by decide +kernel))
      refine x_lload rfl rfl rfl ?_
      exact q_flL (f := pl) (if_pos (Classical.not_not.mp hc3)) (hS0.ui (by simp [onMA])) (by first | rfl | simp [ui, ul]) (by omega) rfl rfl rfl
  | succ n ih =>
    intro i hi t w s0 M hw0 hS0 hI hX
    have hL6 := hw0.2.2.2.2.2.2.1
    have hA0 := hw0.2.1.1
    rw [show rLetF row (n + 1) i t w s0 = rb (rByte row s0) (fun q => rLetF row n (i + 1) (orL t q.1 i) (wrg w q.1) q.2) from rfl, rb_assoc]
    refine x_iload rfl rfl rfl ?_
    refine x_iload_n rfl rfl rfl ?_
    refine x_icmpN_ge (by omega) (by omega) rfl rfl (fun hc1 => absurd hc1 (by omega)) (fun hc1 => ?_)
    refine x_aload_n rfl rfl rfl ?_
    refine x_callVi (d2 := 0) (c_mgoesT hG hw0.1.2.1) rfl rfl v_9_238 rfl rfl (by decide) rfl rfl (Nat.le_of_ble_eq_true rfl) (by omega) (by omega) ?_
    refine x_if_eq rfl rfl (fun hc2 => absurd hc2 (by decide +kernel)) (fun _ => ?_)
    refine x_aload_n rfl rfl rfl ?_
    refine q_take (d := d) hG (by omega) hw0 hS0 (fun _ _ z => z) rfl rfl v_9_248 rfl (Nat.le_of_ble_eq_true rfl) (fun b1 s1 M1 e1 hw1 hE1 hS1 => ?_) (fun M1 e1 hf1 hS1 => ?_)
    · have hb1 := b256M hw1 e1
      refine x_i2lN (a := b1) (by omega) rfl rfl ?_
      refine x_lstore rfl rfl rfl rfl ?_
      refine x_iload rfl rfl rfl ?_
      refine x_ifB_eq rfl rfl (fun hc3 => ?_) (fun hc3 => ?_)
      · refine x_iconstN (b := 0) rfl rfl ?_
        have hwr : wrg w b1 = true := wrg_t (Or.inl (Classical.not_not.mp hc3))
        refine x_topI (v := bI (¬ wrg w b1 = true)) (bI_f (fun z => z hwr)).symm ?_
        refine x_istore rfl rfl rfl rfl ?_
        refine x_lload rfl rfl rfl ?_
        refine x_lload rfl rfl rfl ?_
        refine x_bipush (v := nI 8) rfl rfl (by decide +kernel) ?_
        refine x_iload rfl rfl rfl ?_
        refine x_imulN (a := 8) (b := i) rfl rfl ?_
        refine x_lshl rfl rfl ?_
        refine x_lor rfl rfl ?_
        refine x_topL (v := orL t b1 i) rfl ?_
        refine x_lstore rfl rfl rfl rfl ?_
        refine x_iincN (a := i) (b := 1) rfl rfl rfl rfl rfl ?_
        refine x_goto rfl rfl ?_
        refine x_pick [0, 1, 2, 3, 4, 5, 6] rfl ?_
        exact ih (i + 1) (by omega) (orL t b1 i) (wrg w b1) s1 M1 hw1 hS1 (fun z => absurd hwr z) (by have z := (rByte_inr e1).1; rw [z]; show 2 * (pX s0).length + 1 + (i + 1) ≤ s0.1 + 1; omega)
      · refine x_lload rfl rfl rfl ?_
        refine x_lconst (v := 1) rfl rfl (by decide +kernel) ?_
        refine x_lc_lt rfl rfl rfl rfl (fun hc4 => ?_) (fun hc4 => ?_)
        · refine x_iconstN (b := 0) rfl rfl ?_
          have hwr : wrg w b1 = true := wrg_t (Or.inr (Or.inl ((lN_lt1 hb1).mp hc4)))
          refine x_topI (v := bI (¬ wrg w b1 = true)) (bI_f (fun z => z hwr)).symm ?_
          refine x_istore rfl rfl rfl rfl ?_
          refine x_lload rfl rfl rfl ?_
          refine x_lload rfl rfl rfl ?_
          refine x_bipush (v := nI 8) rfl rfl (by decide +kernel) ?_
          refine x_iload rfl rfl rfl ?_
          refine x_imulN (a := 8) (b := i) rfl rfl ?_
          refine x_lshl rfl rfl ?_
          refine x_lor rfl rfl ?_
          refine x_topL (v := orL t b1 i) rfl ?_
          refine x_lstore rfl rfl rfl rfl ?_
          refine x_iincN (a := i) (b := 1) rfl rfl rfl rfl rfl ?_
          refine x_goto rfl rfl ?_
          refine x_pick [0, 1, 2, 3, 4, 5, 6] rfl ?_
          exact ih (i + 1) (by omega) (orL t b1 i) (wrg w b1) s1 M1 hw1 hS1 (fun z => absurd hwr z) (by have z := (rByte_inr e1).1; rw [z]; show 2 * (pX s0).length + 1 + (i + 1) ≤ s0.1 + 1; omega)
        · refine x_lload rfl rfl rfl ?_
          refine x_ldc2 (v := 126) rfl rfl k_9_106 ?_
          refine x_lc_gt rfl rfl rfl rfl (fun hc5 => ?_) (fun hc5 => ?_)
          · refine x_iconstN (b := 0) rfl rfl ?_
            have hwr : wrg w b1 = true := wrg_t (Or.inr (Or.inr (Nat.lt_of_not_le (mt (lN_le6 hb1).mpr hc5))))
            refine x_topI (v := bI (¬ wrg w b1 = true)) (bI_f (fun z => z hwr)).symm ?_
            refine x_istore rfl rfl rfl rfl ?_
            refine x_lload rfl rfl rfl ?_
            refine x_lload rfl rfl rfl ?_
            refine x_bipush (v := nI 8) rfl rfl (by decide +kernel) ?_
            refine x_iload rfl rfl rfl ?_
            refine x_imulN (a := 8) (b := i) rfl rfl ?_
            refine x_lshl rfl rfl ?_
            refine x_lor rfl rfl ?_
            refine x_topL (v := orL t b1 i) rfl ?_
            refine x_lstore rfl rfl rfl rfl ?_
            refine x_iincN (a := i) (b := 1) rfl rfl rfl rfl rfl ?_
            refine x_goto rfl rfl ?_
            refine x_pick [0, 1, 2, 3, 4, 5, 6] rfl ?_
            exact ih (i + 1) (by omega) (orL t b1 i) (wrg w b1) s1 M1 hw1 hS1 (fun z => absurd hwr z) (by have z := (rByte_inr e1).1; rw [z]; show 2 * (pX s0).length + 1 + (i + 1) ≤ s0.1 + 1; omega)
          · refine x_iconstN (b := 1) rfl rfl ?_
            refine x_goto rfl rfl ?_
            have hwr : ¬ wrg w b1 = true := wrg_f hc3 (fun z => hc4 ((lN_lt1 hb1).mpr z)) (Nat.not_lt.mpr ((lN_le6 hb1).mp hc5))
            refine x_topI (v := bI (¬ wrg w b1 = true)) (bI_t hwr).symm ?_
            refine x_istore rfl rfl rfl rfl ?_
            refine x_lload rfl rfl rfl ?_
            refine x_lload rfl rfl rfl ?_
            refine x_bipush (v := nI 8) rfl rfl (by decide +kernel) ?_
            refine x_iload rfl rfl rfl ?_
            refine x_imulN (a := 8) (b := i) rfl rfl ?_
            refine x_lshl rfl rfl ?_
            refine x_lor rfl rfl ?_
            refine x_topL (v := orL t b1 i) rfl ?_
            refine x_lstore rfl rfl rfl rfl ?_
            refine x_iincN (a := i) (b := 1) rfl rfl rfl rfl rfl ?_
            refine x_goto rfl rfl ?_
            refine x_pick [0, 1, 2, 3, 4, 5, 6] rfl ?_
            exact ih (i + 1) (by omega) (orL t b1 i) (wrg w b1) s1 M1 hw1 hS1 (fun _ => txI_s (hI hc3) (by omega) (Nat.pos_of_ne_zero (fun z => hc4 ((lN_lt1 hb1).mpr z))) ((lN_le6 hb1).mp hc5)) (by have z := (rByte_inr e1).1; rw [z]; show 2 * (pX s0).length + 1 + (i + 1) ≤ s0.1 + 1; omega)
    · refine x_i2lN (a := 0) (by omega) rfl rfl ?_
      refine x_lstore rfl rfl rfl rfl ?_
      refine x_iload rfl rfl rfl ?_
      refine x_ifB_eq rfl rfl (fun hc6 => ?_) (fun hc6 => ?_)
      · refine x_iconstN (b := 0) rfl rfl ?_
        refine x_istore rfl rfl rfl rfl ?_
        refine x_lload rfl rfl rfl ?_
        refine x_lload rfl rfl rfl ?_
        refine x_bipush (v := nI 8) rfl rfl (by decide +kernel) ?_
        refine x_iload rfl rfl rfl ?_
        refine x_imulN (a := 8) (b := i) rfl rfl ?_
        refine x_lshl rfl rfl ?_
        refine x_lor rfl rfl ?_
        refine x_lstore rfl rfl rfl rfl ?_
        refine x_iincN (a := i) (b := 1) rfl rfl rfl rfl rfl ?_
        refine x_goto rfl rfl ?_
        refine x_iload rfl rfl rfl ?_
        refine x_iload_n rfl rfl rfl ?_
        refine x_icmpN_ge (by omega) (by omega) rfl rfl (fun hc7 => ?_) (fun hc7 => ?_)
        · refine x_aload_n rfl rfl rfl ?_
          refine x_callVi (d2 := 0) (c_mgoesF hG (f := row.length) hf1 (by omega)) rfl rfl v_9_238 rfl rfl (by decide) rfl rfl (Nat.le_of_ble_eq_true rfl) (by omega) (by omega) ?_
          refine x_if_eq rfl rfl (fun _ => ?_) (fun hc8 => absurd hc8 (by decide +kernel))
          refine x_aload_n rfl rfl rfl ?_
          refine x_callVi (d2 := 0) (c_mgoesF hG (f := row.length) hf1 (by omega)) rfl rfl v_9_238 rfl rfl (by decide) rfl rfl (Nat.le_of_ble_eq_true rfl) (by omega) (by omega) ?_
          refine x_if_eq rfl rfl (fun _ => ?_) (fun hc9 => absurd hc9 (by decide +kernel))
          refine x_lload rfl rfl rfl ?_
          exact q_flL (f := row.length) (rfl) hS1 hf1 (by omega) rfl rfl rfl
        · refine x_aload_n rfl rfl rfl ?_
          refine x_callVi (d2 := 0) (c_mgoesF hG (f := row.length) hf1 (by omega)) rfl rfl v_9_238 rfl rfl (by decide) rfl rfl (Nat.le_of_ble_eq_true rfl) (by omega) (by omega) ?_
          refine x_if_eq rfl rfl (fun _ => ?_) (fun hc10 => absurd hc10 (by decide +kernel))
          refine x_aload_n rfl rfl rfl ?_
          refine x_callVi (d2 := 0) (c_mgoesF hG (f := row.length) hf1 (by omega)) rfl rfl v_9_238 rfl rfl (by decide) rfl rfl (Nat.le_of_ble_eq_true rfl) (by omega) (by omega) ?_
          refine x_if_eq rfl rfl (fun _ => ?_) (fun hc11 => absurd hc11 (by decide +kernel))
          refine x_aload_n rfl rfl rfl ?_
          refine x_callVi (d2 := 0) (c_mgoesF hG (f := row.length) hf1 (by omega)) rfl rfl v_9_238 rfl rfl (by decide) rfl rfl (Nat.le_of_ble_eq_true rfl) (by omega) (by omega) ?_
          refine x_if_eq rfl rfl (fun _ => ?_) (fun hc12 => absurd hc12 (by decide +kernel))
          refine x_lload rfl rfl rfl ?_
          exact q_flL (f := row.length) (rfl) hS1 hf1 (by omega) rfl rfl rfl
      · refine x_lload rfl rfl rfl ?_
        refine x_lconst (v := 1) rfl rfl (by decide +kernel) ?_
        refine x_lc_lt rfl rfl rfl rfl (fun hc13 => ?_) (fun hc13 => ?_)
        · refine x_iconstN (b := 0) rfl rfl ?_
          refine x_istore rfl rfl rfl rfl ?_
          refine x_lload rfl rfl rfl ?_
          refine x_lload rfl rfl rfl ?_
          refine x_bipush (v := nI 8) rfl rfl (by decide +kernel) ?_
          refine x_iload rfl rfl rfl ?_
          refine x_imulN (a := 8) (b := i) rfl rfl ?_
          refine x_lshl rfl rfl ?_
          refine x_lor rfl rfl ?_
          refine x_lstore rfl rfl rfl rfl ?_
          refine x_iincN (a := i) (b := 1) rfl rfl rfl rfl rfl ?_
          refine x_goto rfl rfl ?_
          refine x_iload rfl rfl rfl ?_
          refine x_iload_n rfl rfl rfl ?_
          refine x_icmpN_ge (by omega) (by omega) rfl rfl (fun hc14 => ?_) (fun hc14 => ?_)
          · refine x_aload_n rfl rfl rfl ?_
            refine x_callVi (d2 := 0) (c_mgoesF hG (f := row.length) hf1 (by omega)) rfl rfl v_9_238 rfl rfl (by decide) rfl rfl (Nat.le_of_ble_eq_true rfl) (by omega) (by omega) ?_
            refine x_if_eq rfl rfl (fun _ => ?_) (fun hc15 => absurd hc15 (by decide +kernel))
            refine x_aload_n rfl rfl rfl ?_
            refine x_callVi (d2 := 0) (c_mgoesF hG (f := row.length) hf1 (by omega)) rfl rfl v_9_238 rfl rfl (by decide) rfl rfl (Nat.le_of_ble_eq_true rfl) (by omega) (by omega) ?_
            refine x_if_eq rfl rfl (fun _ => ?_) (fun hc16 => absurd hc16 (by decide +kernel))
            refine x_lload rfl rfl rfl ?_
            exact q_flL (f := row.length) (rfl) hS1 hf1 (by omega) rfl rfl rfl
          · refine x_aload_n rfl rfl rfl ?_
            refine x_callVi (d2 := 0) (c_mgoesF hG (f := row.length) hf1 (by omega)) rfl rfl v_9_238 rfl rfl (by decide) rfl rfl (Nat.le_of_ble_eq_true rfl) (by omega) (by omega) ?_
            refine x_if_eq rfl rfl (fun _ => ?_) (fun hc17 => absurd hc17 (by decide +kernel))
            refine x_aload_n rfl rfl rfl ?_
            refine x_callVi (d2 := 0) (c_mgoesF hG (f := row.length) hf1 (by omega)) rfl rfl v_9_238 rfl rfl (by decide) rfl rfl (Nat.le_of_ble_eq_true rfl) (by omega) (by omega) ?_
            refine x_if_eq rfl rfl (fun _ => ?_) (fun hc18 => absurd hc18 (by decide +kernel))
            refine x_aload_n rfl rfl rfl ?_
            refine x_callVi (d2 := 0) (c_mgoesF hG (f := row.length) hf1 (by omega)) rfl rfl v_9_238 rfl rfl (by decide) rfl rfl (Nat.le_of_ble_eq_true rfl) (by omega) (by omega) ?_
            refine x_if_eq rfl rfl (fun _ => ?_) (fun hc19 => absurd hc19 (by decide +kernel))
            refine x_lload rfl rfl rfl ?_
            exact q_flL (f := row.length) (rfl) hS1 hf1 (by omega) rfl rfl rfl
        · refine x_lload rfl rfl rfl ?_
          refine x_ldc2 (v := 126) rfl rfl k_9_106 ?_
          refine x_lc_gt rfl rfl rfl rfl (fun hc20 => ?_) (fun hc20 => ?_)
          · refine x_iconstN (b := 0) rfl rfl ?_
            refine x_istore rfl rfl rfl rfl ?_
            refine x_lload rfl rfl rfl ?_
            refine x_lload rfl rfl rfl ?_
            refine x_bipush (v := nI 8) rfl rfl (by decide +kernel) ?_
            refine x_iload rfl rfl rfl ?_
            refine x_imulN (a := 8) (b := i) rfl rfl ?_
            refine x_lshl rfl rfl ?_
            refine x_lor rfl rfl ?_
            refine x_lstore rfl rfl rfl rfl ?_
            refine x_iincN (a := i) (b := 1) rfl rfl rfl rfl rfl ?_
            refine x_goto rfl rfl ?_
            refine x_iload rfl rfl rfl ?_
            refine x_iload_n rfl rfl rfl ?_
            refine x_icmpN_ge (by omega) (by omega) rfl rfl (fun hc21 => ?_) (fun hc21 => ?_)
            · refine x_aload_n rfl rfl rfl ?_
              refine x_callVi (d2 := 0) (c_mgoesF hG (f := row.length) hf1 (by omega)) rfl rfl v_9_238 rfl rfl (by decide) rfl rfl (Nat.le_of_ble_eq_true rfl) (by omega) (by omega) ?_
              refine x_if_eq rfl rfl (fun _ => ?_) (fun hc22 => absurd hc22 (by decide +kernel))
              refine x_aload_n rfl rfl rfl ?_
              refine x_callVi (d2 := 0) (c_mgoesF hG (f := row.length) hf1 (by omega)) rfl rfl v_9_238 rfl rfl (by decide) rfl rfl (Nat.le_of_ble_eq_true rfl) (by omega) (by omega) ?_
              refine x_if_eq rfl rfl (fun _ => ?_) (fun hc23 => absurd hc23 (by decide +kernel))
              refine x_lload rfl rfl rfl ?_
              exact q_flL (f := row.length) (rfl) hS1 hf1 (by omega) rfl rfl rfl
            · refine x_aload_n rfl rfl rfl ?_
              refine x_callVi (d2 := 0) (c_mgoesF hG (f := row.length) hf1 (by omega)) rfl rfl v_9_238 rfl rfl (by decide) rfl rfl (Nat.le_of_ble_eq_true rfl) (by omega) (by omega) ?_
              refine x_if_eq rfl rfl (fun _ => ?_) (fun hc24 => absurd hc24 (by decide +kernel))
              refine x_aload_n rfl rfl rfl ?_
              refine x_callVi (d2 := 0) (c_mgoesF hG (f := row.length) hf1 (by omega)) rfl rfl v_9_238 rfl rfl (by decide) rfl rfl (Nat.le_of_ble_eq_true rfl) (by omega) (by omega) ?_
              refine x_if_eq rfl rfl (fun _ => ?_) (fun hc25 => absurd hc25 (by decide +kernel))
              refine x_aload_n rfl rfl rfl ?_
              refine x_callVi (d2 := 0) (c_mgoesF hG (f := row.length) hf1 (by omega)) rfl rfl v_9_238 rfl rfl (by decide) rfl rfl (Nat.le_of_ble_eq_true rfl) (by omega) (by omega) ?_
              refine x_if_eq rfl rfl (fun _ => ?_) (fun hc26 => absurd hc26 (by decide +kernel))
              refine x_lload rfl rfl rfl ?_
              exact q_flL (f := row.length) (rfl) hS1 hf1 (by omega) rfl rfl rfl
          · refine x_iconstN (b := 1) rfl rfl ?_
            refine x_goto rfl rfl ?_
            refine x_istore rfl rfl rfl rfl ?_
            refine x_lload rfl rfl rfl ?_
            refine x_lload rfl rfl rfl ?_
            refine x_bipush (v := nI 8) rfl rfl (by decide +kernel) ?_
            refine x_iload rfl rfl rfl ?_
            refine x_imulN (a := 8) (b := i) rfl rfl ?_
            refine x_lshl rfl rfl ?_
            refine x_lor rfl rfl ?_
            refine x_lstore rfl rfl rfl rfl ?_
            refine x_iincN (a := i) (b := 1) rfl rfl rfl rfl rfl ?_
            refine x_goto rfl rfl ?_
            refine x_iload rfl rfl rfl ?_
            refine x_iload_n rfl rfl rfl ?_
            refine x_icmpN_ge (by omega) (by omega) rfl rfl (fun hc27 => ?_) (fun hc27 => ?_)
            · refine x_aload_n rfl rfl rfl ?_
              refine x_callVi (d2 := 0) (c_mgoesF hG (f := row.length) hf1 (by omega)) rfl rfl v_9_238 rfl rfl (by decide) rfl rfl (Nat.le_of_ble_eq_true rfl) (by omega) (by omega) ?_
              refine x_if_eq rfl rfl (fun _ => ?_) (fun hc28 => absurd hc28 (by decide +kernel))
              refine x_aload_n rfl rfl rfl ?_
              refine x_callVi (d2 := 0) (c_mgoesF hG (f := row.length) hf1 (by omega)) rfl rfl v_9_238 rfl rfl (by decide) rfl rfl (Nat.le_of_ble_eq_true rfl) (by omega) (by omega) ?_
              refine x_if_eq rfl rfl (fun _ => ?_) (fun hc29 => absurd hc29 (by decide +kernel))
              refine x_lload rfl rfl rfl ?_
              exact q_flL (f := row.length) (rfl) hS1 hf1 (by omega) rfl rfl rfl
            · refine x_aload_n rfl rfl rfl ?_
              refine x_callVi (d2 := 0) (c_mgoesF hG (f := row.length) hf1 (by omega)) rfl rfl v_9_238 rfl rfl (by decide) rfl rfl (Nat.le_of_ble_eq_true rfl) (by omega) (by omega) ?_
              refine x_if_eq rfl rfl (fun _ => ?_) (fun hc30 => absurd hc30 (by decide +kernel))
              refine x_aload_n rfl rfl rfl ?_
              refine x_callVi (d2 := 0) (c_mgoesF hG (f := row.length) hf1 (by omega)) rfl rfl v_9_238 rfl rfl (by decide) rfl rfl (Nat.le_of_ble_eq_true rfl) (by omega) (by omega) ?_
              refine x_if_eq rfl rfl (fun _ => ?_) (fun hc31 => absurd hc31 (by decide +kernel))
              refine x_aload_n rfl rfl rfl ?_
              refine x_callVi (d2 := 0) (c_mgoesF hG (f := row.length) hf1 (by omega)) rfl rfl v_9_238 rfl rfl (by decide) rfl rfl (Nat.le_of_ble_eq_true rfl) (by omega) (by omega) ?_
              refine x_if_eq rfl rfl (fun _ => ?_) (fun hc32 => absurd hc32 (by decide +kernel))
              refine x_lload rfl rfl rfl ?_
              exact q_flL (f := row.length) (rfl) hS1 hf1 (by omega) rfl rfl rfl
set_option maxHeartbeats 4000000 in
set_option maxRecDepth 20000 in
theorem c_mtakeString (hG : Gok G) (hd : 4 ≤ d) {row : List Nat} {al : List Int64} {s0 : RS} (hw0 : RdM row al s0 M) : CQ G mX9_takeString d [.ref (ga G (40, 0))] M onMA (fun _ => RdM row al) vLng (rStr row s0) := by
  have hS0 : EqF onMA M M := EqF.rf
  have hA0 := hw0.2.1.1
  have hL6 := hw0.2.2.2.2.2.2.1
  unfold rStr
  refine q_of hG okX9_takeString (by decide +kernel) rfl (Nat.le_of_ble_eq_true rfl) ?_
  refine x_aload_n rfl rfl rfl ?_
  refine x_getIv (v := nI (s0.1)) hw0.1.1 rfl rfl f_9_242 rfl (by decide) rfl ?_
  refine x_istore_n rfl rfl rfl rfl ?_
  refine x_aload_n rfl rfl rfl ?_
  refine q_call (d2 := 3) (c_mtakeNumber hG (Nat.le_refl 3) hw0) hS0 (fun _ _ z => z) rfl rfl v_9_252 rfl rfl (by decide) rfl rfl (Nat.le_of_ble_eq_true rfl) (by omega) (fun b1 s1 M1 e1 hq1 hE1 hS1 => ?_) (fun f1 b1 M1 e1 hf1 hl1 hS1 => ?_)
  · have hw1 := hq1
    have hn1 := rNum_lt hq1.2.2.2.2.2.2.2.1 e1
    have hz1 := rNumF_2 e1
    have hX1 : pX s1 = pX s0 := congrArg Prod.fst hz1.1
    have hX6 := hw1.2.1.2.1
    have hA1 := hw1.2.1.1
    refine x_istore_n rfl rfl rfl rfl ?_
    show FQ G mX9_takeString d M onMA _ vLng (rStr1 row s0.1 b1 s1) _ _ _ _
    refine x_aload_n rfl rfl rfl ?_
    refine x_callVi (d2 := 0) (c_mgoesT hG hw1.1.2.1) rfl rfl v_9_238 rfl rfl (by decide) rfl rfl (Nat.le_of_ble_eq_true rfl) (by omega) (by omega) ?_
    refine x_if_ne rfl rfl (fun _ => ?_) (fun hc1 => absurd hc1 (by decide +kernel))
    refine x_iload_n rfl rfl rfl ?_
    refine x_iconstN (b := 2) rfl rfl ?_
    refine x_iremN (a := b1) (b := 2) (by omega) (by omega) (by omega) rfl rfl ?_
    refine x_ifN_ne (by omega) rfl rfl (fun hc2 => ?_) (fun hc2 => ?_)
    · refine x_iload_n rfl rfl rfl ?_
      refine x_iconstN (b := 2) rfl rfl ?_
      refine x_idivN (a := b1) (b := 2) (by omega) (by omega) (by omega) rfl rfl ?_
      refine x_istore_n rfl rfl rfl rfl ?_
      refine x_iload_n rfl rfl rfl ?_
      refine x_bipush (v := nI 7) rfl rfl (by decide +kernel) ?_
      refine x_icmpN_le (by omega) (by omega) rfl rfl (fun hc3 => ?_) (fun hc3 => ?_)
      · refine x_lconst (v := 0) rfl rfl (by decide +kernel) ?_
        refine x_lstore rfl rfl rfl rfl ?_
        refine x_iconstN (b := 1) rfl rfl ?_
        refine x_istore rfl rfl rfl rfl ?_
        refine x_iconstN (b := 0) rfl rfl ?_
        refine x_istore rfl rfl rfl rfl ?_
        rw [rStr1_o hc2 (by omega)]
        refine x_eq (l_ts hG (by omega) (pl := s0.1) (nn := b1) (m := b1 / 2) (by omega) (by omega) _ 0 (Nat.zero_add _) 0 false s1 M1 hw1 hS1 (fun _ => txI_0) (by have z1 := hw0.2.1.2.1; rw [hX1]; omega)) (by rw [bI_t (by simp)] <;> rfl) rfl rfl
      · refine x_aload_n rfl rfl rfl ?_
        refine x_iload_n rfl rfl rfl ?_
        refine x_callVv (d2 := 0) (c_mstopT hG (nI (s0.1)) hw1.1.2.1) rfl rfl v_9_245 rfl rfl (by decide) rfl rfl (Nat.le_of_ble_eq_true rfl) (by omega) (by omega) ?_
        refine x_lconst (v := 0) rfl rfl (by decide +kernel) ?_
        refine x_lstore rfl rfl rfl rfl ?_
        refine x_iconstN (b := 1) rfl rfl ?_
        refine x_istore rfl rfl rfl rfl ?_
        refine x_iconstN (b := 0) rfl rfl ?_
        refine x_istore rfl rfl rfl rfl ?_
        refine x_iload rfl rfl rfl ?_
        refine x_iload_n rfl rfl rfl ?_
        refine x_icmpN_ge (by omega) (by omega) rfl rfl (fun hc4 => absurd hc4 (by omega)) (fun hc4 => ?_)
        refine x_aload_n rfl rfl rfl ?_
        refine x_callVi (d2 := 0) (c_mgoesF hG (f := s0.1) (by first | rfl | simp [ui, ul]) (by omega)) rfl rfl v_9_238 rfl rfl (by decide) rfl rfl (Nat.le_of_ble_eq_true rfl) (by omega) (by omega) ?_
        refine x_if_eq rfl rfl (fun _ => ?_) (fun hc5 => absurd hc5 (by decide +kernel))
        refine x_aload_n rfl rfl rfl ?_
        refine x_callVi (d2 := 0) (c_mgoesF hG (f := s0.1) (by first | rfl | simp [ui, ul]) (by omega)) rfl rfl v_9_238 rfl rfl (by decide) rfl rfl (Nat.le_of_ble_eq_true rfl) (by omega) (by omega) ?_
        refine x_if_eq rfl rfl (fun _ => ?_) (fun hc6 => absurd hc6 (by decide +kernel))
        refine x_aload_n rfl rfl rfl ?_
        refine x_callVi (d2 := 0) (c_mgoesF hG (f := s0.1) (by first | rfl | simp [ui, ul]) (by omega)) rfl rfl v_9_238 rfl rfl (by decide) rfl rfl (Nat.le_of_ble_eq_true rfl) (by omega) (by omega) ?_
        refine x_if_eq rfl rfl (fun _ => ?_) (fun hc7 => absurd hc7 (by decide +kernel))
        refine x_lload rfl rfl rfl ?_
        exact q_flL (f := s0.1) (rStr1_l hc2 (by omega)) (hS1.ui (by simp [onMA])) (by first | rfl | simp [ui, ul]) (by omega) rfl rfl rfl
    · rw [rStr1_e hc2]
      refine x_iload_n rfl rfl rfl ?_
      refine x_iconstN (b := 2) rfl rfl ?_
      refine x_idivN (a := b1) (b := 2) (by omega) (by omega) (by omega) rfl rfl ?_
      refine x_aload_n rfl rfl rfl ?_
      refine x_getIv (v := nI ((pX s1).length)) hw1.1.2.2.1 rfl rfl f_9_193 rfl (by decide) rfl ?_
      refine x_icmpN_lt (by omega) (by omega) rfl rfl (fun hc8 => ?_) (fun hc8 => ?_)
      · obtain ⟨t, ht⟩ : ∃ t, (pX s1)[b1 / 2]? = some t := ⟨_, List.getElem?_eq_getElem (by omega)⟩
        refine x_aload_n rfl rfl rfl ?_
        refine x_getR0 rfl rfl f_9_57 rfl (by decide) rfl rfl ?_
        refine x_iload_n rfl rfl rfl ?_
        refine x_iconstN (b := 2) rfl rfl ?_
        refine x_idivN (a := b1) (b := 2) (by omega) (by omega) (by omega) rfl rfl ?_
        refine x_laldv (a := b1 / 2) (v := t) (hw1.1.2.2.2 _ _ ht) rfl rfl rfl (by decide) (by omega) (by decide) ?_
        exact q_retL (by unfold rKT; rw [ht]; rfl) hS1 hw1 rfl rfl rfl
      · refine x_aload_n rfl rfl rfl ?_
        refine x_iload_n rfl rfl rfl ?_
        refine x_callVv (d2 := 0) (c_mstopT hG (nI (s0.1)) hw1.1.2.1) rfl rfl v_9_245 rfl rfl (by decide) rfl rfl (Nat.le_of_ble_eq_true rfl) (by omega) (by omega) ?_
        refine x_lconst (v := 0) rfl rfl (by decide +kernel) ?_
        exact q_flL (f := s0.1) (by unfold rKT; rw [List.getElem?_eq_none (by omega)]; rfl) (hS1.ui (by simp [onMA])) (by first | rfl | simp [ui, ul]) (by omega) rfl rfl rfl
  · refine x_istore_n rfl rfl rfl rfl ?_
    refine x_aload_n rfl rfl rfl ?_
    refine x_callVi (d2 := 0) (c_mgoesF hG (f := f1) hf1 (by omega)) rfl rfl v_9_238 rfl rfl (by decide) rfl rfl (Nat.le_of_ble_eq_true rfl) (by omega) (by omega) ?_
    refine x_if_ne rfl rfl (fun hc9 => absurd hc9 (by decide +kernel)) (fun _ => ?_)
    refine x_lconst (v := 0) rfl rfl (by decide +kernel) ?_
    exact q_flL (f := f1) (rfl) hS1 hf1 (by omega) rfl rfl rfl
end N1
