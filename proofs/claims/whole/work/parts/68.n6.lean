/-! the model's loop where it reads -/
theorem rPairs_pk {row : List Nat} {al : List Int64} {dl h : Nat} (hh : h + 1 + dl = 12) {mem Y V : List Int64} {n : Nat} {s : RS} (hn : Y.length + n = 6) : rPairs row (rVal row al dl) mem (n + 1) Y V s = rb (rpk row al h mem Y s) fun z => match z.1 with
    | none => .inr ((Y, V), z.2)
    | some (key, q) => rb (rinO row (recR row al dl) q.2 z.2) fun s2 => rPairs row (rVal row al dl) mem n (Y ++ [key]) (V ++ [q.1]) s2 := by
  unfold rpk
  rw [show rPairs row (rVal row al dl) mem (n + 1) Y V s = rb (rStr row s) (fun q => if q.1 = 0 then .inr ((Y, V), q.2) else if Y.length = 6 ∨ q.1 ∈ Y ∨ q.1 ∈ mem then .inl s.1 else rb (rVal row al dl q.2) fun z => rPairs row (rVal row al dl) mem n (Y ++ [q.1]) (V ++ [z.1]) z.2) from rfl, rb_assoc]
  congr 1
  funext q
  by_cases h0 : q.1 = 0
  · rw [if_pos h0, if_pos h0]; rfl
  · rw [if_neg h0, if_neg h0]
    by_cases h1 : Y.length = 6 ∨ q.1 ∈ Y ∨ q.1 ∈ mem
    · rw [if_pos h1, if_pos h1]; rfl
    · rw [if_neg h1, if_neg h1, rb_assoc, rVal_hd hh, rb_assoc]
      congr 1
      funext z
      rw [rb_assoc]
      rfl
def Ld (G : Gd) (d kf : Nat) (Z : Zt) (k : Nat) (cw ch ct : Nat) (v0 : Int64) (M : Mm) : Prop := Fr G mX9_decode d kf Z k 39 [(0, .ref (ga G (40, 0))), (1, .int (nI cw)), (2, .int (nI ch)), (3, .int (nI ct)), (4, .long (v0))] [] M
def Flt (sB : RS) (MB : Mm) (f : Nat) (M : Mm) : Prop := EqF (onMD 0 sB) MB M ∧ M.1 (40, 0) 37 = nI f ∧ f ≤ 600
def Inv (row : List Nat) (al : List Int64) (sB : RS) (MB : Mm) (h i k c : Nat) (tr : Int32) (ov : Prop) (s9 s8 : RS) (M9 : Mm) (L Y V : List Int64) (s : RS) (M : Mm) : Prop := RdM row al s M ∧ EqF (onMD 0 sB) MB M ∧ Pre s9 s ∧ Pre s8 s ∧ M.1 (40, 0) 28 = nI (h + 1) ∧ Stk h i L.length Y.length ov M ∧ MPt k c tr L Y V i M ∧ CmM (i + 1) s M ∧ EqF (onMDi h s8 i) M9 M ∧ Y.length ≤ 6 ∧ V.length = Y.length
theorem onMDi_pre {h h' i : Nat} {s s1 : RS} (hp : Pre s s1) (hh : h ≤ h') {k : Ky} {j : Nat} (z : onMDi h s i k j) : onMDi h' s1 i k j := ⟨onMD_pre hp hh z.1, z.2⟩
/-- what was there before does not reach into a new thing -/
theorem onMD_i {h h' i : Nat} {s s1 : RS} (hp : Pre s s1) (hh : h ≤ h') (hi : (pH s).length ≤ i) {k : Ky} {j : Nat} (z : onMD h s k j) : onMDi h' s1 i k j := by
  refine ⟨onMD_pre hp hh z, ?_, ?_, ?_⟩
  · rintro ⟨h1, h2⟩
    obtain ⟨a1, a2, a3, a4, a5, a6, a7, a8, a9, a10, a11, a12⟩ := z
    rcases h1 with h1 | h1
    · have := a8 h1; omega
    · have := a10 h1; omega
  · rintro ⟨h1, h2, h3⟩
    obtain ⟨a1, a2, a3, a4, a5, a6, a7, a8, a9, a10, a11, a12⟩ := z
    have := a9 h1; omega
  · rintro ⟨h1, h2, h3⟩
    obtain ⟨a1, a2, a3, a4, a5, a6, a7, a8, a9, a10, a11, a12⟩ := z
    have := a11 h1; omega
theorem onMDi_i {h h' i i' : Nat} {s s1 : RS} (hp : Pre s s1) (hh : h ≤ h') (hi : (pH s).length ≤ i') {k : Ky} {j : Nat} (z : onMDi h s i k j) : onMDi h' s1 i' k j := onMD_i hp hh hi z.1
theorem MPt.eqDi {h : Nat} {s : RS} {k c i i' : Nat} {tr : Int32} {L Y V : List Int64} {M M1 : Mm} (hpt : MPt k c tr L Y V i M) (he : EqF (onMDi h s i') M M1) (hil : i < (pH s).length) (hne : i < i') (hL : L.length ≤ 8) (hY : Y.length ≤ 6) (hV : V.length ≤ 6) : MPt k c tr L Y V i M1 := by
  refine hpt.eqM he (fun r h1 => ?_) (fun j hj => ?_) (fun r h1 j hj => ?_)
  · unfold onMDi onMD; rcases h1 with rfl | rfl | rfl | rfl <;> simp <;> omega
  · unfold onMDi onMD; simp; omega
  · unfold onMDi onMD; rcases h1 with rfl | rfl <;> simp <;> omega
theorem mTh.eqDi {h : Nat} {s : RS} {x : Th} {j i : Nat} {M M1 : Mm} (hm : mTh x M j) (he : EqF (onMDi h s i) M M1) (hl : j < (pH s).length) (hne : ¬ j = i) : mTh x M1 j := by
  refine hm.eqM he (fun r h1 => ?_) (fun j' hj => ?_) (fun r h1 j' hj => ?_)
  · have h9 : r = 46 ∨ r = 47 ∨ r = 48 ∨ r = 49 ∨ r = 51 := by omega
    unfold onMDi onMD; rcases h9 with rfl | rfl | rfl | rfl | rfl <;> simp <;> omega
  · unfold onMDi onMD; simp; omega
  · unfold onMDi onMD; rcases h1 with rfl | rfl <;> simp <;> omega
section N6
variable {G : Gd} {d kf k0 : Nat} {Z : Zt} {cw ch ct : Nat} {v0 : Int64} {row : List Nat} {al : List Int64} {sB : RS} {MB : Mm}
theorem l_dgo {h : Nat} {M : Mm} {Q : Option Value → Mm → Prop} (hG : Gok G) (hd : 9 ≤ d) (hC : Cq G mX9_readOn 8 [.ref (ga G (40, 0))] M Q 0) (ho : M.1 (40, 0) 28 = nI (h + 1)) (hh : h < 12) (hs : M.1 (40, 0) 37 = -1) (hQ : ∀ v M', Q v M' → v = none) (kk : ∀ v M', Q v M' → Ld G d kf Z k0 cw ch ct v0 M') (hk : k0 ≤ kf) : Ld G d kf Z k0 cw ch ct v0 M := by
  show Fr G mX9_decode d kf Z k0 39 _ [] M
  refine x_aload_n rfl rfl rfl ?_
  refine x_getIv (v := nI (h + 1)) ho rfl rfl f_9_196 rfl (by decide) rfl ?_
  refine x_ifN_le (by omega) rfl rfl (fun hc1 => absurd hc1 (by omega)) (fun hc1 => ?_)
  refine x_aload_n rfl rfl rfl ?_
  refine x_callVi (d2 := 0) (c_mgoesT hG hs) rfl rfl v_9_238 rfl rfl (by decide) rfl rfl (Nat.le_of_ble_eq_true rfl) (by omega) (by omega) ?_
  refine x_if_eq rfl rfl (fun hc2 => absurd hc2 (by decide +kernel)) (fun _ => ?_)
  refine x_aload_n rfl rfl rfl ?_
  refine x_callVq (k2 := 0) (d2 := 8) hC rfl rfl v_9_287 rfl rfl (by decide) rfl rfl (Nat.le_of_ble_eq_true rfl) (by omega) (by omega) (fun v M9 q9 => ?_)
  have e := hQ v M9 q9
  subst e
  refine x_goto rfl rfl ?_
  exact kk none M9 q9
theorem l_dq {β : Type} {h : Nat} {M : Mm} {on : Ky → Nat → Prop} {Ps : β → RS → Mm → Prop} {r : Nat ⊕ (β × RS)} (hG : Gok G) (hd : 9 ≤ d) (hC : CQ G mX9_readOn 8 [.ref (ga G (40, 0))] M on Ps vNo r) (ho : M.1 (40, 0) 28 = nI (h + 1)) (hh : h < 12) (hs : M.1 (40, 0) 37 = -1) (hk : k0 ≤ kf) (kk : ∀ b s1 M1, r = .inr (b, s1) → Ps b s1 M1 → EqF on M M1 → Ld G d kf Z k0 cw ch ct v0 M1) (kx : ∀ f M1, r = .inl f → M1.1 (40, 0) 37 = nI f → f ≤ 600 → EqF on M M1 → Ld G d kf Z k0 cw ch ct v0 M1) : Ld G d kf Z k0 cw ch ct v0 M := by
  refine l_dgo hG hd hC ho hh hs (fun v M' ⟨b, e, _⟩ => e) (fun v M' ⟨b, e, hE, h2⟩ => ?_) hk
  cases r with
  | inl f => exact kx f M' rfl h2.1 h2.2 hE
  | inr p =>
    obtain ⟨rfl, h3⟩ := h2
    exact kk p.1 p.2 M' rfl h3 hE
/-- what stands behind what is inside of a thing -/
def DI (row : List Nat) (al : List Int64) (sB : RS) (MB : Mm) (h : Nat) (s9 s : RS) (i : Nat) (M : Mm) (s2 : RS) (M2 : Mm) : Prop := EqF (onMDi h s i) M M2 ∧ RdM row al s2 M2 ∧ Pre s9 s2 ∧ M2.1 (40, 0) 28 = nI h ∧ CmM i s2 M2 ∧ EqF (onMD 0 sB) MB M2
def Ins (G : Gd) (d kf : Nat) (Z : Zt) (k0 cw ch ct : Nat) (v0 : Int64) (row : List Nat) (al : List Int64) (sB : RS) (MB : Mm) (dl h : Nat) : Prop := ∀ (p : Pd) (s9 s : RS) (M : Mm), Pnd h s9 s p M → RdM row al s M → Pre s9 s → Pre sB s9 → EqF (onMD 0 sB) MB M → (∀ s2 M2, rinO row (recR row al dl) (some p) s = .inr s2 → DI row al sB MB h s9 s p.1 M s2 M2 → Ld G d kf Z k0 cw ch ct v0 M2) → (∀ f M2, rinO row (recR row al dl) (some p) s = .inl f → Flt sB MB f M2 → Ld G d kf Z k0 cw ch ct v0 M2) → Ld G d kf Z k0 cw ch ct v0 M
/-- an element: its head has been read -/
theorem dec_one {dl h i k c : Nat} {tr : Int32} {ov : Prop} (IH : Ins G d kf Z k0 cw ch ct v0 row al sB MB dl (h + 1)) {L Y V : List Int64} {s s1 s9 s8 : RS} {M M1 M9 : Mm} {q : Int64 × Option Pd} (hB9 : Pre sB s9) (hi9 : (pH s9).length ≤ i) (hp9 : Pre s9 s) (hp8 : Pre s8 s) (hil : i < (pH s).length) (hq : PIt row al h s i k c tr L Y V ov q s1 M1) (hE : EqF (onMDi h s i) M M1) (hBM : EqF (onMD 0 sB) MB M) (h9M : EqF (onMDi h s8 i) M9 M) (hcm : CmM (i + 1) s M) (hL : L.length ≤ 8) (hY : Y.length ≤ 6) (hV : V.length = Y.length)
    (kk : ∀ s2 M2, rinO row (recR row al dl) q.2 s1 = .inr s2 → Inv row al sB MB h i k c tr ov s9 s8 M9 L Y V s2 M2 → i < (pH s2).length → Ld G d kf Z k0 cw ch ct v0 M2) (kx : ∀ f M2, rinO row (recR row al dl) q.2 s1 = .inl f → Flt sB MB f M2 → Ld G d kf Z k0 cw ch ct v0 M2) : Ld G d kf Z k0 cw ch ct v0 M1 := by
  have hBs : Pre sB s := hB9.tr hp9
  have hiB : (pH sB).length ≤ i := Nat.le_trans hB9.2.2.2 hi9
  have hBM1 : EqF (onMD 0 sB) MB M1 := hBM.tr (hE.sub fun k j z => onMD_i hBs (Nat.zero_le _) hiB z)
  obtain ⟨z1, z2, z3, z4, z5⟩ := hq
  obtain ⟨v, p⟩ := q
  have fin : ∀ s2 M2, RdM row al s2 M2 → Pre s s2 → M2.1 (40, 0) 28 = nI (h + 1) → Stk h i L.length Y.length ov M2 → MPt k c tr L Y V i M2 → CmM (pH s).length s2 M2 → EqF (onMDi h s i) M M2 → EqF (onMD 0 sB) MB M2 → Inv row al sB MB h i k c tr ov s9 s8 M9 L Y V s2 M2 := by
    intro s2 M2 y1 y2 y3 y4 y5 y6 y7 y8
    refine ⟨y1, y8, hp9.tr y2, hp8.tr y2, y3, y4, y5, fun j x hj hx => ?_, h9M.tr (y7.sub fun k j z => onMDi_pre hp8 (Nat.le_refl _) z), hY, hV⟩
    by_cases hl : j < (pH s).length
    · exact (hcm j x hj ((y2.2.2.1 j hl) ▸ hx)).eqDi y7 hl (by omega)
    · exact y6 j x (by omega) hx
  cases p with
  | none => exact kk s1 M1 rfl (fin s1 M1 z1 z2 z5.1 z3 z4 z5.2 hE hBM1) (Nat.lt_of_lt_of_le hil z2.2.2.2)
  | some p =>
    have hpi : p.1 = (pH s).length := z5.1
    refine IH p s s1 M1 z5 z1 z2 hBs hBM1 (fun s2 M2 hr hD => kk s2 M2 hr ?_ (Nat.lt_of_lt_of_le hil hD.2.2.1.2.2.2)) (fun f M2 hr hF => kx f M2 hr hF)
    obtain ⟨y1, y2, y3, y4, y5, y6⟩ := hD
    have hl1 : (pH s1).length = p.1 + 1 := z5.2.2.1
    exact fin s2 M2 y2 y3 y4 (z3.eq y1 (fun r h1 h2 => by unfold onMDi onMD; simp; omega)) (z4.eqDi y1 (by omega) (by omega) hL hY (by omega)) (hpi ▸ y5) (hE.tr (y1.sub fun k j z => onMDi_i z2 (Nat.le_succ _) (by omega) z)) y6
theorem flt_i {h i : Nat} {s s9 : RS} {M M1 : Mm} {f : Nat} (hB9 : Pre sB s9) (hi9 : (pH s9).length ≤ i) (hp9 : Pre s9 s) (hBM : EqF (onMD 0 sB) MB M) (hE : EqF (onMDi h s i) M M1) (h1 : M1.1 (40, 0) 37 = nI f) (h2 : f ≤ 600) : Flt sB MB f M1 :=
  ⟨hBM.tr (hE.sub fun k j z => onMD_i (hB9.tr hp9) (Nat.zero_le _) (Nat.le_trans hB9.2.2.2 hi9) z), h1, h2⟩
theorem dec_items (hG : Gok G) (hd : 9 ≤ d) (hk : k0 ≤ kf) {dl h i k c : Nat} {tr : Int32} {ov : Prop} (hdl : h + 1 + dl = 12) (IH : Ins G d kf Z k0 cw ch ct v0 row al sB MB dl (h + 1)) (hkd : (ov ∧ k < 16) ∨ (¬ ov ∧ k = 10)) (hc8 : c ≤ 8) {s9 s8 : RS} {M9 : Mm} (hB9 : Pre sB s9) (hi9 : (pH s9).length ≤ i) {Y V : List Int64} :
    ∀ (n : Nat) (L : List Int64) (s : RS) (M : Mm), L.length + n = c → Inv row al sB MB h i k c tr ov s9 s8 M9 L Y V s M → i < (pH s).length → (∀ L' s2 M2, rItems (rVal row al dl) n L s = .inr (L', s2) → Inv row al sB MB h i k c tr ov s9 s8 M9 L' Y V s2 M2 → i < (pH s2).length → L'.length = c → Ld G d kf Z k0 cw ch ct v0 M2) → (∀ f M2, rItems (rVal row al dl) n L s = .inl f → Flt sB MB f M2 → Ld G d kf Z k0 cw ch ct v0 M2) → Ld G d kf Z k0 cw ch ct v0 M := by
  intro n
  induction n with
  | zero =>
    intro L s M hL hI hil kk kx
    exact kk L s M rfl hI hil (by omega)
  | succ n ih =>
    intro L s M hL hI hil kk kx
    obtain ⟨w1, w2, w3, w4, w5, w6, w7, w8, w9, w10, w11⟩ := id hI
    have er : rItems (rVal row al dl) (n + 1) L s = rb (rhd row al (h + 1) s) fun q => rb (rinO row (recR row al dl) q.1.2 q.2) fun s2 => rItems (rVal row al dl) n (L ++ [q.1.1]) s2 := by
      rw [show rItems (rVal row al dl) (n + 1) L s = rb (rVal row al dl s) (fun q => rItems (rVal row al dl) n (L ++ [q.1]) q.2) from rfl, rVal_hd hdl, rb_assoc]
      congr 1
      funext q
      rw [rb_assoc]
      rfl
    rw [er] at kk kx
    have go : ∀ (b : Int64 × Option Pd) (s1 : RS) (M1 : Mm), rhd row al (h + 1) s = .inr (b, s1) → PIt row al h s i k c tr (L ++ [b.1]) Y V ov b s1 M1 → EqF (onMDi h s i) M M1 → Ld G d kf Z k0 cw ch ct v0 M1 := by
      intro b s1 M1 e1 hP hE
      rw [e1] at kk kx
      refine dec_one IH hB9 hi9 w3 w4 hil hP hE w2 w9 w8 (by simp; omega) w10 w11 (fun s2 M2 e2 hI2 hil2 => ?_) (fun f M2 e2 hF => ?_)
      · have kk2 : ∀ L' s3 M3, rItems (rVal row al dl) n (L ++ [b.1]) s2 = .inr (L', s3) → _ := fun L' s3 M3 e3 => kk L' s3 M3 (by show rb (rinO row (recR row al dl) b.2 s1) _ = _; rw [e2]; exact e3)
        have kx2 : ∀ f M3, rItems (rVal row al dl) n (L ++ [b.1]) s2 = .inl f → _ := fun f M3 e3 => kx f M3 (by show rb (rinO row (recR row al dl) b.2 s1) _ = _; rw [e2]; exact e3)
        exact ih (L ++ [b.1]) s2 M2 (by simp; omega) hI2 hil2 kk2 kx2
      · exact kx f M2 (by show rb (rinO row (recR row al dl) b.2 s1) _ = _; rw [e2]; rfl) hF
    have gx : ∀ f M1, rhd row al (h + 1) s = .inl f → M1.1 (40, 0) 37 = nI f → f ≤ 600 → EqF (onMDi h s i) M M1 → Ld G d kf Z k0 cw ch ct v0 M1 := by
      intro f M1 e1 h1 h2 hE
      exact kx f M1 (by rw [e1]; rfl) (flt_i hB9 hi9 w3 w2 hE h1 h2)
    rcases hkd with ⟨hov, hk16⟩ | ⟨hov, hk10⟩
    · exact l_dq hG hd (c_roI_O hG (Nat.le_refl 8) w1 w5 w6 (by omega) w7 hil hc8 w10 w11 (by omega) hov hk16) w5 (by omega) w1.1.2.1 hk go gx
    · exact l_dq hG hd (c_roI_10 hG (Nat.le_refl 8) w1 w5 w6 (by omega) w7 hil hc8 w10 w11 (by omega) hov hk10) w5 (by omega) w1.1.2.1 hk go gx
theorem dec_pairs (hG : Gok G) (hd : 9 ≤ d) (hk : k0 ≤ kf) {dl h i k c : Nat} {tr : Int32} (hdl : h + 1 + dl = 12) (IH : Ins G d kf Z k0 cw ch ct v0 row al sB MB dl (h + 1)) (hc8 : c ≤ 8) {s9 s8 : RS} {M9 : Mm} (hB9 : Pre sB s9) (hi9 : (pH s9).length ≤ i) {L mem : List Int64} (hkd : (k = 9 ∧ L.length ≤ c ∧ mem = []) ∨ (k = 10 ∧ L.length = c ∧ ∃ (t : Nat) (y : Tr), (pT s8)[t]? = some y ∧ tr = nI t ∧ mem = rM y)) (hL8 : L.length ≤ 8) :
    ∀ (n : Nat) (Y V : List Int64) (s : RS) (M : Mm), Y.length + n = 6 → Inv row al sB MB h i k c tr False s9 s8 M9 L Y V s M → i < (pH s).length → (∀ q s2 M2, rPairs row (rVal row al dl) mem (n + 1) Y V s = .inr (q, s2) → Inv row al sB MB h i k c tr True s9 s8 M9 L q.1 q.2 s2 M2 → i < (pH s2).length → Ld G d kf Z k0 cw ch ct v0 M2) → (∀ f M2, rPairs row (rVal row al dl) mem (n + 1) Y V s = .inl f → Flt sB MB f M2 → Ld G d kf Z k0 cw ch ct v0 M2) → Ld G d kf Z k0 cw ch ct v0 M := by
  intro n
  induction n with
  | zero =>
    intro Y V s M hY hI hil kk kx
    obtain ⟨w1, w2, w3, w4, w5, w6, w7, w8, w9, w10, w11⟩ := id hI
    rw [rPairs_pk hdl hY] at kk kx
    have go : ∀ (b : Option (Int64 × (Int64 × Option Pd))) (s1 : RS) (M1 : Mm), rpk row al h mem Y s = .inr (b, s1) → PPk row al h s i k c tr L Y V b s1 M1 → EqF (onMDi h s i) M M1 → Ld G d kf Z k0 cw ch ct v0 M1 := by
      intro b s1 M1 e1 hP hE
      cases b with
      | none =>
        obtain ⟨p1, p2, p3, p4, p5, p6⟩ := hP
        refine kk (Y, V) s1 M1 (by rw [e1]; rfl) ⟨p1, w2.tr (hE.sub fun k j z => onMD_i (hB9.tr w3) (Nat.zero_le _) (Nat.le_trans hB9.2.2.2 hi9) z), w3.tr p2, w4.tr p2, p4, p5, p6, fun j x hj hx => (w8 j x hj (p3 ▸ hx)).eqDi hE (by have := at_lt hx; rw [p3] at this; exact this) (by omega), w9.tr (hE.sub fun k j z => onMDi_pre w4 (Nat.le_refl _) z), w10, w11⟩ (Nat.lt_of_lt_of_le hil p2.2.2.2)
      | some b =>
        have := hP.2
        omega
    have gx : ∀ f M1, rpk row al h mem Y s = .inl f → M1.1 (40, 0) 37 = nI f → f ≤ 600 → EqF (onMDi h s i) M M1 → Ld G d kf Z k0 cw ch ct v0 M1 := by
      intro f M1 e1 h1 h2 hE
      exact kx f M1 (by rw [e1]; rfl) (flt_i hB9 hi9 w3 w2 hE h1 h2)
    rcases hkd with ⟨hk9, hle, rfl⟩ | ⟨hk10, hle, t, y, hy, htr, rfl⟩
    · by_cases hlt : L.length < c
      · exact l_dq hG hd (c_roP_9T hG (Nat.le_refl 8) w1 w5 w6 (by omega) w7 hil hc8 w10 w11 hk9 (fun z => z) hlt) w5 (by omega) w1.1.2.1 hk go gx
      · exact l_dq hG hd (c_roP_9F hG (Nat.le_refl 8) w1 w5 w6 (by omega) w7 hil hc8 w10 w11 hk9 (fun z => z) (by omega)) w5 (by omega) w1.1.2.1 hk go gx
    · exact l_dq hG hd (c_roP_10 hG (Nat.le_refl 8) w1 w5 w6 (by omega) w7 hil hc8 w10 w11 hk10 (fun z => z) hle (w4.Tat hy) htr) w5 (by omega) w1.1.2.1 hk go gx
  | succ n ih =>
    intro Y V s M hY hI hil kk kx
    obtain ⟨w1, w2, w3, w4, w5, w6, w7, w8, w9, w10, w11⟩ := id hI
    rw [rPairs_pk hdl hY] at kk kx
    have go : ∀ (b : Option (Int64 × (Int64 × Option Pd))) (s1 : RS) (M1 : Mm), rpk row al h mem Y s = .inr (b, s1) → PPk row al h s i k c tr L Y V b s1 M1 → EqF (onMDi h s i) M M1 → Ld G d kf Z k0 cw ch ct v0 M1 := by
      intro b s1 M1 e1 hP hE
      cases b with
      | none =>
        obtain ⟨p1, p2, p3, p4, p5, p6⟩ := hP
        refine kk (Y, V) s1 M1 (by rw [e1]; rfl) ⟨p1, w2.tr (hE.sub fun k j z => onMD_i (hB9.tr w3) (Nat.zero_le _) (Nat.le_trans hB9.2.2.2 hi9) z), w3.tr p2, w4.tr p2, p4, p5, p6, fun j x hj hx => (w8 j x hj (p3 ▸ hx)).eqDi hE (by have := at_lt hx; rw [p3] at this; exact this) (by omega), w9.tr (hE.sub fun k j z => onMDi_pre w4 (Nat.le_refl _) z), w10, w11⟩ (Nat.lt_of_lt_of_le hil p2.2.2.2)
      | some b =>
        obtain ⟨key, b⟩ := b
        rw [e1] at kk kx
        refine dec_one IH hB9 hi9 w3 w4 hil hP.1 hE w2 w9 w8 hL8 (by simp; omega) (by simp [w11]) (fun s2 M2 e2 hI2 hil2 => ?_) (fun f M2 e2 hF => ?_)
        · have kk2 : ∀ q s3 M3, rPairs row (rVal row al dl) mem (n + 1) (Y ++ [key]) (V ++ [b.1]) s2 = .inr (q, s3) → _ := fun q s3 M3 e3 => kk q s3 M3 (by show rb (rinO row (recR row al dl) b.2 s1) _ = _; rw [e2]; exact e3)
          have kx2 : ∀ f M3, rPairs row (rVal row al dl) mem (n + 1) (Y ++ [key]) (V ++ [b.1]) s2 = .inl f → _ := fun f M3 e3 => kx f M3 (by show rb (rinO row (recR row al dl) b.2 s1) _ = _; rw [e2]; exact e3)
          exact ih (Y ++ [key]) (V ++ [b.1]) s2 M2 (by simp; omega) hI2 hil2 kk2 kx2
        · exact kx f M2 (by show rb (rinO row (recR row al dl) b.2 s1) _ = _; rw [e2]; rfl) hF
    have gx : ∀ f M1, rpk row al h mem Y s = .inl f → M1.1 (40, 0) 37 = nI f → f ≤ 600 → EqF (onMDi h s i) M M1 → Ld G d kf Z k0 cw ch ct v0 M1 := by
      intro f M1 e1 h1 h2 hE
      exact kx f M1 (by rw [e1]; rfl) (flt_i hB9 hi9 w3 w2 hE h1 h2)
    rcases hkd with ⟨hk9, hle, rfl⟩ | ⟨hk10, hle, t, y, hy, htr, rfl⟩
    · by_cases hlt : L.length < c
      · exact l_dq hG hd (c_roP_9T hG (Nat.le_refl 8) w1 w5 w6 (by omega) w7 hil hc8 w10 w11 hk9 (fun z => z) hlt) w5 (by omega) w1.1.2.1 hk go gx
      · exact l_dq hG hd (c_roP_9F hG (Nat.le_refl 8) w1 w5 w6 (by omega) w7 hil hc8 w10 w11 hk9 (fun z => z) (by omega)) w5 (by omega) w1.1.2.1 hk go gx
    · exact l_dq hG hd (c_roP_10 hG (Nat.le_refl 8) w1 w5 w6 (by omega) w7 hil hc8 w10 w11 hk10 (fun z => z) hle (w4.Tat hy) htr) w5 (by omega) w1.1.2.1 hk go gx
/-- the end of a thing -/
theorem dec_end (hG : Gok G) (hd : 9 ≤ d) (hk : k0 ≤ kf) {h i k c t : Nat} {tr : Int32} {ov : Prop} (hh : h < 12) (hov : ov) (hc8 : c ≤ 8) (hk9 : k = 9 ∨ k = 10) (htr : tr = trv (k, 0, t, [], [], [])) {s9 s8 : RS} {M9 : Mm} (hi9 : (pH s9).length ≤ i) {L Y V : List Int64} {s : RS} {M : Mm} (hI : Inv row al sB MB h i k c tr ov s9 s8 M9 L Y V s M) (hB9 : Pre sB s9) {y : Th} (hy : (pH s)[i]? = some y) (hky : tK y = k) (hL : L.length = c)
    (kk : ∀ M2, DI row al sB MB h s9 s8 i M9 (setH i (k, 0, t, L, Y, V) s) M2 → Ld G d kf Z k0 cw ch ct v0 M2) : Ld G d kf Z k0 cw ch ct v0 M := by
  obtain ⟨w1, w2, w3, w4, w5, w6, w7, w8, w9, w10, w11⟩ := id hI
  have hil := at_lt hy
  have hi40 := w1.2.2.2.1.2.2.1
  have hC : Cq G mX9_readOn 8 [.ref (ga G (40, 0))] M (fun v M' => v = none ∧ M' = ui M (40, 0) 28 (nI h)) 0 := Ct.q (c_roE hG w5 w6 hh w7 (by omega) hc8 hL hov) ⟨rfl, rfl⟩
  refine l_dgo hG hd hC w5 hh w1.1.2.1 (fun v M' z => z.1) (fun v M' z => ?_) hk
  obtain ⟨-, rfl⟩ := z
  have hS : EqF (fun k j => k.1 = 40 → j ≠ 28) M (ui M (40, 0) 28 (nI h)) := EqF.rf.ui (by simp)
  have hS1 : EqF (onMDi h s i) M (ui M (40, 0) 28 (nI h)) := EqF.rf.ui (by unfold onMDi onMD; simp)
  refine kk _ ⟨w9.tr (hS1.sub fun k j z => onMDi_pre w4 (Nat.le_refl _) z), (w1.eqO (EqF.rf.ui (by simp [onO]))).set hy hky.symm, w3.set hi9, by simp [ui], ?_, w2.tr (EqF.rf.ui (by unfold onMD; simp))⟩
  refine CmM.set (fun j x hj hx => (w8 j x hj hx).eqDi hS1 (at_lt hx) (by omega)) ?_
  obtain ⟨m1, m2, m3, m4, m5, m6, m7⟩ := w7
  refine ⟨(hS _ _ (by simp)).1.trans m1, (hS _ _ (by simp)).1.trans (by rw [m2, ← hL]; rfl), (hS _ _ (by simp)).1.trans (m3.trans htr), (hS _ _ (by simp)).1.trans m4, m5.to fun k => (hS _ _ (by simp)).2, m6.to fun k => (hS _ _ (by simp)).2, fun _ => m7.to fun k => (hS _ _ (by simp)).2, fun z => ?_, fun z => ?_, by show L.length ≤ 8; omega, w10, w11, ?_⟩
  · have : k = 8 := z
    omega
  · have : k = 12 := z
    omega
  · show k < 16
    omega
theorem dec_ins (hG : Gok G) (hd : 9 ≤ d) (hk : k0 ≤ kf) : ∀ (dl h : Nat), h + dl = 12 → Ins G d kf Z k0 cw ch ct v0 row al sB MB dl h := by
  intro dl
  induction dl with
  | zero =>
    intro h hh p s9 s M hP
    have := hP.2.2.2.1
    omega
  | succ dl IH =>
    intro h hh p s9 s M hP hw hp9 hB9 hBM kk kx
    have IH1 := IH (h + 1) (by omega)
    obtain ⟨i, k, c, t⟩ := p
    obtain ⟨p1, p2, p3, p4, p5, p6, p7, p8, p9⟩ := hP
    dsimp only at p1 p2 p3 p5 p6 p7 p8 p9 kk kx
    have hi9 : (pH s9).length ≤ i := by omega
    have hil : i < (pH s).length := by omega
    change ∀ s2 M2, rins row (rVal row al dl) (i, k, c, t) s = .inr s2 → _ at kk
    change ∀ f M2, rins row (rVal row al dl) (i, k, c, t) s = .inl f → _ at kx
    have mk : ∀ ov : Prop, (ovp s (i, k, c, t) ↔ ov) → Inv row al sB MB h i k c (trp (i, k, c, t)) ov s9 s M [] [] [] s M := fun ov e => ⟨hw, hBM, hp9, Pre.rf, p9.1, ⟨p9.2.1, p9.2.2.1, p9.2.2.2.1, p9.2.2.2.2.trans (bI_iff e)⟩, p8, CmM.nil (by omega), EqF.rf, Nat.zero_le _, rfl⟩
    have kAt : ∀ {s2 : RS}, Pre s s2 → (pH s2)[i]? = some (k, 0, 0, [], [], []) := fun hp => (hp.2.2.1 i hil).trans p2
    rcases p5 with h9 | h10
    · subst h9
      have er : rins row (rVal row al dl) (i, 9, c, t) s = rb (rPairs row (rVal row al dl) [] 7 [] [] s) fun q => rb (rItems (rVal row al dl) c [] q.2) fun z => .inr (setH i (9, 0, 0, z.1, q.1.1, q.1.2) z.2) := rfl
      rw [er] at kk kx
      refine dec_pairs hG hd hk (by omega) IH1 p6 hB9 hi9 (Or.inl ⟨rfl, Nat.zero_le _, rfl⟩) (Nat.zero_le _) 6 [] [] s M rfl (mk False ⟨fun z => absurd z.1 (show ¬ (9 : Nat) = 10 by decide), fun z => z.elim⟩) hil (fun q s2 M2 e2 hI2 hil2 => ?_) (fun f M2 e2 hF => kx f M2 (by rw [e2]; rfl) hF)
      rw [e2] at kk kx
      refine dec_items hG hd hk (by omega) IH1 (Or.inl ⟨trivial, by decide⟩) p6 hB9 hi9 c [] s2 M2 (Nat.zero_add _) hI2 hil2 (fun L s3 M3 e3 hI3 hil3 hL => ?_) (fun f M3 e3 hF => kx f M3 (by show rb (rItems (rVal row al dl) c [] s2) _ = _; rw [e3]; rfl) hF)
      refine dec_end (t := 0) hG hd hk p4 trivial p6 (Or.inl rfl) rfl hi9 hI3 hB9 (kAt hI3.2.2.2.1) rfl hL (fun M4 hD => kk (setH i (9, 0, 0, L, q.1, q.2) s3) M4 (by show rb (rItems (rVal row al dl) c [] s2) _ = _; rw [e3]; rfl) hD)
    · subst h10
      obtain ⟨ht, hc⟩ := p7 rfl
      obtain ⟨y, hy⟩ : ∃ y, (pT s)[t]? = some y := ⟨_, List.getElem?_eq_getElem ht⟩
      have etr : trAt s t = y := by unfold trAt; rw [hy]; rfl
      have er : rins row (rVal row al dl) (i, 10, c, t) s = rb (rItems (rVal row al dl) c [] s) fun z => if rD y = true then rb (rPairs row (rVal row al dl) (rM y) 7 [] [] z.2) fun q => .inr (setH i (10, 0, t, z.1, q.1.1, q.1.2) q.2) else .inr (setH i (10, 0, t, z.1, [], []) z.2) := by
        rw [← etr]; rfl
      rw [er] at kk kx
      by_cases hdy : rD y = true
      · refine dec_items hG hd hk (by omega) IH1 (Or.inr ⟨fun z => z, rfl⟩) p6 hB9 hi9 c [] s M (Nat.zero_add _) (mk False ⟨fun z => z.2 (by show rD (trAt s t) = true; rw [etr]; exact hdy), fun z => z.elim⟩) hil (fun L s2 M2 e2 hI2 hil2 hL => ?_) (fun f M2 e2 hF => kx f M2 (by rw [e2]; rfl) hF)
        rw [e2] at kk kx
        have kk2 := fun s3 M3 (e3 : (rb (rPairs row (rVal row al dl) (rM y) 7 [] [] s2) fun q => (.inr (setH i (10, 0, t, L, q.1.1, q.1.2) q.2) : Nat ⊕ RS)) = .inr s3) => kk s3 M3 (by show (if rD y = true then _ else _) = _; rw [if_pos hdy]; exact e3)
        have kx2 := fun f M3 (e3 : (rb (rPairs row (rVal row al dl) (rM y) 7 [] [] s2) fun q => (.inr (setH i (10, 0, t, L, q.1.1, q.1.2) q.2) : Nat ⊕ RS)) = .inl f) => kx f M3 (by show (if rD y = true then _ else _) = _; rw [if_pos hdy]; exact e3)
        refine dec_pairs hG hd hk (by omega) IH1 p6 hB9 hi9 (Or.inr ⟨rfl, hL, t, y, hy, rfl, rfl⟩) (by omega) 6 [] [] s2 M2 rfl hI2 hil2 (fun q s3 M3 e3 hI3 hil3 => ?_) (fun f M3 e3 hF => kx2 f M3 (by rw [e3]; rfl) hF)
        exact dec_end (t := t) hG hd hk p4 trivial p6 (Or.inr rfl) rfl hi9 hI3 hB9 (kAt hI3.2.2.2.1) rfl hL (fun M4 hD => kk2 (setH i (10, 0, t, L, q.1, q.2) s3) M4 (by rw [e3]; rfl) hD)
      · refine dec_items hG hd hk (by omega) IH1 (Or.inl ⟨trivial, by decide⟩) p6 hB9 hi9 c [] s M (Nat.zero_add _) (mk True ⟨fun _ => trivial, fun _ => ⟨rfl, fun z => hdy (by rw [← etr]; exact z)⟩⟩) hil (fun L s2 M2 e2 hI2 hil2 hL => ?_) (fun f M2 e2 hF => kx f M2 (by rw [e2]; rfl) hF)
        rw [e2] at kk kx
        exact dec_end (t := t) hG hd hk p4 trivial p6 (Or.inr rfl) rfl hi9 hI2 hB9 (kAt hI2.2.2.2.1) rfl hL (fun M4 hD => kk (setH i (10, 0, t, L, [], []) s2) M4 (by show (if rD y = true then _ else _) = _; rw [if_neg hdy]) hD)
end N6
