theorem nfl_of {ci : Nat} {C : String} {T : u_T} {N : Nat} (h : vwCl[ci]? = some (C, T, N)) : nfl ci = N := by unfold nfl; rw [h]
theorem ui_same (M : Mm) (k : Ky) (j : Nat) (x : Int32) : (ui M k j x).1 k j = x := by simp [ui]
theorem ui_ne {M : Mm} {k k' : Ky} {j j' : Nat} {x : Int32} (h : k' ≠ k ∨ j' ≠ j) : (ui M k j x).1 k' j' = M.1 k' j' := by
  unfold ui
  dsimp only
  rw [if_neg]
  rintro ⟨a, b⟩
  rcases h with h | h
  · exact h a
  · exact h b
theorem ul_same (M : Mm) (k : Ky) (j : Nat) (x : Int64) : (ul M k j x).2 k j = x := by simp [ul]
theorem ul_ne {M : Mm} {k k' : Ky} {j j' : Nat} {x : Int64} (h : k' ≠ k ∨ j' ≠ j) : (ul M k j x).2 k' j' = M.2 k' j' := by
  unfold ul
  dsimp only
  rw [if_neg]
  rintro ⟨a, b⟩
  rcases h with h | h
  · exact h a
  · exact h b
/-- what a store of an int or a long does to a cell's values -/
def um (M : Mm) (k : Ky) (j : Nat) (v : Value) : Mm := match v with
  | .int x => ui M k j x
  | .long x => ul M k j x
  | _ => M
def isNum (ty : FieldType) (v : Value) : Prop := match ty, v with
  | .int, .int _ => True
  | .boolean, .int _ => True
  | .long, .long _ => True
  | _, _ => False
theorem cval_um_ne {G : Gd} {M : Mm} {k k' : Ky} {j j' : Nat} {v : Value} {ty : FieldType} (h : k' ≠ k ∨ j' ≠ j) : cval G (um M k j v) k' ty j' = cval G M k' ty j' := by
  cases v with
  | int x => cases ty <;> simp only [um, cval, ui_ne h] <;> rfl
  | long x => cases ty <;> simp only [um, cval, ul_ne h] <;> rfl
  | _ => rfl
theorem cval_um_same {G : Gd} {M : Mm} {k : Ky} {j : Nat} {v : Value} {ty : FieldType} (h : isNum ty v) : cval G (um M k j v) k ty j = v := by
  cases v with
  | int x => cases ty <;> first | exact h.elim | (simp only [um, cval, ui_same])
  | long x => cases ty <;> first | exact h.elim | (simp only [um, cval, ul_same])
  | _ => cases ty <;> exact h.elim
theorem Rep.stored {G : Gd} {M : Mm} {H H1 : Heap} (hR : Rep G M H) (hg : Gok G) {k : Ky} {sp : Nat ⊕ (Nat × Nat)} (hs : shp k.1 = some sp) (hc : k.2 < cnt k.1) {j : Nat} {v : Value}
    (hq : ∀ q : Nat, q ≠ ga G k → H1[q]? = H[q]?) (hk : cellR G (um M k j v) k sp H1) : Rep G (um M k j v) H1 := by
  intro k' sp' hs' hc'
  by_cases e : k' = k
  · subst e
    cases hs.symm.trans hs'
    exact hk
  · have h0 := hR k' sp' hs' hc'
    have hne : ga G k' ≠ ga G k := fun z => e (hg.2.2.1 k' k (by rw [hs']; rfl) hc' (by rw [hs]; rfl) hc z)
    cases sp' with
    | inl ci =>
      have h1 : t_OB (ga G k') ((gD G).1 ci) (nfl ci) ((gD G).2 ci) H (fun j' => cval G M k' (ftyp ci j') j') := h0
      show t_OB (ga G k') ((gD G).1 ci) (nfl ci) ((gD G).2 ci) H1 (fun j' => cval G (um M k j v) k' (ftyp ci j') j')
      exact (h1.kept (hq _ hne)).to fun j' _ => (cval_um_ne (Or.inl e)).symm
    | inr q =>
      have h1 : H[ga G k']? = some (arrV (gk G q.1) q.2 (fun j' => cval G M k' (aty q.1) j')) := h0
      show H1[ga G k']? = some (arrV (gk G q.1) q.2 (fun j' => cval G (um M k j v) k' (aty q.1) j'))
      rw [hq _ hne, h1]
      congr 2
      funext j'
      exact (cval_um_ne (Or.inl e)).symm
theorem HqE.stored {G : Gd} {M : Mm} {H H1 : Heap} (hR : HqE G M H) (hg : Gok G) {k : Ky} {sp : Nat ⊕ (Nat × Nat)} (hs : shp k.1 = some sp) (hc : k.2 < cnt k.1) {j : Nat} {v : Value}
    (hq : ∀ q : Nat, q ≠ ga G k → H1[q]? = H[q]?) (hz : H1.size = H.size) (hk : cellR G (um M k j v) k sp H1) : HqE G (um M k j v) H1 := by
  refine ⟨hR.1.stored hg hs hc hq hk, fun q hlt => ?_, by rw [hz]; exact hR.2.2⟩
  have hb := hg.2.2.2.1 k (by rw [hs]; rfl) hc
  rw [hq q (by omega)]
  exact hR.2.1 q hlt
theorem Hq.stored {G : Gd} {M : Mm} {s : State} {H H1 : Heap} {locs : List Loc} (hR : Hq G M s H locs) (hg : Gok G) {k : Ky} {sp : Nat ⊕ (Nat × Nat)} (hs : shp k.1 = some sp) (hc : k.2 < cnt k.1) {j i : Nat} {v : Value}
    (hq : ∀ q : Nat, q ≠ ga G k → H1[q]? = H[q]?) (hz : H1.size = H.size) (hk : cellR G (um M k j v) k sp H1) : Hq G (um M k j v) s H1 (locs ++ [⟨ga G k, i⟩]) := by
  refine ⟨hR.1.stored hg hs hc hq hz hk, by rw [hz]; exact hR.2.1, fun z hzm => ?_⟩
  rcases List.mem_append.mp hzm with h | h
  · exact hR.2.2 z h
  · rw [List.mem_singleton.mp h]
    exact hg.2.2.2.1 k (by rw [hs]; rfl) hc
theorem cells_arr {G : Gd} {M : Mm} {k : Ky} {t n j : Nat} {v : Value} {H1 : Heap} (hk : isNum (aty t) v)
    (h : H1[ga G k]? = some ((arrV (gk G t) n (fun j => cval G M k (aty t) j)).setSlot j v)) : cellR G (um M k j v) k (.inr (t, n)) H1 := by
  show H1[ga G k]? = some (arrV (gk G t) n (fun j' => cval G (um M k j v) k (aty t) j'))
  rw [h, arrV_store]
  congr 2
  funext j'
  by_cases e : j' = j
  · subst e
    simp only [updV, if_true]
    exact (cval_um_same hk).symm
  · simp only [updV, if_neg e]
    exact (cval_um_ne (Or.inr e)).symm
theorem cells_obj {G : Gd} {M : Mm} {k : Ky} {ci j : Nat} {v : Value} {H1 : Heap} {cell : Cell} (hk : isNum (ftyp ci j) v) (hap : ∀ a b, a < nfl ci → b < nfl ci → a ≠ b → (gD G).2 ci a ≠ (gD G).2 ci b) (hj : j < nfl ci)
    (hc : cell.cls = (gD G).1 ci) (hv : cell.vm = .none) (h4 : ∀ j', j' < nfl ci → cell.slots[(gD G).2 ci j']? = some (cval G M k (ftyp ci j') j'))
    (h : H1[ga G k]? = some (cell.setSlot ((gD G).2 ci j) v)) : cellR G (um M k j v) k (.inl ci) H1 := by
  show t_OB (ga G k) ((gD G).1 ci) (nfl ci) ((gD G).2 ci) H1 (fun j' => cval G (um M k j v) k (ftyp ci j') j')
  refine t_OB.to (V := updV (fun j' => cval G M k (ftyp ci j') j') j v) ⟨_, h, hc, hv, t_set h4 hap hj v⟩ fun j' _ => ?_
  by_cases e : j' = j
  · subst e
    simp only [updV, if_true]
    exact (cval_um_same hk).symm
  · simp only [updV, if_neg e]
    exact (cval_um_ne (Or.inr e)).symm
/-- what the tables say of a place where a field is named -/
def FLk (own idx ci j : Nat) : Prop := ∃ (C : String) (T : u_T) (N : Nat), vwCl[ci]? = some (C, T, N) ∧ j < N ∧ (∀ w ∈ u_ws C T N, w ∈ lw_tbl) ∧ (∀ a, a < N → ∀ b, b < N → a ≠ b → (T a).2.1 ≠ (T b).2.1) ∧ (∀ a, a < N → parseFieldDescriptor (T a).2.2.1 = some (ftyp ci a)) ∧
  (Cond.fieldLink (cnm own) idx (T j).1 (T j).2.1 (T j).2.2.1 ∈ lw_tbl ∨ ∃ ho, Cond.fieldLinkNest (cnm own) idx (T j).1 (T j).2.1 (T j).2.2.1 ho ∈ lw_tbl)
section XH
variable {G : Gd} {y : Mt} {d kf : Nat} {Z : Zt} {k pc n t : Nat} {lv lv' : List (Nat × Value)} {st : List Value} {M : Mm}
theorem u_good (C : String) (T : u_T) (N : Nat) : ∀ w ∈ u_ws C T N, okw w = true := by
  intro w hw
  obtain ⟨a, -, rfl⟩ := List.mem_map.mp hw
  unfold u_lay
  by_cases h : (T a).2.2.2 = true
  · rw [if_pos h]; rfl
  · rw [if_neg h]; rfl
theorem x_get {idx : Nat} {q : Ky} {ci j : Nat} {v : Value} (hi : tget (yT y) pc = some (.getfield idx, n, t)) (hn : pc + 3 = n) (hf : FLk (yC y) idx ci j) (hs : shp q.1 = some (.inl ci)) (hc : q.2 < cnt q.1) (hv : cval G M q (ftyp ci j) j = v)
    (kk : Fr G y d kf Z k n lv (v :: st) M) : Fr G y d kf Z k pc lv (.ref (ga G q) :: st) M := by
  intro p e R s m args below meth c H locs ls C hx hH hL
  obtain ⟨hg, hok, ha, hb, hret, hlk, hml, hown, hwm, -⟩ := id C
  have hd := (hok.get hi).1
  subst hn
  rw [Nat.add_sub_cancel_left] at hd
  obtain ⟨Cn, T, N, hcl, hj, hin, -, -, hlink⟩ := hf
  have hK : va_K (gD G) vwCl (tysG G) s := va_K.moved hwm.alike hg.2.1
  have hN := nfl_of hcl
  obtain ⟨cell, q1, q2, q3, q4⟩ : t_OB (ga G q) ((gD G).1 ci) (nfl ci) ((gD G).2 ci) H (fun j => cval G M q (ftyp ci j) j) := hH.1.1 q _ hs hc
  obtain ⟨hS, hfc, kC, hkC, hkind⟩ := hK.1 ci _ hcl
  obtain ⟨cf, kf9, fi, f, hfi, hsl⟩ := hS j hj
  have hts : ∀ w ∈ u_ws Cn T N, w.before args s = true := fun w hw => hg.1 w (hin w hw) (u_good Cn T N w hw) args s hwm
  have hst := (u_facts hfc hkC (u_lays hts (fun _ h => h) hj) hfi).1
  have hval : cell.slots[f.slot]? = some v := by
    have hsl2 : f.slot = (gD G).2 ci j := hsl
    rw [hsl2, q4 j (by rw [hN]; exact hj)]
    exact congrArg some hv
  have kk9 := kk p e R s m args below meth c H locs ls C hx hH hL
  rcases hlink with hw | ⟨ho, hw⟩
  · exact W.getf ha hb hown (hg.1 _ hw rfl args s hwm) hfi hst q1 (by rw [q3]; exact fun h => by cases h) hval rfl rfl hd kk9
  · exact va_Wgetf ha hb hown (hg.1 _ hw rfl args s hwm) hfi hst q1 (by rw [q3]; exact fun h => by cases h) hval rfl rfl hd kk9
theorem x_put {idx : Nat} {q : Ky} {ci j : Nat} {v : Value} (hi : tget (yT y) pc = some (.putfield idx, n, t)) (hn : pc + 3 = n) (hf : FLk (yC y) idx ci j) (hfin : ∀ (Cn : String) (T : u_T) (N : Nat), vwCl[ci]? = some (Cn, T, N) → (T j).2.2.2 = false) (hs : shp q.1 = some (.inl ci)) (hc : q.2 < cnt q.1)
    (hnum : isNum (ftyp ci j) v) (hnar : narrow (ftyp ci j) v = v) (hfit : fits (ftyp ci j) v = true)
    (kk : Fr G y d kf Z k n lv st (um M q j v)) : Fr G y d kf Z k pc lv (v :: .ref (ga G q) :: st) M := by
  intro p e R s m args below meth c H locs ls C hx hH hL
  obtain ⟨hg, hok, ha, hb, hret, hlk, hml, hown, hwm, -⟩ := id C
  have hd := (hok.get hi).1
  subst hn
  rw [Nat.add_sub_cancel_left] at hd
  obtain ⟨Cn, T, N, hcl, hj, hin, hnm, hty, hlink⟩ := hf
  have hfin9 := hfin Cn T N hcl
  have hK : va_K (gD G) vwCl (tysG G) s := va_K.moved hwm.alike hg.2.1
  have hN := nfl_of hcl
  obtain ⟨cell, q1, q2, q3, q4⟩ : t_OB (ga G q) ((gD G).1 ci) (nfl ci) ((gD G).2 ci) H (fun j => cval G M q (ftyp ci j) j) := hH.1.1 q _ hs hc
  obtain ⟨hS, hfc, kC, hkC, hkind⟩ := hK.1 ci _ hcl
  obtain ⟨cf, kf9, fi, f, hfi, hsl⟩ := hS j hj
  have hts : ∀ w ∈ u_ws Cn T N, w.before args s = true := fun w hw => hg.1 w (hin w hw) (u_good Cn T N w hw) args s hwm
  have hst := (u_facts hfc hkC (u_lays hts (fun _ h => h) hj) hfi).1
  have hap : ∀ a b, a < nfl ci → b < nfl ci → a ≠ b → (gD G).2 ci a ≠ (gD G).2 ci b := by
    rw [hN]
    exact va_apart (own := Cn) (ci := ci) hts (fun _ h => h) (ftyp ci) hty hnm hK hcl
  have hlay := hts _ (u_in_lay hj)
  unfold u_lay at hlay
  rw [if_neg (by rw [hfin9]; decide)] at hlay
  have h6 := u_store hfc hkC hkind hlay hfi (hty j hj) hnar hfit
  have hsl2 : f.slot = (gD G).2 ci j := hsl
  have hin9 : f.slot < cell.slots.size := by rw [hsl2]; exact k2_hasslot (q4 j (by rw [hN]; exact hj))
  have fin : ∀ (H1 : Heap), H1[ga G q]? = some (cell.setSlot f.slot v) → H1.size = H.size → (∀ z : Nat, z ≠ ga G q → H1[z]? = H[z]?) → W p (gl G) e R s m args below meth c H1 (locs ++ [⟨ga G q, f.slot⟩]) k (6 * k) (Z below args s) (F0 m (pc + 3) ls st) := by
    intro H1 e1 e2 e3
    rw [hsl2] at e1
    exact kk p e R s m args below meth c H1 _ ls C hx (hH.stored hg hs hc e3 e2 (cells_obj hnum hap (by rw [hN]; exact hj) q2 q3 q4 e1)) hL
  rcases hlink with hw | ⟨ho, hw⟩
  · exact W.putK ha hb (f := f) ⟨hown, hg.1 _ hw rfl args s hwm, ⟨_, _, _, hfi⟩, hst⟩ (by rw [q2]; exact h6) q1 q3 hin9 rfl rfl hd fin
  · exact va_WputK ha hb hown (hg.1 _ hw rfl args s hwm) hfi hst (by rw [q2]; exact h6) q1 q3 hin9 rfl rfl hd fin
theorem arrOk {t : Nat} (ht : t < 5) {s : State} (hg : Gok G) (hwm : (gs G).WarmedH s.vm) : ArrOfT s (gk G t) (aty t) := by
  have hK : va_K (gD G) vwCl (tysG G) s := va_K.moved hwm.alike hg.2.1
  refine (hK.2 t (gk G t, aty t) ?_).1
  rcases (show t = 0 ∨ t = 1 ∨ t = 2 ∨ t = 3 ∨ t = 4 by omega) with rfl | rfl | rfl | rfl | rfl <;> rfl
theorem x_iald {q : Ky} {L a : Nat} (hi : tget (yT y) pc = some (.iaload, n, t)) (hn : pc + 1 = n) (hs : shp q.1 = some (.inr (0, L))) (hc : q.2 < cnt q.1) (hin : a < L) (hL2 : L < 2 ^ 31) (kk : Fr G y d kf Z k n lv (.int (M.1 q a) :: st) M) : Fr G y d kf Z k pc lv (.int (nI a) :: .ref (ga G q) :: st) M := by
  intro p e R s m args below meth c H locs ls C hx hH hL
  obtain ⟨hg, hok, ha, hb, hret, hlk, hml, hown, hwm, -⟩ := id C
  have hd := (hok.get hi).1
  subst hn
  rw [Nat.add_sub_cancel_left] at hd
  have h1 : H[ga G q]? = some (arrV (gk G 0) L (fun j => cval G M q (aty 0) j)) := hH.1.1 q _ hs hc
  have hvi : vp_in (nI a) L := vp_in_nI hin hL2
  have hcl : (nI a).toNatClampNeg = a := nI_clamp (by omega)
  exact W.iald (v := .int (M.1 q a)) ha hb h1 (arrOk (t := 0) (by decide) hg hwm L _) (fun z => by cases z) (by rw [arrV_size]; exact hvi) (by rw [hcl, arrV_read _ _ hin]; rfl) rfl rfl hd (kk p e R s m args below meth c H locs ls C hx hH hL)
theorem x_zald {q : Ky} {L a : Nat} (hi : tget (yT y) pc = some (.baload, n, t)) (hn : pc + 1 = n) (hs : shp q.1 = some (.inr (2, L))) (hc : q.2 < cnt q.1) (hin : a < L) (hL2 : L < 2 ^ 31) (kk : Fr G y d kf Z k n lv (.int (M.1 q a) :: st) M) : Fr G y d kf Z k pc lv (.int (nI a) :: .ref (ga G q) :: st) M := by
  intro p e R s m args below meth c H locs ls C hx hH hL
  obtain ⟨hg, hok, ha, hb, hret, hlk, hml, hown, hwm, -⟩ := id C
  have hd := (hok.get hi).1
  subst hn
  rw [Nat.add_sub_cancel_left] at hd
  have h1 : H[ga G q]? = some (arrV (gk G 2) L (fun j => cval G M q (aty 2) j)) := hH.1.1 q _ hs hc
  have hvi : vp_in (nI a) L := vp_in_nI hin hL2
  have hcl : (nI a).toNatClampNeg = a := nI_clamp (by omega)
  exact W.zald (v := .int (M.1 q a)) ha hb h1 (arrOk (t := 2) (by decide) hg hwm L _) (fun z => by cases z) (by rw [arrV_size]; exact hvi) (by rw [hcl, arrV_read _ _ hin]; rfl) rfl rfl hd (kk p e R s m args below meth c H locs ls C hx hH hL)
theorem x_lald {q : Ky} {L a : Nat} (hi : tget (yT y) pc = some (.laload, n, t)) (hn : pc + 1 = n) (hs : shp q.1 = some (.inr (1, L))) (hc : q.2 < cnt q.1) (hin : a < L) (hL2 : L < 2 ^ 31) (kk : Fr G y d kf Z k n lv (.long (M.2 q a) :: st) M) : Fr G y d kf Z k pc lv (.int (nI a) :: .ref (ga G q) :: st) M := by
  intro p e R s m args below meth c H locs ls C hx hH hL
  obtain ⟨hg, hok, ha, hb, hret, hlk, hml, hown, hwm, -⟩ := id C
  have hd := (hok.get hi).1
  subst hn
  rw [Nat.add_sub_cancel_left] at hd
  have h1 : H[ga G q]? = some (arrV (gk G 1) L (fun j => cval G M q (aty 1) j)) := hH.1.1 q _ hs hc
  have hvi : vp_in (nI a) L := vp_in_nI hin hL2
  have hcl : (nI a).toNatClampNeg = a := nI_clamp (by omega)
  exact W.lald (v := .long (M.2 q a)) ha hb h1 (arrOk (t := 1) (by decide) hg hwm L _) (fun z => by cases z) (by rw [arrV_size]; exact hvi) (by rw [hcl, arrV_read _ _ hin]; rfl) rfl rfl hd (kk p e R s m args below meth c H locs ls C hx hH hL)
theorem x_aald {q q' : Ky} {tt L a : Nat} (hi : tget (yT y) pc = some (.aaload, n, t)) (hn : pc + 1 = n) (hs : shp q.1 = some (.inr (tt, L))) (htt : tt = 3 ∨ tt = 4) (hc : q.2 < cnt q.1) (hin : a < L) (hL2 : L < 2 ^ 31) (hr : rf q a = some q') (kk : Fr G y d kf Z k n lv (.ref (ga G q') :: st) M) : Fr G y d kf Z k pc lv (.int (nI a) :: .ref (ga G q) :: st) M := by
  intro p e R s m args below meth c H locs ls C hx hH hL
  obtain ⟨hg, hok, ha, hb, hret, hlk, hml, hown, hwm, -⟩ := id C
  have hd := (hok.get hi).1
  subst hn
  rw [Nat.add_sub_cancel_left] at hd
  have h1 : H[ga G q]? = some (arrV (gk G tt) L (fun j => cval G M q (aty tt) j)) := hH.1.1 q _ hs hc
  have hvi : vp_in (nI a) L := vp_in_nI hin hL2
  have hcl : (nI a).toNatClampNeg = a := nI_clamp (by omega)
  have hval : cval G M q (aty tt) a = .ref (ga G q') := by
    rcases htt with rfl | rfl <;> (show rv G (rf q a) = _; rw [hr]; rfl)
  have hre : (aty tt).isReference = true := by rcases htt with rfl | rfl <;> rfl
  exact W.aald (v := .ref (ga G q')) ha hb h1 (arrOk (t := tt) (by omega) hg hwm L _) hre (fun z => by cases z) (by rw [arrV_size]; exact hvi) (by rw [hcl, arrV_read _ _ hin, hval]) rfl rfl hd (kk p e R s m args below meth c H locs ls C hx hH hL)
theorem x_alen {q : Ky} {tt L : Nat} (hi : tget (yT y) pc = some (.arraylength, n, t)) (hn : pc + 1 = n) (hs : shp q.1 = some (.inr (tt, L))) (htt : tt < 5) (hc : q.2 < cnt q.1) (kk : Fr G y d kf Z k n lv (.int (nI L) :: st) M) : Fr G y d kf Z k pc lv (.ref (ga G q) :: st) M := by
  intro p e R s m args below meth c H locs ls C hx hH hL
  obtain ⟨hg, hok, ha, hb, hret, hlk, hml, hown, hwm, -⟩ := id C
  have hd := (hok.get hi).1
  subst hn
  rw [Nat.add_sub_cancel_left] at hd
  have h1 : H[ga G q]? = some (arrV (gk G tt) L (fun j => cval G M q (aty tt) j)) := hH.1.1 q _ hs hc
  exact W.alen (n := nI L) ha hb h1 (arrOk (t := tt) htt hg hwm L _) (by rw [arrV_size] <;> rfl) rfl rfl hd (kk p e R s m args below meth c H locs ls C hx hH hL)
theorem x_iast {q : Ky} {L a : Nat} {x : Int32} (hi : tget (yT y) pc = some (.iastore, n, t)) (hn : pc + 1 = n) (hs : shp q.1 = some (.inr (0, L))) (hc : q.2 < cnt q.1) (hin : a < L) (hL2 : L < 2 ^ 31) (kk : Fr G y d kf Z k n lv st (ui M q a x)) : Fr G y d kf Z k pc lv (.int x :: .int (nI a) :: .ref (ga G q) :: st) M := by
  intro p e R s m args below meth c H locs ls C hx hH hL
  obtain ⟨hg, hok, ha, hb, hret, hlk, hml, hown, hwm, -⟩ := id C
  have hd := (hok.get hi).1
  subst hn
  rw [Nat.add_sub_cancel_left] at hd
  have h1 : H[ga G q]? = some (arrV (gk G 0) L (fun j => cval G M q (aty 0) j)) := hH.1.1 q _ hs hc
  have hvi : vp_in (nI a) L := vp_in_nI hin hL2
  have hcl : (nI a).toNatClampNeg = a := nI_clamp (by omega)
  refine W.iast ha hb h1 (arrOk (t := 0) (by decide) hg hwm L _) (fun z => by cases z) (by rw [arrV_size]; exact hvi) rfl rfl hd fun H1 e1 e2 e3 => ?_
  rw [hcl] at e1 ⊢
  exact kk p e R s m args below meth c H1 _ ls C hx (hH.stored (v := .int x) hg hs hc e3 e2 (cells_arr (by exact trivial) e1)) hL
theorem x_last {q : Ky} {L a : Nat} {x : Int64} (hi : tget (yT y) pc = some (.lastore, n, t)) (hn : pc + 1 = n) (hs : shp q.1 = some (.inr (1, L))) (hc : q.2 < cnt q.1) (hin : a < L) (hL2 : L < 2 ^ 31) (kk : Fr G y d kf Z k n lv st (ul M q a x)) : Fr G y d kf Z k pc lv (.long x :: .int (nI a) :: .ref (ga G q) :: st) M := by
  intro p e R s m args below meth c H locs ls C hx hH hL
  obtain ⟨hg, hok, ha, hb, hret, hlk, hml, hown, hwm, -⟩ := id C
  have hd := (hok.get hi).1
  subst hn
  rw [Nat.add_sub_cancel_left] at hd
  have h1 : H[ga G q]? = some (arrV (gk G 1) L (fun j => cval G M q (aty 1) j)) := hH.1.1 q _ hs hc
  have hvi : vp_in (nI a) L := vp_in_nI hin hL2
  have hcl : (nI a).toNatClampNeg = a := nI_clamp (by omega)
  refine W.last ha hb h1 (arrOk (t := 1) (by decide) hg hwm L _) (fun z => by cases z) (by rw [arrV_size]; exact hvi) rfl rfl hd fun H1 e1 e2 e3 => ?_
  rw [hcl] at e1 ⊢
  exact kk p e R s m args below meth c H1 _ ls C hx (hH.stored (v := .long x) hg hs hc e3 e2 (cells_arr (by exact trivial) e1)) hL
end XH
