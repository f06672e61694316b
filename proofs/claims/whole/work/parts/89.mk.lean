/-! THE MAKING: the cells in the order in which they are made; a picture of a heap of which n cells are made, all as they shall be but for some -/
def bst (r : Nat) : Nat × Nat := match r with
  | 5 => (5, 3)
  | 6 => (6, 3)
  | 7 => (7, 3)
  | 8 => (44, 7)
  | 9 => (45, 7)
  | 10 => (46, 7)
  | 11 => (47, 7)
  | 12 => (48, 7)
  | 13 => (49, 7)
  | 14 => (50, 7)
  | r => (if r < 5 then r else if r < 40 then r + 309 else if r < 70 then r + 307 else 374, 0)
def bix (k : Ky) : Nat := (bst k.1).1 + (bst k.1).2 * k.2
def bky (n : Nat) : Ky := if n < 5 then (n, 0) else if n < 44 then (5 + (n - 5) % 3, (n - 5) / 3) else if n < 324 then (8 + (n - 44) % 7, (n - 44) / 7) else if n < 347 then (n - 309, 0) else if n < 374 then (n - 307, 0) else (70, 0)
theorem shp_lt {r : Nat} (h : (shp r).isSome = true) : r < 71 := by
  unfold shp at h
  split at h <;> first | omega | cases h
theorem cnt_le (r : Nat) : cnt r ≤ 40 := by
  unfold cnt
  split <;> omega
theorem bky_bix {k : Ky} (h : (shp k.1).isSome = true) (hc : k.2 < cnt k.1) : bky (bix k) = k := by
  have key : ∀ r, r < 71 → ∀ i, i < 40 → (shp r).isSome = true → i < cnt r → bky (bix (r, i)) = (r, i) := by decide +kernel
  exact key k.1 (shp_lt h) k.2 (Nat.lt_of_lt_of_le hc (cnt_le k.1)) h hc
theorem bix_inj {k k' : Ky} (h : (shp k.1).isSome = true) (hc : k.2 < cnt k.1) (h' : (shp k'.1).isSome = true) (hc' : k'.2 < cnt k'.1) (e : bix k = bix k') : k = k' := by
  rw [← bky_bix h hc, ← bky_bix h' hc', e]
theorem bix_lt {k : Ky} (h : (shp k.1).isSome = true) (hc : k.2 < cnt k.1) : bix k < 375 := by
  have key : ∀ r, r < 71 → ∀ i, i < 40 → (shp r).isSome = true → i < cnt r → bix (r, i) < 375 := by decide +kernel
  exact key k.1 (shp_lt h) k.2 (Nat.lt_of_lt_of_le hc (cnt_le k.1)) h hc
def M0 : Mm := (fun k j => if k.1 = 40 ∧ j = 21 then -1 else if k.1 = 40 ∧ j = 17 then 1 else if k.1 = 27 ∧ j = 10 then -1 else 0, fun _ _ => 0)
def tgV (G : Gd) (k : Ky) (j : Nat) : Value := match shp k.1 with
  | some (.inl ci) => cval G M0 k (ftyp ci j) j
  | some (.inr q) => cval G M0 k (aty q.1) j
  | none => .null
def cellV (G : Gd) (k : Ky) (sp : Nat ⊕ (Nat × Nat)) (V : Nat → Value) (H : Heap) : Prop := match sp with
  | .inl ci => t_OB (ga G k) ((gD G).1 ci) (nfl ci) ((gD G).2 ci) H V
  | .inr q => H[ga G k]? = some (arrV (gk G q.1) q.2 V)
def vsz (sp : Nat ⊕ (Nat × Nat)) : Nat := match sp with | .inl ci => nfl ci | .inr q => q.2
theorem arrV_to {c : ClassId} {N : Nat} {f g : Nat → Value} (h : ∀ j, j < N → f j = g j) : arrV c N f = arrV c N g := by
  have e : (Array.ofFn (n := N) fun j => f j.val) = Array.ofFn (n := N) fun j => g j.val := by
    congr 1
    funext j
    exact h j.val j.isLt
  unfold arrV
  rw [e]
theorem cellV.to {G : Gd} {k : Ky} {sp : Nat ⊕ (Nat × Nat)} {V V' : Nat → Value} {H : Heap} (h : cellV G k sp V H) (hv : ∀ j, j < vsz sp → V j = V' j) : cellV G k sp V' H := by
  cases sp with
  | inl ci => exact t_OB.to (V := V) h hv
  | inr q =>
    have h1 : H[ga G k]? = some (arrV (gk G q.1) q.2 V) := h
    show H[ga G k]? = some (arrV (gk G q.1) q.2 V')
    rw [h1]
    exact congrArg some (arrV_to hv)
theorem cellV.kept {G : Gd} {k : Ky} {sp : Nat ⊕ (Nat × Nat)} {V : Nat → Value} {H H1 : Heap} (h : cellV G k sp V H) (h1 : H1[ga G k]? = H[ga G k]?) : cellV G k sp V H1 := by
  cases sp with
  | inl ci => exact t_OB.kept h h1
  | inr q => exact h1.trans h
abbrev Ex : Type := List (Ky × (Nat → Value))
def elk : Ex → Ky → Option (Nat → Value)
  | [], _ => none
  | a :: E, k => if k = a.1 then some a.2 else elk E k
def ev (G : Gd) (E : Ex) (k : Ky) : Nat → Value := match elk E k with | some f => f | none => tgV G k
theorem elk_hd {q : Ky} {f : Nat → Value} {E : Ex} : elk ((q, f) :: E) q = some f := by simp [elk]
theorem elk_tl {q k : Ky} {f : Nat → Value} {E : Ex} (h : k ≠ q) : elk ((q, f) :: E) k = elk E k := by simp [elk, h]
theorem ev_some {G : Gd} {E : Ex} {k : Ky} {f : Nat → Value} (h : elk E k = some f) : ev G E k = f := by unfold ev; rw [h]
theorem ev_none {G : Gd} {E : Ex} {k : Ky} (h : elk E k = none) : ev G E k = tgV G k := by unfold ev; rw [h]
theorem ev_hd {G : Gd} {q : Ky} {f : Nat → Value} {E : Ex} : ev G ((q, f) :: E) q = f := ev_some elk_hd
theorem ev_tl {G : Gd} {q k : Ky} {f : Nat → Value} {E : Ex} (h : k ≠ q) : ev G ((q, f) :: E) k = ev G E k := by unfold ev; rw [elk_tl h]
def Jb (G : Gd) (n : Nat) (E : Ex) (H : Heap) : Prop := H.size = gb G + n ∧ (∀ (k : Ky) (sp : Nat ⊕ (Nat × Nat)), shp k.1 = some sp → k.2 < cnt k.1 → bix k < n → cellV G k sp (ev G E k) H) ∧ ∀ q : Nat, q < gb G → H[q]? = (gH G)[q]?
def Gbk (G : Gd) : Prop := ∀ k : Ky, ga G k = gb G + bix k
/-- nothing that is not made yet is an exception -/
def Eok (n : Nat) (E : Ex) : Prop := ∀ k : Ky, n ≤ bix k → elk E k = none
theorem Eok.mono {n n' : Nat} {E : Ex} (h : Eok n E) (hn : n ≤ n') : Eok n' E := fun k hk => h k (Nat.le_trans hn hk)
theorem Eok.cons {n : Nat} {E : Ex} {q : Ky} {f : Nat → Value} (h : Eok n E) (hq : bix q < n) : Eok n ((q, f) :: E) := fun k hk => by
  rw [elk_tl (fun e => by subst e; omega)]
  exact h k hk
theorem Jb.to {G : Gd} {n : Nat} {E E' : Ex} {H : Heap} (h : Jb G n E H) (he : ∀ (k : Ky) (sp : Nat ⊕ (Nat × Nat)), shp k.1 = some sp → k.2 < cnt k.1 → bix k < n → ∀ j, j < vsz sp → ev G E k j = ev G E' k j) : Jb G n E' H :=
  ⟨h.1, fun k sp hs hc hl => (h.2.1 k sp hs hc hl).to (he k sp hs hc hl), h.2.2⟩
theorem Jb.drop {G : Gd} {n : Nat} {E : Ex} {q : Ky} {f : Nat → Value} {H : Heap} {sp : Nat ⊕ (Nat × Nat)} (h : Jb G n ((q, f) :: E) H) (hs : shp q.1 = some sp) (hf : ∀ j, j < vsz sp → f j = tgV G q j) (hE : elk E q = none) : Jb G n E H := by
  refine h.to fun k sp' hs' hc hl j hj => ?_
  by_cases e : k = q
  · subst e
    cases hs.symm.trans hs'
    rw [ev_hd, ev_none hE]
    exact hf j hj
  · rw [ev_tl e]
theorem Jb.perm {G : Gd} {n : Nat} {E E' : Ex} {H : Heap} (h : Jb G n E H) (he : ∀ k, elk E k = elk E' k) : Jb G n E' H := h.to fun k _ _ _ _ j _ => by unfold ev; rw [he k]
/-- a cell is made -/
theorem Jb.push {G : Gd} {n : Nat} {E E' : Ex} {H H1 : Heap} (hg : Gok G) (hB : Gbk G) (h : Jb G n E H) {q : Ky} {sp : Nat ⊕ (Nat × Nat)} (hs : shp q.1 = some sp) (hc : q.2 < cnt q.1) (hq : bix q = n) (z1 : H1.size = H.size + 1) (o1 : ∀ x : Nat, x < H.size → H1[x]? = H[x]?)
    (hn : cellV G q sp (ev G E' q) H1) (he : ∀ k, k ≠ q → ev G E k = ev G E' k) : Jb G (n + 1) E' H1 := by
  obtain ⟨z0, h0, hl⟩ := h
  refine ⟨by rw [z1, z0]; omega, fun k' sp' hs' hc' hlt => ?_, fun x hx => ?_⟩
  · by_cases e : k' = q
    · subst e
      cases hs.symm.trans hs'
      exact hn
    · have hlt' : bix k' < n := by
        rcases Nat.lt_succ_iff_lt_or_eq.mp hlt with h | h
        · exact h
        · exact (e (bix_inj (by rw [hs']; rfl) hc' (by rw [hs]; rfl) hc (by rw [h, hq]))).elim
      rw [← he k' e]
      exact (h0 k' sp' hs' hc' hlt').kept (o1 _ (by rw [hB, z0]; omega))
  · rw [o1 x (by omega)]
    exact hl x hx
/-- a cell that is an exception is written -/
theorem Jb.put {G : Gd} {n : Nat} {E : Ex} {H H1 : Heap} {q : Ky} {f g : Nat → Value} (hg : Gok G) (h : Jb G n ((q, f) :: E) H) {sp : Nat ⊕ (Nat × Nat)} (hs : shp q.1 = some sp) (hc : q.2 < cnt q.1) (z1 : H1.size = H.size) (o1 : ∀ x : Nat, x ≠ ga G q → H1[x]? = H[x]?)
    (hn : cellV G q sp g H1) : Jb G n ((q, g) :: E) H1 := by
  obtain ⟨z0, h0, hl⟩ := h
  refine ⟨by rw [z1, z0], fun k' sp' hs' hc' hlt => ?_, fun x hx => ?_⟩
  · by_cases e : k' = q
    · subst e
      cases hs.symm.trans hs'
      rw [ev_hd]
      exact hn
    · have h3 := h0 k' sp' hs' hc' hlt
      rw [ev_tl e] at h3 ⊢
      exact h3.kept (o1 _ fun z => e (hg.2.2.1 k' q (by rw [hs']; rfl) hc' (by rw [hs]; rfl) hc z))
  · have hb := hg.2.2.2.1 q (by rw [hs]; rfl) hc
    rw [o1 x (by omega)]
    exact hl x hx
/-- what the tables say where an object is made -/
def NwL (own idx ci : Nat) : Prop := ∃ (C : String) (T : u_T) (N : Nat), vwCl[ci]? = some (C, T, N) ∧ Cond.classLink (cnm own) idx C ∈ lw_tbl ∧ Cond.instantiable C N ∈ lw_tbl ∧ Cond.initialized C ∈ lw_tbl ∧ (∀ w ∈ u_ws C T N, w ∈ lw_tbl) ∧ (∀ a, a < N → parseFieldDescriptor (T a).2.2.1 = some (ftyp ci a))
section XM
variable {G : Gd} {y : Mt} {hp : Method → Code → Prop} {d kf : Nat} {Z : Zt} {k pc n t : Nat} {lv lv' : List (Nat × Value)} {st : List Value} {J : Heap → Prop}
theorem b_new {idx n0 ci u : Nat} {q : Ky} {E : Ex} (hB : Gbk G) (hi : tget (yT y) pc = some (.new idx, n, t)) (hn : pc + 3 = n) (hw : NwL (yC y) idx ci) (hs : shp q.1 = some (.inl ci)) (hc : q.2 < cnt q.1) (hq : bix q = n0) (hu : nfl ci ≤ 6 * u) (hu1 : 1 ≤ u) (hk : k + u ≤ kf)
    (kk : Fb G y hp d kf Z (k + u) n lv (.ref (ga G q) :: st) (Jb G (n0 + 1) ((q, fun j => defaultValue (ftyp ci j)) :: E))) : Fb G y hp d kf Z k pc lv st (Jb G n0 E) := by
  intro p e R s m args below meth c H locs ls C hx hH hL
  obtain ⟨hg, hok, ha, hb, hret, hlk, hml, hown, hwm, hs1, hs2, hR1, hR2, hR3, hR4⟩ := id C
  have hd := (hok.get hi).1
  subst hn
  rw [Nat.add_sub_cancel_left] at hd
  obtain ⟨Cn, T, N, hcl, w1, w2, w3, hin, hty⟩ := hw
  have hK : va_K (gD G) vwCl (tysG G) s := va_K.moved hwm.alike hg.2.1
  have hKn := hK.1 ci _ hcl
  have hN := nfl_of hcl
  rw [hN] at hu
  have hts : ∀ w ∈ u_ws Cn T N, w.before args s = true := fun w hw => hg.1 w (hin w hw) (u_good Cn T N w hw) args s hwm
  have hqa : ga G q = H.size := by rw [hB q, hq, hH.1.1]
  refine W.newcK ha hb hown (hg.1 _ w1 rfl args s hwm) (hg.1 _ w2 rfl args s hwm) (hg.1 _ w3 rfl args s hwm) rfl hd (by omega) (by omega) hKn.2.1 rfl fun H1 kC hkC e1 z1 o1 => ?_
  refine W.widen (k := k + u) (n := 6 * (k + u)) (by omega) (by omega) ?_
  have key := kk p e R s m args below meth c H1 locs ls C hx ⟨hH.1.push hg hB hs hc hq z1 o1 ?_ (fun k' h' => (ev_tl h').symm), by have := hH.2.1; omega, hH.2.2⟩ hL
  · rw [← hqa]
    exact key
  · rw [ev_hd]
    show t_OB (ga G q) ((gD G).1 ci) (nfl ci) ((gD G).2 ci) H1 _
    rw [hqa, hN]
    exact u_born (ftyp ci) hts (fun _ h => h) hKn hkC e1 hty
theorem cval0_num {G : Gd} {q : Ky} {tt : Nat} (h : tt < 3) (h1 : q.1 ≠ 40) (h2 : q.1 ≠ 27) (j : Nat) : cval G M0 q (aty tt) j = defaultValue (aty tt) := by
  have hz : M0.1 q j = 0 := by simp [M0, h1, h2]
  rcases (show tt = 0 ∨ tt = 1 ∨ tt = 2 by omega) with rfl | rfl | rfl
  · show Value.int (M0.1 q j) = _
    rw [hz]
    rfl
  · rfl
  · show Value.int (M0.1 q j) = _
    rw [hz]
    rfl
theorem b_newa {n0 tt L u : Nat} {q : Ky} {E : Ex} {at9 : ArrayType} {v : Int32} (hB : Gbk G) (hat : newarray.typeOf at9 = aty tt) (htt : tt < 3) (hw : Cond.arrayClass (newarray.typeOf at9) ∈ lw_tbl) (hi : tget (yT y) pc = some (.newarray at9, n, t)) (hn : pc + 2 = n)
    (hs : shp q.1 = some (.inr (tt, L))) (hc : q.2 < cnt q.1) (hq : bix q = n0) (hE : elk E q = none) (hv : v = nI L) (hL2 : L < 2 ^ 20) (hu : L ≤ 6 * u) (hu1 : 1 ≤ u) (hk : k + u ≤ kf)
    (kk : Fb G y hp d kf Z (k + u) n lv (.ref (ga G q) :: st) (Jb G (n0 + 1) E)) : Fb G y hp d kf Z k pc lv (.int v :: st) (Jb G n0 E) := by
  intro p e R s m args below meth c H locs ls C hx hH hL
  obtain ⟨hg, hok, ha, hb, hret, hlk, hml, hown, hwm, hs1, hs2, hR1, hR2, hR3, hR4⟩ := id C
  have hd := (hok.get hi).1
  subst hn
  rw [Nat.add_sub_cancel_left] at hd
  have hK : va_K (gD G) vwCl (tysG G) s := va_K.moved hwm.alike hg.2.1
  have hqa : ga G q = H.size := by rw [hB q, hq, hH.1.1]
  have hcl : v.toNatClampNeg = L := by rw [hv]; exact nI_clamp (by omega)
  have h0 : ¬ v < 0 := by
    rw [hv]
    exact fun z => (vp_in_nI (N := L + 1) (Nat.lt_succ_self L) (by omega)) (Or.inl z)
  have hby : L * componentBytes (newarray.typeOf at9) ≤ 536870912 := by
    rw [hat]
    rcases (show tt = 0 ∨ tt = 1 ∨ tt = 2 by omega) with rfl | rfl | rfl
    · show L * 4 ≤ _; omega
    · show L * 8 ≤ _; omega
    · show L * 1 ≤ _; omega
  have hn40 : q.1 ≠ 40 := fun z => by rw [z] at hs; cases hs
  have hn27 : q.1 ≠ 27 := fun z => by rw [z] at hs; cases hs
  refine va_newaK ha hb (hg.1 _ hw rfl args s hwm) rfl hd rfl h0 hcl hby (by omega) (by omega) rfl fun H1 cA e1 z1 o1 hAr hNm => ?_
  have hcA : cA = gk G tt := by
    have h5 : s.vm.findClass ("[" ++ (aty tt).toString) = some (gk G tt) := by
      rcases (show tt = 0 ∨ tt = 1 ∨ tt = 2 by omega) with rfl | rfl | rfl
      · exact (hK.2 0 _ rfl).2
      · exact (hK.2 1 _ rfl).2
      · exact (hK.2 2 _ rfl).2
    rw [hat] at hNm
    exact Option.some.inj (hNm.symm.trans h5)
  refine W.widen (k := k + u) (n := 6 * (k + u)) (by omega) (by omega) ?_
  have key := kk p e R s m args below meth c H1 locs ls C hx ⟨hH.1.push hg hB hs hc hq z1 o1 ?_ (fun k' h' => rfl), by have := hH.2.1; omega, hH.2.2⟩ hL
  · rw [← hqa]
    exact key
  · rw [ev_none hE]
    show H1[ga G q]? = some (arrV (gk G tt) L (tgV G q))
    rw [hqa, e1, hcA, hat]
    congr 1
    refine arrV_to fun j _ => ?_
    unfold tgV
    rw [hs]
    exact (cval0_num htt hn40 hn27 j).symm
theorem b_anew {n0 tt L u idx : Nat} {q : Ky} {E : Ex} {C : String} {v : Int32} (hB : Gbk G) (hat : aty tt = .object C) (htt : tt = 3 ∨ tt = 4) (hw : Cond.classLink (cnm (yC y)) idx C ∈ lw_tbl) (hao : va_AO C (gs G)) (hi : tget (yT y) pc = some (.anewarray idx, n, t)) (hn : pc + 3 = n)
    (hs : shp q.1 = some (.inr (tt, L))) (hc : q.2 < cnt q.1) (hq : bix q = n0) (hv : v = nI L) (hL2 : L < 2 ^ 20) (hu : L ≤ 6 * u) (hu1 : 1 ≤ u) (hk : k + u ≤ kf)
    (kk : Fb G y hp d kf Z (k + u) n lv (.ref (ga G q) :: st) (Jb G (n0 + 1) ((q, fun _ => .null) :: E))) : Fb G y hp d kf Z k pc lv (.int v :: st) (Jb G n0 E) := by
  intro p e R s m args below meth c H locs ls C9 hx hH hL
  obtain ⟨hg, hok, ha, hb, hret, hlk, hml, hown, hwm, hs1, hs2, hR1, hR2, hR3, hR4⟩ := id C9
  have hd := (hok.get hi).1
  subst hn
  rw [Nat.add_sub_cancel_left] at hd
  have hK : va_K (gD G) vwCl (tysG G) s := va_K.moved hwm.alike hg.2.1
  have hqa : ga G q = H.size := by rw [hB q, hq, hH.1.1]
  have hcl : v.toNatClampNeg = L := by rw [hv]; exact nI_clamp (by omega)
  have h0 : ¬ v < 0 := by
    rw [hv]
    exact fun z => (vp_in_nI (N := L + 1) (Nat.lt_succ_self L) (by omega)) (Or.inl z)
  refine W.anew ha hb hown (hg.1 _ hw rfl args s hwm) (va_AO.use (va_AO.moved hwm.alike hao)) rfl hd rfl h0 (by rw [hcl]; omega) (by omega) (by rw [hcl]; omega) fun cA kA comp f1 f2 f3 f4 => ?_
  have hcA : cA = gk G tt := by
    have h5 : s.vm.findClass ("[" ++ (FieldType.object C).toString) = some (gk G tt) := by
      rcases htt with rfl | rfl
      · cases hat
        obtain ⟨_, _, _, _, _, h⟩ := (hK.2 3 _ rfl).2
        exact h
      · cases hat
        obtain ⟨_, _, _, _, _, h⟩ := (hK.2 4 _ rfl).2
        exact h
    exact Option.some.inj (f1.symm.trans h5)
  rw [hcl]
  refine W.widen (k := k + u) (n := 6 * (k + u)) (by omega) (by omega) ?_
  generalize hH1 : H.push ({ cls := cA, slots := Array.replicate L .null, vm := .none } : Cell) = H1
  have z1 : H1.size = H.size + 1 := by rw [← hH1, Array.size_push]
  have e1 : H1[H.size]? = some (arrV cA L (fun _ => .null)) := by rw [← hH1, Array.getElem?_push_size, ← arrV_new]
  have o1 : ∀ q : Nat, q < H.size → H1[q]? = H[q]? := fun q hq => by rw [← hH1, Array.getElem?_push, if_neg (Nat.ne_of_lt hq)]
  have key := kk p e R s m args below meth c H1 locs ls C9 hx ⟨hH.1.push hg hB hs hc hq z1 o1 ?_ (fun k' h' => (ev_tl h').symm), by have := hH.2.1; omega, hH.2.2⟩ hL
  · rw [← hqa]
    exact key
  · rw [ev_hd]
    show H1[ga G q]? = some (arrV (gk G tt) L _)
    rw [hqa, e1, hcA]
theorem b_to {J' : Heap → Prop} (h : ∀ H, J H → J' H) (kk : Fb G y hp d kf Z k pc lv st J') : Fb G y hp d kf Z k pc lv st J := by
  intro p e R s m args below meth c H locs ls C hx hH hL
  exact kk p e R s m args below meth c H locs ls C hx ⟨h H hH.1, hH.2⟩ hL
theorem b_get {idx n0 ci j : Nat} {q : Ky} {E : Ex} {v : Value} (hi : tget (yT y) pc = some (.getfield idx, n, t)) (hn : pc + 3 = n) (hf : FLk (yC y) idx ci j) (hs : shp q.1 = some (.inl ci)) (hc : q.2 < cnt q.1) (hb0 : bix q < n0) (hv : ev G E q j = v)
    (kk : Fb G y hp d kf Z k n lv (v :: st) (Jb G n0 E)) : Fb G y hp d kf Z k pc lv (.ref (ga G q) :: st) (Jb G n0 E) := by
  intro p e R s m args below meth c H locs ls C hx hH hL
  obtain ⟨hg, hok, ha, hb, hret, hlk, hml, hown, hwm, -⟩ := id C
  have hd := (hok.get hi).1
  subst hn
  rw [Nat.add_sub_cancel_left] at hd
  obtain ⟨Cn, T, N, hcl, hj, hin, -, -, hlink⟩ := hf
  have hK : va_K (gD G) vwCl (tysG G) s := va_K.moved hwm.alike hg.2.1
  have hN := nfl_of hcl
  obtain ⟨cell, q1, q2, q3, q4⟩ : t_OB (ga G q) ((gD G).1 ci) (nfl ci) ((gD G).2 ci) H (ev G E q) := hH.1.2.1 q _ hs hc hb0
  obtain ⟨hS, hfc, kC, hkC, hkind⟩ := hK.1 ci _ hcl
  obtain ⟨cf, kf9, fi, f, hfi, hsl⟩ := hS j hj
  have hts : ∀ w ∈ u_ws Cn T N, w.before args s = true := fun w hw => hg.1 w (hin w hw) (u_good Cn T N w hw) args s hwm
  have hst := (u_facts hfc hkC (u_lays hts (fun _ h => h) hj) hfi).1
  have hval : cell.slots[f.slot]? = some v := by
    have hsl2 : f.slot = (gD G).2 ci j := hsl
    rw [hsl2, q4 j (by rw [hN]; exact hj)]
    exact congrArg some hv
  have kk9 := kk p e R s m args below meth c H locs ls C hx hH hL
  rcases hlink with hw | ⟨ho, hw⟩
  · exact W.getf ha hb hown (hg.1 _ hw rfl args s hwm) hfi hst q1 (by rw [q3]; exact fun h => by cases h) hval rfl rfl hd kk9
  · exact va_Wgetf ha hb hown (hg.1 _ hw rfl args s hwm) hfi hst q1 (by rw [q3]; exact fun h => by cases h) hval rfl rfl hd kk9
theorem b_put {idx n0 ci j : Nat} {q : Ky} {E : Ex} {f0 : Nat → Value} {v : Value} (hi : tget (yT y) pc = some (.putfield idx, n, t)) (hn : pc + 3 = n) (hf : FLk (yC y) idx ci j) (hfin : nofin ci j = true) (hs : shp q.1 = some (.inl ci)) (hc : q.2 < cnt q.1) (hb0 : bix q < n0)
    (hnar : narrow (ftyp ci j) v = v) (hfit : fits (ftyp ci j) v = true)
    (kk : Fb G y hp d kf Z k n lv st (Jb G n0 ((q, updV f0 j v) :: E))) : Fb G y hp d kf Z k pc lv (v :: .ref (ga G q) :: st) (Jb G n0 ((q, f0) :: E)) := by
  intro p e R s m args below meth c H locs ls C hx hH hL
  obtain ⟨hg, hok, ha, hb, hret, hlk, hml, hown, hwm, -⟩ := id C
  have hd := (hok.get hi).1
  subst hn
  rw [Nat.add_sub_cancel_left] at hd
  obtain ⟨Cn, T, N, hcl, hj, hin, hnm, hty, hlink⟩ := hf
  have hfin9 := nofin_of hfin Cn T N hcl
  have hK : va_K (gD G) vwCl (tysG G) s := va_K.moved hwm.alike hg.2.1
  have hN := nfl_of hcl
  have h9 := hH.1.2.1 q _ hs hc hb0
  rw [ev_hd] at h9
  obtain ⟨cell, q1, q2, q3, q4⟩ : t_OB (ga G q) ((gD G).1 ci) (nfl ci) ((gD G).2 ci) H f0 := h9
  obtain ⟨hS, hfc, kC, hkC, hkind⟩ := hK.1 ci _ hcl
  obtain ⟨cf, kf9, fi, f, hfi, hsl⟩ := hS j hj
  have hts : ∀ w ∈ u_ws Cn T N, w.before args s = true := fun w hw => hg.1 w (hin w hw) (u_good Cn T N w hw) args s hwm
  have hst := (u_facts hfc hkC (u_lays hts (fun _ h => h) hj) hfi).1
  have hap : ∀ a b, a < nfl ci → b < nfl ci → a ≠ b → (gD G).2 ci a ≠ (gD G).2 ci b := by
    rw [hN]
    exact va_apart (own := Cn) (ci := ci) hts (fun _ h => h) (ftyp ci) hty hnm hK hcl
  have hlay := hts _ (u_in_lay hj)
  unfold u_lay at hlay
  rw [if_neg (by rw [hfin9]; decide)] at hlay
  have h6 := u_store hfc hkC hkind hlay hfi (hty j hj) hnar hfit
  have hsl2 : f.slot = (gD G).2 ci j := hsl
  have hin9 : f.slot < cell.slots.size := by rw [hsl2]; exact k2_hasslot (q4 j (by rw [hN]; exact hj))
  have fin : ∀ (H1 : Heap), H1[ga G q]? = some (cell.setSlot f.slot v) → H1.size = H.size → (∀ z : Nat, z ≠ ga G q → H1[z]? = H[z]?) → W p (gl G) e R s m args below meth c H1 (locs ++ [⟨ga G q, f.slot⟩]) k (6 * k) (Z below args s) (F0 m (pc + 3) ls st) := by
    intro H1 e1 e2 e3
    rw [hsl2] at e1
    refine kk p e R s m args below meth c H1 _ ls C hx ⟨hH.1.put hg hs hc e2 e3 ⟨_, e1, q2, q3, t_set q4 hap (by rw [hN]; exact hj) v⟩, by rw [e2]; exact hH.2.1, fun z hz => ?_⟩ hL
    rcases List.mem_append.mp hz with h | h
    · exact hH.2.2 z h
    · rw [List.mem_singleton.mp h]
      exact hg.2.2.2.1 q (by rw [hs]; rfl) hc
  rcases hlink with hw | ⟨ho, hw⟩
  · exact W.putK ha hb (f := f) ⟨hown, hg.1 _ hw rfl args s hwm, ⟨_, _, _, hfi⟩, hst⟩ (by rw [q2]; exact h6) q1 q3 hin9 rfl rfl hd fin
  · exact va_WputK ha hb hown (hg.1 _ hw rfl args s hwm) hfi hst (by rw [q2]; exact h6) q1 q3 hin9 rfl rfl hd fin
def isfin (ci j : Nat) : Bool := match vwCl[ci]? with | some q => (q.2.1 j).2.2.2 | none => false
theorem isfin_of {ci j : Nat} (h : isfin ci j = true) : ∀ (Cn : String) (T : u_T) (N : Nat), vwCl[ci]? = some (Cn, T, N) → (T j).2.2.2 = true := by
  intro Cn T N hc
  unfold isfin at h
  rw [hc] at h
  exact h
def inH : Method → Code → Prop := fun meth c => (∀ x ∈ c.exceptionTable.toList, False) ∧ meth.name = "<init>"
/-- a final field, in its class's constructor -/
theorem b_putF {idx n0 ci j : Nat} {q : Ky} {E : Ex} {f0 : Nat → Value} {v : Value} (hi : tget (yT y) pc = some (.putfield idx, n, t)) (hn : pc + 3 = n) (hf : FLk (yC y) idx ci j) (hfin : isfin ci j = true) (hdc : ∀ (Cn : String) (T : u_T) (N : Nat), vwCl[ci]? = some (Cn, T, N) → (T j).1 = cnm (yC y) ∧ Cond.fieldLink (cnm (yC y)) idx (T j).1 (T j).2.1 (T j).2.2.1 ∈ lw_tbl) (hs : shp q.1 = some (.inl ci)) (hc : q.2 < cnt q.1) (hb0 : bix q < n0)
    (hnar : narrow (ftyp ci j) v = v) (hfit : fits (ftyp ci j) v = true)
    (kk : Fb G y inH d kf Z k n lv st (Jb G n0 ((q, updV f0 j v) :: E))) : Fb G y inH d kf Z k pc lv (v :: .ref (ga G q) :: st) (Jb G n0 ((q, f0) :: E)) := by
  intro p e R s m args below meth c H locs ls C hx hH hL
  obtain ⟨hg, hok, ha, hb, hret, hlk, hml, hown, hwm, -⟩ := id C
  have hd := (hok.get hi).1
  subst hn
  rw [Nat.add_sub_cancel_left] at hd
  obtain ⟨Cn, T, N, hcl, hj, hin, hnm, hty, -⟩ := hf
  have hfin9 := isfin_of hfin Cn T N hcl
  obtain ⟨hdecl, hlw⟩ := hdc Cn T N hcl
  have hK : va_K (gD G) vwCl (tysG G) s := va_K.moved hwm.alike hg.2.1
  have hN := nfl_of hcl
  have h9 := hH.1.2.1 q _ hs hc hb0
  rw [ev_hd] at h9
  obtain ⟨cell, q1, q2, q3, q4⟩ : t_OB (ga G q) ((gD G).1 ci) (nfl ci) ((gD G).2 ci) H f0 := h9
  obtain ⟨hS, hfc, kC, hkC, hkind⟩ := hK.1 ci _ hcl
  obtain ⟨cf, kf9, fi, f, hfi, hsl⟩ := hS j hj
  have hts : ∀ w ∈ u_ws Cn T N, w.before args s = true := fun w hw => hg.1 w (hin w hw) (u_good Cn T N w hw) args s hwm
  have hst := (u_facts hfc hkC (u_lays hts (fun _ h => h) hj) hfi).1
  have hap : ∀ a b, a < nfl ci → b < nfl ci → a ≠ b → (gD G).2 ci a ≠ (gD G).2 ci b := by
    rw [hN]
    exact va_apart (own := Cn) (ci := ci) hts (fun _ h => h) (ftyp ci) hty hnm hK hcl
  have hlay := hts _ (u_in_lay hj)
  unfold u_lay at hlay
  rw [if_pos hfin9] at hlay
  have hcf : m.cls = cf := by
    obtain ⟨_, _, c', _, _, _, -, -, hf', -, -, -, hown2, -⟩ := Cond.laysFinal_spec hlay
    have e1 : c' = cf := by have := hfi.symm.trans hf'; simp at this; exact this.1.symm
    rw [hdecl] at hown2
    rw [← e1]; exact Option.some.inj (hown.symm.trans hown2)
  have h6 := u_fits hfc hkC hkind (Or.inr hlay) hfi (hty j hj) hnar hfit
  have hsl2 : f.slot = (gD G).2 ci j := hsl
  have hin9 : f.slot < cell.slots.size := by rw [hsl2]; exact k2_hasslot (q4 j (by rw [hN]; exact hj))
  have fin : ∀ (H1 : Heap), H1[ga G q]? = some (cell.setSlot f.slot v) → H1.size = H.size → (∀ z : Nat, z ≠ ga G q → H1[z]? = H[z]?) → W p (gl G) e R s m args below meth c H1 (locs ++ [⟨ga G q, f.slot⟩]) k (6 * k) (Z below args s) (F0 m (pc + 3) ls st) := by
    intro H1 e1 e2 e3
    rw [hsl2] at e1
    refine kk p e R s m args below meth c H1 _ ls C hx ⟨hH.1.put hg hs hc e2 e3 ⟨_, e1, q2, q3, t_set q4 hap (by rw [hN]; exact hj) v⟩, by rw [e2]; exact hH.2.1, fun z hz => ?_⟩ hL
    rcases List.mem_append.mp hz with h | h
    · exact hH.2.2 z h
    · rw [List.mem_singleton.mp h]
      exact hg.2.2.2.1 q (by rw [hs]; rfl) hc
  exact W.putFinK ha hb hown (hg.1 _ hlw rfl args s hwm) hfi hst hcf hx.2 (by rw [q2]; exact h6) q1 q3 hin9 rfl rfl hd fin
/-- a reference into an array of references -/
theorem b_aast {n0 tt L a ci : Nat} {q q' : Ky} {E : Ex} {f0 : Nat → Value} {u : u_T × Nat} {C : String} (hi : tget (yT y) pc = some (.aastore, n, t)) (hn : pc + 1 = n) (hs : shp q.1 = some (.inr (tt, L))) (hc : q.2 < cnt q.1) (hb0 : bix q < n0) (hat : aty tt = .object C) (htt : tt = 3 ∨ tt = 4) (hin : a < L) (hL2 : L < 2 ^ 31)
    (hs' : shp q'.1 = some (.inl ci)) (hc' : q'.2 < cnt q'.1) (hb' : bix q' < n0) (hcl : vwCl[ci]? = some (C, u))
    (kk : Fb G y hp d kf Z k n lv st (Jb G n0 ((q, updV f0 a (.ref (ga G q'))) :: E))) : Fb G y hp d kf Z k pc lv (.ref (ga G q') :: .int (nI a) :: .ref (ga G q) :: st) (Jb G n0 ((q, f0) :: E)) := by
  intro p e R s m args below meth c H locs ls C9 hx hH hL
  obtain ⟨hg, hok, ha, hb, hret, hlk, hml, hown, hwm, -⟩ := id C9
  have hd := (hok.get hi).1
  subst hn
  rw [Nat.add_sub_cancel_left] at hd
  have hK : va_K (gD G) vwCl (tysG G) s := va_K.moved hwm.alike hg.2.1
  have h9 := hH.1.2.1 q _ hs hc hb0
  rw [ev_hd] at h9
  have h1 : H[ga G q]? = some (arrV (gk G tt) L f0) := h9
  obtain ⟨cell, q1, q2, q3, q4⟩ : t_OB (ga G q') ((gD G).1 ci) (nfl ci) ((gD G).2 ci) H (ev G ((q, f0) :: E) q') := hH.1.2.1 q' _ hs' hc' hb'
  have hvi : vp_in (nI a) L := vp_in_nI hin hL2
  have hca : (nI a).toNatClampNeg = a := nI_clamp (by omega)
  have hcls := (hK.1 ci _ hcl).2
  obtain ⟨kA, comp, k1, k2, k3, -⟩ : va_RA s (gk G tt) (.object C) := by
    rcases htt with rfl | rfl
    · cases hat; exact (hK.2 3 _ rfl).2
    · cases hat; exact (hK.2 4 _ rfl).2
  have hcomp : comp = (gD G).1 ci := Option.some.inj (k3.symm.trans hcls.1)
  subst hcomp
  obtain ⟨kC, hkC, -⟩ := hcls.2
  refine W.aast ha hb h1 (fun q h => by cases h) (fun h => by cases h) k1 k2 rfl hkC ⟨fun z => hvi (Or.inl z), by rw [arrV_size, hca]; exact hin⟩ q1 (fun q h => by rw [q3] at h; cases h) (by rw [q2]; exact hkC) (by rw [q2]; exact va_assign hcls) rfl rfl hd fun H1 e1 e2 e3 => ?_
  rw [hca] at e1 ⊢
  refine kk p e R s m args below meth c H1 _ ls C9 hx ⟨hH.1.put hg hs hc e2 e3 ?_, by rw [e2]; exact hH.2.1, fun z hz => ?_⟩ hL
  · show H1[ga G q]? = some (arrV (gk G tt) L _)
    rw [e1, arrV_store]
  · rcases List.mem_append.mp hz with h | h
    · exact hH.2.2 z h
    · rw [List.mem_singleton.mp h]
      exact hg.2.2.2.1 q (by rw [hs]; rfl) hc
/-- the constructor of Object -/
theorem b_obj {idx : Nat} {a : Nat} (hi : tget (yT y) pc = some (.invokespecial idx, n, t)) (hn : pc + 3 = n) (hw : Cond.methodLink (cnm (yC y)) idx Lib.objectInit ∈ lw_tbl) (hd1 : 1 ≤ d) (hW : (st.map fun v => v.category).sum ≤ 8)
    (hio : Cond.instanceMethod Lib.objectInit ∈ lw_tbl) (hco : Cond.code Lib.objectInit ⟨#[0xb1]⟩ 1 none ∈ lw_tbl)
    (kk : Fb G y hp d kf Z k n lv st J) : Fb G y hp d kf Z k pc lv (.ref a :: st) J := by
  intro p e R s m args below meth c H locs ls C hx hH hL
  obtain ⟨hg, hok, ha, hb, hret, hlk, hml, hown, hwm, hs1, hs2, hR1, hR2, hR3, hR4⟩ := id C
  have hd := (hok.get hi).1
  subst hn
  rw [Nat.add_sub_cancel_left] at hd
  refine W.objInit ha hb hown (hg.1 _ hw rfl args s hwm) (hg.1 _ hio rfl args s hwm) (hg.1 _ hco rfl args s hwm) rfl (hL.1.trans hml.symm) rfl hd (by omega) ?_ (kk p e R s m args below meth c H locs ls C hx hH hL)
  show 2 * 0 + _ + 12 ≤ R.locals
  omega
end XM
