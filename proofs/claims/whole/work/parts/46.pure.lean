/-! what is written with a bound is what is written without it, where it stays within the bound -/
def Lm (f : WS → Option WS) (F : WS → WS) : Prop := (∀ s : WS, s.1.length ≤ 600 → f s = lim (F s)) ∧ ∀ s : WS, s.1.length ≤ (F s).1.length
theorem lim_in {s : WS} (h : s.1.length ≤ 600) : lim s = some s := if_pos h
theorem lim_out {s : WS} (h : ¬ s.1.length ≤ 600) : lim s = none := if_neg h
theorem lim_some {s s1 : WS} (h : lim s = some s1) : s1 = s ∧ s.1.length ≤ 600 := by
  unfold lim at h
  by_cases hl : s.1.length ≤ 600
  · rw [if_pos hl] at h; cases h; exact ⟨rfl, hl⟩
  · rw [if_neg hl] at h; cases h
theorem Lm.bind {f g : WS → Option WS} {F H : WS → WS} (h1 : Lm f F) (h2 : Lm g H) : Lm (fun s => (f s).bind g) (fun s => H (F s)) := by
  refine ⟨fun s hs => ?_, fun s => Nat.le_trans (h1.2 s) (h2.2 _)⟩
  show (f s).bind g = lim (H (F s))
  rw [h1.1 s hs]
  by_cases hl : (F s).1.length ≤ 600
  · rw [lim_in hl]; exact h2.1 _ hl
  · rw [lim_out hl, lim_out (fun z => hl (Nat.le_trans (h2.2 _) z))]; rfl
theorem Lm_bs : ∀ l : List Nat, Lm (wbs l) (emT l)
  | [] => ⟨fun s hs => by rw [emT_nil, lim_in hs]; rfl, fun s => by simp [emT]⟩
  | b :: l => by
    refine ⟨fun s hs => ?_, fun s => by simp [emT]⟩
    rw [emT_cons]
    show (wb b s).bind (wbs l) = _
    by_cases hl : s.1.length < 600
    · rw [show wb b s = some (emT [b] s) from if_pos hl]
      exact (Lm_bs l).1 _ (by simp [emT]; omega)
    · rw [show wb b s = none from if_neg hl, lim_out (by simp [emT]; omega)]; rfl
theorem wb_bs (b : Nat) (s : WS) : wb b s = wbs [b] s := by
  show _ = (wb b s).bind some
  rw [bsome]
theorem addT1 (t : Int64) (s : WS) : (addT t s).1 = s.1 := by unfold addT; split <;> rfl
theorem Lm_add (t : Int64) : Lm (fun s => some (addT t s)) (addT t) := ⟨fun s hs => by rw [lim_in (by rw [addT1]; exact hs)], fun s => by rw [addT1]; exact Nat.le_refl _⟩
theorem Lm_str (t : Int64) : Lm (wstr t) (strT t) := by
  refine ⟨fun s hs => ?_, fun s => by have := (strT_len t s).2; omega⟩
  unfold wstr strT
  cases lfx s.2.1 t with
  | some p => exact (Lm_bs _).1 s hs
  | none => exact ((Lm_bs _).bind ((Lm_bs _).bind (Lm_add t))).1 s hs
theorem Lm_strs : ∀ l : List Int64, Lm (wstrs l) (strsT l)
  | [] => ⟨fun s hs => (lim_in hs).symm, fun s => Nat.le_refl _⟩
  | t :: l => (Lm_str t).bind (Lm_strs l)
theorem trT_len (x : Tr) (t : Nat) (s : WS) : s.1.length ≤ (trT x t s).1.length := by
  unfold trT
  cases lfx (s.2.2.2.map lN) (lN t) with
  | some p => exact (Lm_bs _).2 s
  | none => exact Nat.le_trans (by exact (Lm_bs (numB (16 * (rM x).length + (if rD x = true then 8 else 0) + 3))).2 (addR t s)) (((Lm_str _).bind (Lm_strs _)).2 _)
theorem Lm_tr {A : Ab} {t : Nat} {x : Tr} (hx : (aT A)[t]? = some x) : Lm (wtr A t) (trT x t) := by
  refine ⟨fun s hs => ?_, trT_len x t⟩
  unfold wtr trT
  cases lfx (s.2.2.2.map lN) (lN t) with
  | some p => exact (Lm_bs _).1 s hs
  | none =>
    dsimp only
    rw [hx]
    exact ((Lm_bs _).bind ((Lm_str _).bind (Lm_strs _))).1 (addR t s) hs
def wins (A : Ab) (rec : Int64 → WS → Option WS) (x : Th) (s : WS) : Option WS :=
  if tK x = 9 then (wpair rec (tY x) (tV x) s).bind (witem rec (tL x)) else (witem rec (tL x) s).bind fun s1 => if dynA A x = true then wpair rec (tY x) (tV x) s1 else some s1
def insd (A : Ab) (rec : Option (Int64 → WS → Option WS)) (r : Option Nat) (s : WS) : Option WS := match r with
  | none => some s
  | some i => match (aH A)[i]?, rec with
    | some x, some rec => wins A rec x s
    | _, _ => none
def recO (A : Ab) : Nat → Option (Int64 → WS → Option WS)
  | 0 => none
  | dl + 1 => some (wval A dl)
theorem wval_eq (A : Ab) : ∀ (dl : Nat) (v : Int64) (s : WS), wval A dl v s = wvalS A (recO A dl) v s
  | 0, _, _ => rfl
  | _ + 1, _, _ => rfl
theorem hdT_len {A : Ab} (x : Th) (s : WS) : s.1.length ≤ (hdT A x s).1.length := by
  unfold hdT
  split
  · exact ((Lm_bs _).bind (Lm_bs _)).2 s
  · split
    · exact ((Lm_bs _).bind (Lm_bs _)).2 s
    · split
      · exact (Lm_bs _).2 s
      · split
        · exact trT_len _ _ s
        · exact Nat.le_refl _
theorem hd_in {A : Ab} {rec : Int64 → WS → Option WS} {x : Th} {i : Nat} {s : WS} (hx : (aH A)[i]? = some x) (hok : thOK A x) (hs : s.1.length ≤ 600) :
    win A rec x s = (lim (hdT A x s)).bind (insd A (some rec) (if tK x = 9 ∨ tK x = 10 then some i else none)) := by
  have e : ∀ s : WS, insd A (some rec) (some i) s = wins A rec x s := fun s => by simp only [insd, hx]
  rcases hok.1 with hk | hk | hk | hk
  · rw [if_neg (by omega)]
    show _ = (lim (hdT A x s)).bind some
    rw [bsome]
    unfold win hdT wdate
    rw [if_pos hk, if_pos hk]
    exact ((Lm_bs _).bind (Lm_bs _)).1 s hs
  · rw [if_pos (by omega)]
    unfold win hdT warr
    rw [if_neg (by omega), if_neg (by omega), if_pos hk, if_neg (by omega), if_neg (by omega), if_pos hk, (Lm_bs _).1 s hs]
    congr 1
    funext s1
    rw [e]
    unfold wins
    rw [if_pos hk]
  · obtain ⟨y, hy, -⟩ := hok.2.2.2.2.1 hk
    rw [if_pos (by omega)]
    unfold win hdT wobj
    rw [if_neg (by omega), if_neg (by omega), if_neg (by omega), if_neg (by omega), if_neg (by omega), if_neg (by omega), hy, (Lm_tr hy).1 s hs]
    congr 1
    funext s1
    rw [e]
    unfold wins
    rw [if_neg (by omega)]
  · rw [if_neg (by omega)]
    show _ = (lim (hdT A x s)).bind some
    rw [bsome]
    unfold win hdT wbytes
    rw [if_neg (by omega), if_pos hk, if_neg (by omega), if_pos hk]
    exact ((Lm_bs _).bind (Lm_bs _)).1 s hs
theorem wval_vhd {A : Ab} (hwf : wfA A) {dl h : Nat} (hd : h + dl = 12) {v : Int64} (hv : vOK A v) (hn : (aH A).length ≤ 40) {s : WS} (hs : s.1.length ≤ 600) :
    wval A dl v s = (vhd A h v s).bind fun q => (lim q.1).bind (insd A (recO A dl) q.2) := by
  rw [wval_eq]
  unfold wvalS vhd
  have one : ∀ (b : Nat) {g : WS → Option WS} {H : WS → WS}, Lm g H → (wb b s).bind g = (lim (H (emT [b] s))) := fun b g H hl => by
    rw [wb_bs]; exact ((Lm_bs [b]).bind hl).1 s hs
  by_cases h7 : uN v % 16 = 7
  · rw [if_pos h7, if_pos h7]
    have hv7 := (isV_7 h7).mp hv
    obtain ⟨x, hx⟩ : ∃ x, (aH A)[uN (sh4 v)]? = some x := ⟨_, List.getElem?_eq_getElem (uN_in hn hv7.1 hv7.2)⟩
    unfold wthing
    rw [hx]
    dsimp only
    have hok := hwf.2.2.1 _ (at_mem hx)
    rw [wb_bs, (Lm_bs _).1 s hs]
    by_cases hl : (emT [tK x] s).1.length ≤ 600
    · rw [lim_in hl]
      show wth1 A (recO A dl) x (uN (sh4 v)) (emT [tK x] s) = _
      unfold wth1 thd
      cases lfx ((emT [tK x] s).2.2.1.map lN) (lN (uN (sh4 v))) with
      | some p =>
        show wbs (numB (2 * p)) (emT [tK x] s) = (lim (emT (numB (2 * p)) (emT [tK x] s))).bind some
        rw [bsome]; exact (Lm_bs _).1 _ hl
      | none =>
        cases dl with
        | zero => simp only [recO]; rw [if_pos (by omega)]; rfl
        | succ dl =>
          simp only [recO]
          rw [if_neg (by omega)]
          exact hd_in hx hok hl
    · rw [lim_out hl]
      show none = _
      unfold thd
      cases lfx ((emT [tK x] s).2.2.1.map lN) (lN (uN (sh4 v))) with
      | some p =>
        show none = (lim (emT (numB (2 * p)) (emT [tK x] s))).bind _
        rw [lim_out (fun z => hl (Nat.le_trans ((Lm_bs _).2 _) z))]; rfl
      | none =>
        by_cases h12 : h = 12
        · simp only [if_pos h12]; rfl
        · simp only [if_neg h12]
          show none = (lim (hdT A x (addH (uN (sh4 v)) (emT [tK x] s)))).bind _
          rw [lim_out (fun z => hl (Nat.le_trans (hdT_len (A := A) x (addH (uN (sh4 v)) (emT [tK x] s))) z))]; rfl
  rw [if_neg h7, if_neg h7]
  have fin : ∀ (s1 : WS), lim s1 = (some (s1, (none : Option Nat))).bind fun q => (lim q.1).bind (insd A (recO A dl) q.2) := fun s1 => by
    show lim s1 = (lim s1).bind some
    rw [bsome]
  by_cases h4 : uN v % 16 = 4
  · rw [if_pos h4, ← fin, h4]
    exact one 4 ⟨fun s1 hs1 => by unfold wv1; rw [if_pos h4]; exact (Lm_bs _).1 s1 hs1, (Lm_bs _).2⟩
  rw [if_neg h4]
  by_cases h5 : uN v % 16 = 5
  · rw [if_pos h5, ← fin, h5]
    exact one 5 ⟨fun s1 hs1 => by unfold wv1; rw [if_neg h4, if_pos h5]; exact (Lm_bs _).1 s1 hs1, (Lm_bs _).2⟩
  rw [if_neg h5]
  by_cases h6 : uN v % 16 = 6
  · rw [if_pos h6, ← fin, h6]
    exact one 6 ⟨fun s1 hs1 => by unfold wv1; rw [if_neg h4, if_neg h5, if_pos h6]; exact (Lm_str _).1 s1 hs1, (Lm_str _).2⟩
  rw [if_neg h6, ← fin]
  refine one (uN v % 16) (H := fun s => s) ⟨fun s1 hs1 => by unfold wv1; rw [if_neg h4, if_neg h5, if_neg h6, lim_in hs1], fun s1 => Nat.le_refl _⟩
