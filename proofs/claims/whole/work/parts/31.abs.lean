/-! WHAT THE CLASS AND THE MODEL HOLD, as lists: wide numbers, traits (name, dynamic, members), things (kind, bits, traits, items, keys, values), allowed names, the row, the fault -/
abbrev Tr : Type := Int64 × Bool × List Int64
abbrev Th : Type := Nat × Int64 × Nat × List Int64 × List Int64 × List Int64
def rN (x : Tr) : Int64 := x.1
def rD (x : Tr) : Bool := x.2.1
def rM (x : Tr) : List Int64 := x.2.2
def tK (x : Th) : Nat := x.1
def tD (x : Th) : Int64 := x.2.1
def tT (x : Th) : Nat := x.2.2.1
def tL (x : Th) : List Int64 := x.2.2.2.1
def tY (x : Th) : List Int64 := x.2.2.2.2.1
def tV (x : Th) : List Int64 := x.2.2.2.2.2
abbrev Ab : Type := List Int64 × List Tr × List Th × List Int64 × List Nat × Int32
def aW (A : Ab) : List Int64 := A.1
def aT (A : Ab) : List Tr := A.2.1
def aH (A : Ab) : List Th := A.2.2.1
def aA (A : Ab) : List Int64 := A.2.2.2.1
def aR (A : Ab) : List Nat := A.2.2.2.2.1
def aF (A : Ab) : Int32 := A.2.2.2.2.2
/-- f holds the list -/
def LI (f : Nat → Int64) (l : List Int64) : Prop := ∀ k x, l[k]? = some x → f k = x
def LN (f : Nat → Int32) (l : List Nat) : Prop := ∀ k x, l[k]? = some x → f k = nI x
theorem LI.push {f g : Nat → Int64} {l : List Int64} {e : Int64} (h : LI f l) (hg : ∀ k, k < l.length → g k = f k) (he : g l.length = e) : LI g (l ++ [e]) := by
  intro k x hx
  rcases Nat.lt_trichotomy k l.length with q | q | q
  · rw [List.getElem?_append_left q] at hx
    rw [hg k q]; exact h k x hx
  · rw [q, List.getElem?_append_right (Nat.le_refl _), Nat.sub_self] at hx
    cases hx
    rw [q]; exact he
  · rw [List.getElem?_append_right (by omega), List.getElem?_eq_none (by simp; omega)] at hx
    cases hx
theorem LN.push {f g : Nat → Int32} {l : List Nat} {e : Nat} (h : LN f l) (hg : ∀ k, k < l.length → g k = f k) (he : g l.length = nI e) : LN g (l ++ [e]) := by
  intro k x hx
  rcases Nat.lt_trichotomy k l.length with q | q | q
  · rw [List.getElem?_append_left q] at hx
    rw [hg k q]; exact h k x hx
  · rw [q, List.getElem?_append_right (Nat.le_refl _), Nat.sub_self] at hx
    cases hx
    rw [q]; exact he
  · rw [List.getElem?_append_right (by omega), List.getElem?_eq_none (by simp; omega)] at hx
    cases hx
/-- a list of the class -/
def LL (M : Mm) (q q' : Ky) (l : List Int64) : Prop := M.1 q 1 = nI l.length ∧ LI (M.2 q') l
/-- the traits' number as the class and the model hold it -/
def trv (x : Th) : Int32 := if tK x = 10 then nI (tT x) else -1
def cTr (x : Tr) (M : Mm) (t : Nat) : Prop := M.2 (5, t) 1 = rN x ∧ M.1 (5, t) 2 = bI (rD x = true) ∧ LL M (6, t) (7, t) (rM x) ∧ (rM x).length ≤ 3
def cTh (x : Th) (M : Mm) (i : Nat) : Prop := M.1 (8, i) 3 = nI (tK x) ∧ M.1 (8, i) 4 = trv x ∧ M.2 (8, i) 5 = tD x ∧ LL M (9, i) (10, i) (tL x) ∧ LL M (11, i) (12, i) (tY x) ∧ LL M (13, i) (14, i) (tV x) ∧ (tL x).length ≤ 8 ∧ (tY x).length ≤ 6 ∧ (tV x).length = (tY x).length ∧ tK x < 16
/-- what is held, but for how many there are -/
def Cn (A : Ab) (M : Mm) : Prop := LI (M.2 (2, 0)) (aW A) ∧ (∀ t x, (aT A)[t]? = some x → cTr x M t) ∧ (∀ i x, (aH A)[i]? = some x → cTh x M i) ∧ LL M (17, 0) (18, 0) (aA A) ∧ M.1 (15, 0) 1 = nI (aR A).length ∧ LN (M.1 (16, 0)) (aR A) ∧ (aW A).length ≤ 40 ∧ (aT A).length ≤ 12 ∧ (aH A).length ≤ 40 ∧ (aA A).length ≤ 6 ∧ (aR A).length ≤ 600
def RC (A : Ab) (M : Mm) : Prop := Cn A M ∧ M.1 (1, 0) 3 = nI (aW A).length ∧ M.1 (1, 0) 4 = nI (aT A).length ∧ M.1 (1, 0) 5 = nI (aH A).length ∧ M.1 (27, 0) 10 = aF A
/-- nothing has changed in the regions that 'on' names -/
def Eqn (on : Nat → Prop) (M M' : Mm) : Prop := ∀ k : Ky, on k.1 → ∀ j : Nat, M'.1 k j = M.1 k j ∧ M'.2 k j = M.2 k j
theorem Eqn.rf {on : Nat → Prop} {M : Mm} : Eqn on M M := fun _ _ _ => ⟨rfl, rfl⟩
theorem Eqn.tr {on : Nat → Prop} {M M1 M2 : Mm} (h : Eqn on M M1) (h2 : Eqn on M1 M2) : Eqn on M M2 := fun k hk j => ⟨(h2 k hk j).1.trans (h k hk j).1, (h2 k hk j).2.trans (h k hk j).2⟩
theorem Eqn.ui {on : Nat → Prop} {M M1 : Mm} {k : Ky} {j : Nat} {x : Int32} (h : Eqn on M M1) (hk : ¬ on k.1) : Eqn on M (ui M1 k j x) := by
  intro k' hk' j'
  have hne : k' ≠ k := fun e => hk (e ▸ hk')
  exact ⟨(ui_ne (Or.inl hne)).trans (h k' hk' j').1, (h k' hk' j').2⟩
theorem Eqn.ul {on : Nat → Prop} {M M1 : Mm} {k : Ky} {j : Nat} {x : Int64} (h : Eqn on M M1) (hk : ¬ on k.1) : Eqn on M (ul M1 k j x) := by
  intro k' hk' j'
  have hne : k' ≠ k := fun e => hk (e ▸ hk')
  exact ⟨(h k' hk' j').1, (ul_ne (Or.inl hne)).trans (h k' hk' j').2⟩
theorem Eqn.sub {on on' : Nat → Prop} {M M1 : Mm} (h : Eqn on M M1) (hs : ∀ r, on' r → on r) : Eqn on' M M1 := fun k hk j => h k (hs _ hk) j
theorem LL.eqn {on : Nat → Prop} {M M1 : Mm} {q q' : Ky} {l : List Int64} (h : LL M q q' l) (he : Eqn on M M1) (h1 : on q.1) (h2 : on q'.1) : LL M1 q q' l :=
  ⟨(he q h1 1).1.trans h.1, fun k x hx => (he q' h2 k).2.trans (h.2 k x hx)⟩
theorem cTr.eqn {on : Nat → Prop} {M M1 : Mm} {x : Tr} {t : Nat} (h : cTr x M t) (he : Eqn on M M1) (h5 : on 5) (h6 : on 6) (h7 : on 7) : cTr x M1 t := by
  obtain ⟨a, b, c, e⟩ := h
  exact ⟨(he (5, t) h5 1).2.trans a, (he (5, t) h5 2).1.trans b, c.eqn he h6 h7, e⟩
theorem cTh.eqn {on : Nat → Prop} {M M1 : Mm} {x : Th} {i : Nat} (h : cTh x M i) (he : Eqn on M M1) (ho : ∀ r, 8 ≤ r → r ≤ 14 → on r) : cTh x M1 i := by
  obtain ⟨a, b, c, e, f, g, r⟩ := h
  have h8 := ho 8 (by decide) (by decide)
  exact ⟨(he (8, i) h8 3).1.trans a, (he (8, i) h8 4).1.trans b, (he (8, i) h8 5).2.trans c, e.eqn he (ho 9 (by decide) (by decide)) (ho 10 (by decide) (by decide)), f.eqn he (ho 11 (by decide) (by decide)) (ho 12 (by decide) (by decide)), g.eqn he (ho 13 (by decide) (by decide)) (ho 14 (by decide) (by decide)), r⟩
theorem Cn.eqn {on : Nat → Prop} {A : Ab} {M M1 : Mm} (h : Cn A M) (he : Eqn on M M1) (ho : ∀ r, 2 ≤ r → r ≤ 18 → on r) : Cn A M1 := by
  obtain ⟨a, b, c, e, f, g, r⟩ := h
  have o : ∀ r, 2 ≤ r ∧ r ≤ 18 → on r := fun r z => ho r z.1 z.2
  exact ⟨fun k x hx => (he (2, 0) (o 2 (by decide)) k).2.trans (a k x hx), fun t x hx => (b t x hx).eqn he (o 5 (by decide)) (o 6 (by decide)) (o 7 (by decide)),
    fun i x hx => (c i x hx).eqn he (fun r h1 h2 => o r ⟨by omega, by omega⟩), e.eqn he (o 17 (by decide)) (o 18 (by decide)), (he (15, 0) (o 15 (by decide)) 1).1.trans f, fun k x hx => (he (16, 0) (o 16 (by decide)) k).1.trans (g k x hx), r⟩
theorem RC.eqn {on : Nat → Prop} {A : Ab} {M M1 : Mm} (h : RC A M) (he : Eqn on M M1) (ho : ∀ r, 1 ≤ r → r ≤ 18 → on r) (h27 : on 27) : RC A M1 := by
  obtain ⟨a, b, c, e, f⟩ := h
  have h1 := ho 1 (by decide) (by decide)
  exact ⟨a.eqn he (fun r q1 q2 => ho r (by omega) q2), (he (1, 0) h1 3).1.trans b, (he (1, 0) h1 4).1.trans c, (he (1, 0) h1 5).1.trans e, (he (27, 0) h27 10).1.trans f⟩
/-! WRITING -/
abbrev WS : Type := List Nat × List Int64 × List Nat × List Nat
def wb (b : Nat) (s : WS) : Option WS := if s.1.length < 600 then some (s.1 ++ [b], s.2) else none
def wbs : List Nat → WS → Option WS
  | [], s => some s
  | b :: l, s => (wb b s).bind (wbs l)
def numB (n : Nat) : List Nat :=
  if n < 128 then [n] else if n < 16384 then [128 + n / 128, n % 128] else if n < 2097152 then [128 + n / 16384, 128 + n / 128 % 128, n % 128]
  else [128 + n / 4194304, 128 + n / 32768 % 128, 128 + n / 256 % 128, n % 256]
def eightB (v : Int64) : List Nat := [uN v / 2 ^ 56 % 256, uN v / 2 ^ 48 % 256, uN v / 2 ^ 40 % 256, uN v / 2 ^ 32 % 256, uN v / 2 ^ 24 % 256, uN v / 2 ^ 16 % 256, uN v / 2 ^ 8 % 256, uN v / 2 ^ 0 % 256]
/-- the writer's own regions, as the class holds what is written so far -/
def onW (r : Nat) : Prop := ¬ (19 ≤ r ∧ r ≤ 26)
/-- numbers below n, no one twice -/
def Nd (n : Nat) (l : List Nat) : Prop := l.Nodup ∧ ∀ i ∈ l, i < n
theorem Nd.len : ∀ {n : Nat} {l : List Nat}, Nd n l → l.length ≤ n
  | 0, l, h => by
    cases l with
    | nil => exact Nat.le_refl _
    | cons a t => exact absurd (h.2 a List.mem_cons_self) (by omega)
  | n + 1, l, h => by
    have h2 : Nd n (l.erase n) := ⟨h.1.erase n, fun i hi => by
      have h3 := (h.1.mem_erase_iff).mp hi
      have := h.2 i h3.2
      have := h3.1
      omega⟩
    have h4 := h2.len
    by_cases hm : n ∈ l
    · rw [List.length_erase_of_mem hm] at h4; omega
    · rw [List.erase_of_not_mem hm] at h4; omega
theorem Nd.push {n t : Nat} {l : List Nat} (h : Nd n l) (ht : ¬ t ∈ l) (hn : t < n) : Nd n (l ++ [t]) := by
  refine ⟨?_, fun i hi => ?_⟩
  · rw [List.nodup_append]
    exact ⟨h.1, by simp, fun a ha b hb e => by simp at hb; rw [← hb, ← e] at ht; exact ht ha⟩
  · rcases List.mem_append.mp hi with h1 | h1
    · exact h.2 i h1
    · simp at h1; omega
def WrC (s : WS) (M : Mm) : Prop := M.1 (19, 0) 5 = nI s.1.length ∧ LN (M.1 (26, 0)) s.1 ∧ s.1.length ≤ 600 ∧ LL M (20, 0) (21, 0) s.2.1 ∧ LL M (22, 0) (23, 0) (s.2.2.1.map lN) ∧ LL M (24, 0) (25, 0) (s.2.2.2.map lN) ∧ 2 * s.2.1.length ≤ s.1.length ∧ Nd 40 s.2.2.1 ∧ Nd 12 s.2.2.2
def ISE : String := "java/lang/IllegalStateException"
def IAE : String := "java/lang/IllegalArgumentException"
def oW (r : Option WS) : Oc := match r with | some _ => .inl none | none => .inr ISE
def kW (r : Option WS) : Nat := match r with | some _ => 0 | none => 1
def PW (M : Mm) (r : Option WS) : Mm → Prop := fun M' => Eqn onW M M' ∧ ∀ s', r = some s' → WrC s' M'
def CW (G : Gd) (y : Mt) (d : Nat) (av : List Value) (M : Mm) (r : Option WS) : Prop := Ce G y d av M (oW r) (PW M r) (kW r)
def FW (G : Gd) (y : Mt) (d : Nat) (M0 : Mm) (r : Option WS) (pc : Nat) (lv : List (Nat × Value)) (st : List Value) (M : Mm) : Prop := Fr G y d (kW r) (Ze G (oW r) (PW M0 r) (kW r)) 0 pc lv st M
section XW
variable {G : Gd} {y : Mt} {d : Nat} {pc n t : Nat} {lv lv' : List (Nat × Value)} {st : List Value} {M M0 : Mm} {r : Option WS}
theorem w_callV {y2 : Mt} {d2 np idx : Nat} {q : Ky} {ci : Nat} {u : u_T × Nat} {As rest : List Value} {r1 : Option WS} {f : WS → Option WS} (hC : CW G y2 d2 (.ref (ga G q) :: As) M r1) (hS : Eqn onW M0 M) (hi : tget (yT y) pc = some (.invokevirtual idx, n, t)) (hn : pc + 3 = n) (hl : LkV (yC y) idx y2 np)
    (hs : shp q.1 = some (.inl ci)) (hcl : vwCl[ci]? = some ((yN y2).cls, u)) (hc : q.2 < cnt q.1) (hnp : As.length = np) (hst : st = As.reverse ++ .ref (ga G q) :: rest) (hW : (rest.map fun v => v.category).sum ≤ 8) (hd : d2 + 1 ≤ d)
    (kk : ∀ (s1 : WS) (M1 : Mm), r1 = some s1 → WrC s1 M1 → Eqn onW M0 M1 → FW G y d M0 (f s1) n lv rest M1) : FW G y d M0 (r1.bind f) pc lv st M := by
  cases r1 with
  | none => exact x_throwVe (k2 := 1) hC hi hn hl hs hcl hc hnp hst hW hd (Nat.le_refl 1) (fun M2 h => ⟨hS.tr h.1, fun s' h9 => by cases h9⟩)
  | some s1 => exact x_callVe (k2 := 0) hC hi hn hl hs hcl hc hnp hst hW hd (Nat.zero_le _) (fun M2 h => kk s1 M2 rfl (h.2 s1 rfl) (hS.tr h.1))
theorem w_ret {s : WS} (hr : r = some s) (hw : WrC s M) (hS : Eqn onW M0 M) (hi : tget (yT y) pc = some (.return_, n, t)) (hn : pc + 1 = n) (hv : yR y = none) : FW G y d M0 r pc lv [] M := by
  subst hr
  exact fr_e (x_vret hi hn hv (Nat.le_refl _)) ⟨hS, fun s' h => by cases h; exact hw⟩
theorem w_of {av : List Value} (hG : Gok G) (ok : okT y) (hp : plainName (yN y).cls = true) (hc : (yN y).cls = cnm (yC y)) (hl : (lg_sl av).length ≤ yL y) (body : FW G y d M r 0 (lv_args 0 av) [] M) : CW G y d av M r := ce_of hG ok hp hc hl body
end XW
