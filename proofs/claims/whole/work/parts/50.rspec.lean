/-! READING: what a row says, as lists: where the reader is, texts, things, traits told so far; wide numbers, traits, things of the store -/
abbrev RS : Type := Nat × List Int64 × List Nat × List Nat × List Int64 × List Tr × List Th
def pX (s : RS) : List Int64 := s.2.1
def pL (s : RS) : List Nat := s.2.2.1
def pR (s : RS) : List Nat := s.2.2.2.1
def pW (s : RS) : List Int64 := s.2.2.2.2.1
def pT (s : RS) : List Tr := s.2.2.2.2.2.1
def pH (s : RS) : List Th := s.2.2.2.2.2.2
def rb {α β : Type} (r : Nat ⊕ α) (f : α → Nat ⊕ β) : Nat ⊕ β := match r with
  | .inl e => .inl e
  | .inr a => f a
theorem rb_assoc {α β γ : Type} (r : Nat ⊕ α) (f : α → Nat ⊕ β) (g : β → Nat ⊕ γ) : rb (rb r f) g = rb r fun a => rb (f a) g := by cases r <;> rfl
theorem rb_inr {α : Type} (r : Nat ⊕ α) : rb r (fun a => .inr a) = r := by cases r <;> rfl
def rByte (row : List Nat) (s : RS) : Nat ⊕ (Nat × RS) := match row[s.1]? with
  | some b => .inr (b, s.1 + 1, s.2)
  | none => .inl row.length
def rNumF (row : List Nat) : Nat → Nat → RS → Nat ⊕ (Nat × RS)
  | 0, a, s => rb (rByte row s) fun q => .inr (a * 256 + q.1, q.2)
  | k + 1, a, s => rb (rByte row s) fun q => if q.1 < 128 then .inr (a * 128 + q.1 % 128, q.2) else rNumF row k (a * 128 + q.1 % 128) q.2
def rNum (row : List Nat) (s : RS) : Nat ⊕ (Nat × RS) := rNumF row 3 0 s
def sh8 (a : Int64) (b : Nat) : Int64 := (a <<< ((nI 8).toInt64 &&& 63)) ||| lN b
def rEightF (row : List Nat) : Nat → Int64 → RS → Nat ⊕ (Int64 × RS)
  | 0, a, s => .inr (a, s)
  | k + 1, a, s => rb (rByte row s) fun q => rEightF row k (sh8 a q.1) q.2
def rEight (row : List Nat) (s : RS) : Nat ⊕ (Int64 × RS) := rEightF row 8 0 s
def orL (t : Int64) (b i : Nat) : Int64 := t ||| (lN b <<< ((nI (8 * i)).toInt64 &&& 63))
def wrg (w : Bool) (b : Nat) : Bool := w || b == 0 || decide (126 < b)
def rLetF (row : List Nat) : Nat → Nat → Int64 → Bool → RS → Nat ⊕ ((Int64 × Bool) × RS)
  | 0, _, t, w, s => .inr ((t, w), s)
  | n + 1, i, t, w, s => rb (rByte row s) fun q => rLetF row n (i + 1) (orL t q.1 i) (wrg w q.1) q.2
def addX (t : Int64) (s : RS) : RS := if t = 0 then s else (s.1, s.2.1 ++ [t], s.2.2)
def rStr1 (row : List Nat) (pl n : Nat) (s : RS) : Nat ⊕ (Int64 × RS) :=
  if n % 2 = 0 then (match (pX s)[n / 2]? with
    | some t => .inr (t, s)
    | none => .inl pl)
  else if 7 < n / 2 then .inl pl else rb (rLetF row (n / 2) 0 0 false s) fun z => if z.1.2 = true then .inl pl else .inr (z.1.1, addX z.1.1 z.2)
def rStr (row : List Nat) (s : RS) : Nat ⊕ (Int64 × RS) := rb (rNum row s) fun q => rStr1 row s.1 q.1 q.2
def addW (v : Int64) (s : RS) : RS := (s.1, s.2.1, s.2.2.1, s.2.2.2.1, s.2.2.2.2.1 ++ [v], s.2.2.2.2.2)
def newH (k : Nat) (s : RS) : RS := (s.1, s.2.1, s.2.2.1 ++ [(pH s).length], s.2.2.2.1, s.2.2.2.2.1, s.2.2.2.2.2.1, s.2.2.2.2.2.2 ++ [(k, 0, 0, [], [], [])])
def setH (i : Nat) (x : Th) (s : RS) : RS := (s.1, s.2.1, s.2.2.1, s.2.2.2.1, s.2.2.2.2.1, s.2.2.2.2.2.1, s.2.2.2.2.2.2.set i x)
def rMem (row : List Nat) : Nat → List Int64 → RS → Nat ⊕ (List Int64 × RS)
  | 0, acc, s => .inr (acc, s)
  | n + 1, acc, s => rb (rStr row s) fun q => if q.1 = 0 ∨ q.1 ∈ acc then .inl s.1 else rMem row n (acc ++ [q.1]) q.2
noncomputable def tpos (l : List Tr) (x : Tr) : Nat := fp (fun i => l[i]? = some x) 0 l.length
noncomputable def keepT (np : Nat) (x : Tr) (s : RS) : Nat ⊕ (Nat × RS) :=
  if tpos (pT s) x = 12 then .inl np else if tpos (pT s) x = (pT s).length then .inr ((pT s).length, s.1, s.2.1, s.2.2.1, s.2.2.2.1 ++ [(pT s).length], s.2.2.2.2.1, s.2.2.2.2.2.1 ++ [x], s.2.2.2.2.2.2)
  else .inr (tpos (pT s) x, s.1, s.2.1, s.2.2.1, s.2.2.2.1 ++ [tpos (pT s) x], s.2.2.2.2)
noncomputable def rTr (row : List Nat) (al : List Int64) (n np : Nat) (s : RS) : Nat ⊕ (Nat × RS) :=
  if n % 4 = 1 then (match (pR s)[n / 4]? with
    | some t => .inr (t, s)
    | none => .inl np)
  else if n % 8 = 7 ∨ 3 < n / 16 then .inl np
  else rb (rStr row s) fun q => if ¬ q.1 = 0 ∧ ¬ q.1 ∈ al then .inl s.1 else rb (rMem row (n / 16) [] q.2) fun z => keepT np (q.1, decide (n / 8 % 2 = 1), z.1) z.2
def rBy (row : List Nat) : Nat → List Int64 → RS → Nat ⊕ (List Int64 × RS)
  | 0, acc, s => .inr (acc, s)
  | n + 1, acc, s => rb (rByte row s) fun q => rBy row n (acc ++ [16 * lN q.1 + 4]) q.2
abbrev Rec : Type := RS → Nat ⊕ (Int64 × RS)
def rItems (rec : Rec) : Nat → List Int64 → RS → Nat ⊕ (List Int64 × RS)
  | 0, acc, s => .inr (acc, s)
  | n + 1, acc, s => rb (rec s) fun q => rItems rec n (acc ++ [q.1]) q.2
def rPairs (row : List Nat) (rec : Rec) (mem : List Int64) : Nat → List Int64 → List Int64 → RS → Nat ⊕ ((List Int64 × List Int64) × RS)
  | 0, ks, vs, s => .inr ((ks, vs), s)
  | n + 1, ks, vs, s => rb (rStr row s) fun q => if q.1 = 0 then .inr ((ks, vs), q.2) else if ks.length = 6 ∨ q.1 ∈ ks ∨ q.1 ∈ mem then .inl s.1
    else rb (rec q.2) fun z => rPairs row rec mem n (ks ++ [q.1]) (vs ++ [z.1]) z.2
def trAt (s : RS) (t : Nat) : Tr := (pT s)[t]?.getD (0, false, [])
def rDate (row : List Nat) (n np i : Nat) (s : RS) : Nat ⊕ RS := if ¬ n = 1 then .inl np else rb (rEight row s) fun q => .inr (setH i (8, q.1, 0, [], [], []) q.2)
def rBytes (row : List Nat) (n np i : Nat) (s : RS) : Nat ⊕ RS := if 8 < n then .inl np else rb (rBy row n [] s) fun q => .inr (setH i (12, 0, 0, q.1, [], []) q.2)
def rArr (row : List Nat) (rec : Rec) (n np i : Nat) (s : RS) : Nat ⊕ RS := if 8 < n then .inl np else rb (rPairs row rec [] 7 [] [] s) fun q => rb (rItems rec n [] q.2) fun z => .inr (setH i (9, 0, 0, z.1, q.1.1, q.1.2) z.2)
noncomputable def rObj (row : List Nat) (al : List Int64) (rec : Rec) (n np i : Nat) (s : RS) : Nat ⊕ RS := rb (rTr row al n np s) fun t => rb (rItems rec (rM (trAt t.2 t.1)).length [] t.2) fun z =>
  if rD (trAt t.2 t.1) = true then rb (rPairs row rec (rM (trAt t.2 t.1)) 7 [] [] z.2) fun q => .inr (setH i (10, 0, t.1, z.1, q.1.1, q.1.2) q.2) else .inr (setH i (10, 0, t.1, z.1, [], []) z.2)
noncomputable def rBody (row : List Nat) (al : List Int64) (rec : Rec) (k n np i : Nat) (s : RS) : Nat ⊕ RS :=
  if k = 8 then rDate row n np i s else if k = 12 then rBytes row (n / 2) np i s else if k = 9 then rArr row rec (n / 2) np i s else rObj row al rec n np i s
def kdAt (s : RS) (i : Nat) : Nat := match (pH s)[i]? with
  | some x => tK x
  | none => 0
def rKnown (k n np : Nat) (s : RS) : Nat ⊕ (Int64 × RS) := match (pL s)[n]? with
  | some i => if kdAt s i = k then .inr (16 * lN i + 7, s) else .inl np
  | none => .inl np
noncomputable def rTh1 (row : List Nat) (al : List Int64) (rec : Option Rec) (k kp np n : Nat) (s : RS) : Nat ⊕ (Int64 × RS) :=
  if n % 2 = 0 then rKnown k (n / 2) np s else if (pH s).length = 40 then .inl kp else match rec with
    | none => .inl kp
    | some rec => rb (rBody row al rec k n np (pH s).length (newH k s)) fun s' => .inr (16 * lN (pH s).length + 7, s')
noncomputable def rTh (row : List Nat) (al : List Int64) (rec : Option Rec) (k kp : Nat) (s : RS) : Nat ⊕ (Int64 × RS) := rb (rNum row s) fun q => rTh1 row al rec k kp s.1 q.1 q.2
def vI (n : Nat) : Int64 := 16 * (if n < 268435456 then nI n else nI n - nI 536870912).toInt64 + 4
def rInt (row : List Nat) (s : RS) : Nat ⊕ (Int64 × RS) := rb (rNum row s) fun q => .inr (vI q.1, q.2)
def rWide (row : List Nat) (kp : Nat) (s : RS) : Nat ⊕ (Int64 × RS) := if (pW s).length = 40 then .inl kp else rb (rEight row s) fun q => .inr (16 * lN (pW q.2).length + 5, addW q.1 q.2)
noncomputable def rv1 (row : List Nat) (al : List Int64) (rec : Option Rec) (kp k : Nat) (s : RS) : Nat ⊕ (Int64 × RS) :=
  if k = 4 then rInt row s else if k = 5 then rWide row kp s else if k = 6 then rb (rStr row s) fun q => .inr (16 * q.1 + 6, q.2)
  else if k = 8 ∨ k = 9 ∨ k = 10 ∨ k = 12 then rTh row al rec k kp s else if 3 < k then .inl kp else .inr (lN k, s)
noncomputable def rvS (row : List Nat) (al : List Int64) (rec : Option Rec) (s : RS) : Nat ⊕ (Int64 × RS) := rb (rByte row s) fun q => rv1 row al rec s.1 q.1 q.2
noncomputable def rVal (row : List Nat) (al : List Int64) : Nat → RS → Nat ⊕ (Int64 × RS)
  | 0 => rvS row al none
  | dl + 1 => rvS row al (some (rVal row al dl))
/-! the class's reader -/
def RdA (s : RS) (M : Mm) : Prop := M.1 (27, 0) 9 = nI s.1 ∧ LL M (28, 0) (29, 0) (pX s)
def RdB (row : List Nat) (s : RS) : Prop := s.1 ≤ row.length ∧ 2 * (pX s).length ≤ s.1 ∧ (∀ t ∈ pX s, isTx t ∧ ¬ t = 0)
def RdK (s : RS) (M : Mm) : Prop := LL M (30, 0) (31, 0) ((pL s).map lN) ∧ LL M (32, 0) (33, 0) ((pR s).map lN) ∧ M.1 (27, 0) 6 = nI (pW s).length ∧ LI (M.2 (2, 0)) (pW s) ∧ M.1 (27, 0) 7 = nI (pT s).length ∧ (∀ t x, (pT s)[t]? = some x → cTr x M t) ∧ M.1 (27, 0) 8 = nI (pH s).length ∧ (∀ j x, (pH s)[j]? = some x → M.1 (8, j) 3 = nI (tK x))
def RdI (s : RS) : Prop := (pW s).length ≤ 40 ∧ (pT s).length ≤ 12 ∧ (pH s).length ≤ 40 ∧ (pR s).length ≤ (pL s).length ∧ (pL s).length ≤ (pH s).length ∧ (∀ i ∈ pL s, i < (pH s).length) ∧ (∀ t ∈ pR s, t < (pT s).length) ∧ (∀ x ∈ pH s, tK x < 16) ∧ (∀ x ∈ pT s, trOK x)
def RdW (row : List Nat) (al : List Int64) (M : Mm) : Prop := M.1 (15, 0) 1 = nI row.length ∧ LN (M.1 (16, 0)) row ∧ row.length ≤ 600 ∧ (∀ b ∈ row, b < 256) ∧ LL M (17, 0) (18, 0) al ∧ al.length ≤ 6
def RdC (row : List Nat) (al : List Int64) (s : RS) (M : Mm) : Prop := RdA s M ∧ RdB row s ∧ RdK s M ∧ RdI s ∧ RdW row al M
def onA (k : Ky) (j : Nat) : Prop := k.1 ≠ 28 ∧ k.1 ≠ 29 ∧ (k.1 = 27 → j ≠ 9)
/-- what reading a value leaves: wide numbers, traits and things that were there -/
def onD (s : RS) (k : Ky) (j : Nat) : Prop := ¬ (27 ≤ k.1 ∧ k.1 ≤ 33 ∧ ¬ (k.1 = 27 ∧ j = 10)) ∧ (k.1 = 2 → j < (pW s).length) ∧ (5 ≤ k.1 ∧ k.1 ≤ 7 → k.2 < (pT s).length) ∧ (8 ≤ k.1 ∧ k.1 ≤ 14 → k.2 < (pH s).length)
theorem LL.eqF {on : Ky → Nat → Prop} {M M1 : Mm} {q q' : Ky} {l : List Int64} (h : LL M q q' l) (he : EqF on M M1) (h1 : on q 1) (h2 : ∀ j, on q' j) : LL M1 q q' l := ⟨(he _ _ h1).1.trans h.1, h.2.to fun k => (he _ _ (h2 k)).2⟩
theorem cTr.eqF {on : Ky → Nat → Prop} {M M1 : Mm} {x : Tr} {t : Nat} (h : cTr x M t) (he : EqF on M M1) (ho : ∀ r, 5 ≤ r → r ≤ 7 → ∀ j, on (r, t) j) : cTr x M1 t := by
  obtain ⟨a, b, c, e⟩ := h
  exact ⟨(he _ _ (ho 5 (by decide) (by decide) _)).2.trans a, (he _ _ (ho 5 (by decide) (by decide) _)).1.trans b, c.eqF he (ho 6 (by decide) (by decide) _) (fun j => ho 7 (by decide) (by decide) j), e⟩
theorem cTh.eqF {on : Ky → Nat → Prop} {M M1 : Mm} {x : Th} {i : Nat} (h : cTh x M i) (he : EqF on M M1) (ho : ∀ r, 8 ≤ r → r ≤ 14 → ∀ j, on (r, i) j) : cTh x M1 i := by
  obtain ⟨a, b, c, e, f, g, r⟩ := h
  exact ⟨(he _ _ (ho 8 (by decide) (by decide) _)).1.trans a, (he _ _ (ho 8 (by decide) (by decide) _)).1.trans b, (he _ _ (ho 8 (by decide) (by decide) _)).2.trans c, e.eqF he (ho 9 (by decide) (by decide) _) (fun j => ho 10 (by decide) (by decide) j), f.eqF he (ho 11 (by decide) (by decide) _) (fun j => ho 12 (by decide) (by decide) j), g.eqF he (ho 13 (by decide) (by decide) _) (fun j => ho 14 (by decide) (by decide) j), r⟩
theorem RdK.eq {s : RS} {M M1 : Mm} (h : RdK s M) (he : EqF onA M M1) : RdK s M1 := by
  obtain ⟨a, b, c, e, f, g, p, q⟩ := h
  refine ⟨a.eqF he (by simp [onA]) (fun j => by simp [onA]), b.eqF he (by simp [onA]) (fun j => by simp [onA]), (he _ _ (by simp [onA])).1.trans c, e.to fun k => (he _ _ (by simp [onA])).2, (he _ _ (by simp [onA])).1.trans f, fun t x hx => (g t x hx).eqF he (fun r h1 h2 j => by unfold onA; simp; omega), (he _ _ (by simp [onA])).1.trans p, fun j x hx => (he _ _ (by simp [onA])).1.trans (q j x hx)⟩
theorem RdW.eq {row : List Nat} {al : List Int64} {M M1 : Mm} {on : Ky → Nat → Prop} (h : RdW row al M) (he : EqF on M M1) (ho : ∀ r, 15 ≤ r → r ≤ 18 → ∀ j, on (r, 0) j) : RdW row al M1 := by
  obtain ⟨a, b, c, e, f, g⟩ := h
  exact ⟨(he _ _ (ho 15 (by decide) (by decide) _)).1.trans a, b.to fun k => (he _ _ (ho 16 (by decide) (by decide) _)).1, c, e, f.eqF he (ho 17 (by decide) (by decide) _) (fun j => ho 18 (by decide) (by decide) j), g⟩
theorem RdC.eqA {row : List Nat} {al : List Int64} {s s1 : RS} {M M1 : Mm} (h : RdC row al s M) (he : EqF onA M M1) (ha : RdA s1 M1) (hb : RdB row s1) (h2 : s1.2.2 = s.2.2) : RdC row al s1 M1 := by
  obtain ⟨n, X, l⟩ := s
  obtain ⟨n1, X1, l1⟩ := s1
  cases h2
  exact ⟨ha, hb, h.2.2.1.eq he, h.2.2.2.1, h.2.2.2.2.eq he (fun r h1 h2 j => by unfold onA; simp; omega)⟩
/-! contracts of the reader's methods -/
def oR {β : Type} (val : β → Option Value) (r : Nat ⊕ (β × RS)) : Oc := match r with
  | .inr q => .inl (val q.1)
  | .inl _ => .inr IAE
def kR {α : Type} (r : Nat ⊕ α) : Nat := match r with
  | .inr _ => 0
  | .inl _ => 1
/-- the same, but for the place of the fault -/
def fq (on : Ky → Nat → Prop) (k : Ky) (j : Nat) : Prop := on k j ∧ ¬ (k.1 = 27 ∧ j = 10)
theorem EqF.fo {on : Ky → Nat → Prop} {M M1 : Mm} (h : EqF on M M1) : EqF (fq on) M M1 := h.sub fun _ _ z => z.1
theorem EqF.foT {on on1 : Ky → Nat → Prop} {M M1 M2 : Mm} (h : EqF on M M1) (h2 : EqF (fq on1) M1 M2) (hon : ∀ k j, on k j → on1 k j) : EqF (fq on) M M2 := h.fo.tr (h2.sub fun k j z => ⟨hon k j z.1, z.2⟩)
def PR {β : Type} (on : Ky → Nat → Prop) (Ps : RS → Mm → Prop) (M : Mm) (r : Nat ⊕ (β × RS)) : Mm → Prop := fun M' => match r with
  | .inr q => EqF on M M' ∧ Ps q.2 M'
  | .inl f => EqF (fq on) M M' ∧ M'.1 (27, 0) 10 = nI f
def CR {β : Type} (G : Gd) (y : Mt) (d : Nat) (av : List Value) (M : Mm) (on : Ky → Nat → Prop) (Ps : RS → Mm → Prop) (val : β → Option Value) (r : Nat ⊕ (β × RS)) : Prop := Ce G y d av M (oR val r) (PR on Ps M r) (kR r)
def FR {β : Type} (G : Gd) (y : Mt) (d : Nat) (M0 : Mm) (on : Ky → Nat → Prop) (Ps : RS → Mm → Prop) (val : β → Option Value) (r : Nat ⊕ (β × RS)) (pc : Nat) (lv : List (Nat × Value)) (st : List Value) (M : Mm) : Prop := Fr G y d (kR r) (Ze G (oR val r) (PR on Ps M0 r) (kR r)) 0 pc lv st M
def vInt (n : Nat) : Option Value := some (.int (nI n))
def vLng (x : Int64) : Option Value := some (.long x)
def vNo {β : Type} (_ : β) : Option Value := none
section XR
variable {β : Type} {G : Gd} {y : Mt} {d : Nat} {pc n t : Nat} {lv lv' : List (Nat × Value)} {st : List Value} {M M0 : Mm} {on : Ky → Nat → Prop} {Ps : RS → Mm → Prop} {val : β → Option Value}
theorem r_callV {γ : Type} {y2 : Mt} {d2 np idx : Nat} {q : Ky} {ci : Nat} {u : u_T × Nat} {As rest : List Value} {on1 : Ky → Nat → Prop} {Ps1 : RS → Mm → Prop} {val1 : γ → Option Value} {r1 : Nat ⊕ (γ × RS)} {f : γ × RS → Nat ⊕ (β × RS)} (hC : CR G y2 d2 (.ref (ga G q) :: As) M on1 Ps1 val1 r1) (hS : EqF on M0 M) (hon : ∀ k j, on k j → on1 k j) (hi : tget (yT y) pc = some (.invokevirtual idx, n, t)) (hn : pc + 3 = n) (hl : LkV (yC y) idx y2 np)
    (hs : shp q.1 = some (.inl ci)) (hcl : vwCl[ci]? = some ((yN y2).cls, u)) (hc : q.2 < cnt q.1) (hnp : As.length = np) (hst : st = As.reverse ++ .ref (ga G q) :: rest) (hW : (rest.map fun v => v.category).sum ≤ 8) (hd : d2 + 1 ≤ d)
    (kk : ∀ (b : γ) (s1 : RS) (M1 : Mm), r1 = .inr (b, s1) → Ps1 s1 M1 → EqF on1 M M1 → EqF on M0 M1 → FR G y d M0 on Ps val (f (b, s1)) n lv ((val1 b).toList ++ rest) M1) : FR G y d M0 on Ps val (rb r1 f) pc lv st M := by
  cases r1 with
  | inl e => exact x_throwVe (k2 := 1) hC hi hn hl hs hcl hc hnp hst hW hd (Nat.le_refl 1) (fun M2 h => ⟨hS.foT h.1 hon, h.2⟩)
  | inr p => exact x_callVe (k2 := 0) hC hi hn hl hs hcl hc hnp hst hW hd (Nat.zero_le _) (fun M2 h => kk p.1 p.2 M2 rfl h.2 h.1 (hS.tr (h.1.sub hon)))
/-- a call that always throws -/
theorem r_stop {y2 : Mt} {d2 np idx : Nat} {q : Ky} {ci : Nat} {u : u_T × Nat} {As rest : List Value} {f : Nat} {M2 : Mm} {r : Nat ⊕ (β × RS)} (hr : r = .inl f) (hC : Ct G y2 d2 (.ref (ga G q) :: As) M (.inr IAE) M2 1) (hS : EqF (fq on) M0 M2) (hf : M2.1 (27, 0) 10 = nI f) (hi : tget (yT y) pc = some (.invokevirtual idx, n, t)) (hn : pc + 3 = n) (hl : LkV (yC y) idx y2 np)
    (hs : shp q.1 = some (.inl ci)) (hcl : vwCl[ci]? = some ((yN y2).cls, u)) (hc : q.2 < cnt q.1) (hnp : As.length = np) (hst : st = As.reverse ++ .ref (ga G q) :: rest) (hW : (rest.map fun v => v.category).sum ≤ 8) (hd : d2 + 1 ≤ d) : FR G y d M0 on Ps val r pc lv st M := by
  subst hr
  exact x_throwVe (k2 := 1) (P := fun M' => M' = M2) (Ct.e hC rfl) hi hn hl hs hcl hc hnp hst hW hd (Nat.le_refl 1) (fun M3 h => by rw [h]; exact ⟨hS, hf⟩)
theorem r_of {av : List Value} {r : Nat ⊕ (β × RS)} (hG : Gok G) (ok : okT y) (hp : plainName (yN y).cls = true) (hc : (yN y).cls = cnm (yC y)) (hl : (lg_sl av).length ≤ yL y) (body : FR G y d M on Ps val r 0 (lv_args 0 av) [] M) : CR G y d av M on Ps val r := ce_of hG ok hp hc hl body
theorem r_retI {r : Nat ⊕ (Nat × RS)} {b : Nat} {s : RS} (hr : r = .inr (b, s)) (hS : EqF on M0 M) (hP : Ps s M) (hi : tget (yT y) pc = some (.ireturn, n, t)) (hn : pc + 1 = n) (hv : yR y = some .int) : FR G y d M0 on Ps vInt r pc lv [.int (nI b)] M := by
  subst hr
  exact fr_e (x_retI hi hn hv (Nat.le_refl _) rfl rfl) ⟨hS, hP⟩
theorem r_retL {r : Nat ⊕ (Int64 × RS)} {b : Int64} {s : RS} (hr : r = .inr (b, s)) (hS : EqF on M0 M) (hP : Ps s M) (hi : tget (yT y) pc = some (.lreturn, n, t)) (hn : pc + 1 = n) (hv : yR y = some .long) : FR G y d M0 on Ps vLng r pc lv [.long b] M := by
  subst hr
  exact fr_e (x_retL hi hn hv (Nat.le_refl _) rfl rfl) ⟨hS, hP⟩
theorem r_retV {r : Nat ⊕ (β × RS)} {b : β} {s : RS} (hr : r = .inr (b, s)) (hS : EqF on M0 M) (hP : Ps s M) (hi : tget (yT y) pc = some (.return_, n, t)) (hn : pc + 1 = n) (hv : yR y = none) : FR G y d M0 on Ps vNo r pc lv [] M := by
  subst hr
  exact fr_e (x_retV hi hn hv (Nat.le_refl _) rfl rfl) ⟨hS, hP⟩
end XR
