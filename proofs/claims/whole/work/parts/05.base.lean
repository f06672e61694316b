/-! THE MEMORY: cells by keys (region, place); ints and longs of each cell by their place; references never change once made -/
abbrev Ky : Type := Nat × Nat
abbrev Mm : Type := (Ky → Nat → Int32) × (Ky → Nat → Int64)
def ui (M : Mm) (k : Ky) (j : Nat) (x : Int32) : Mm := (fun a b => if a = k ∧ b = j then x else M.1 a b, M.2)
def ul (M : Mm) (k : Ky) (j : Nat) (x : Int64) : Mm := (M.1, fun a b => if a = k ∧ b = j then x else M.2 a b)
/-- what is fixed: the launch, class numbers and slots, array classes, addresses, the first new address, the heap and the state at the law's entry -/
abbrev Gd : Type := Launch × va_G × (Nat → ClassId) × (Ky → Nat) × Nat × Heap × State
def gl (G : Gd) : Launch := G.1
def gD (G : Gd) : va_G := G.2.1
def gk (G : Gd) : Nat → ClassId := G.2.2.1
def ga (G : Gd) : Ky → Nat := G.2.2.2.1
def gb (G : Gd) : Nat := G.2.2.2.2.1
def gH (G : Gd) : Heap := G.2.2.2.2.2.1
def gs (G : Gd) : State := G.2.2.2.2.2.2
def rv (G : Gd) (r : Option Ky) : Value := match r with | some k => .ref (ga G k) | none => .null
def cval (G : Gd) (M : Mm) (k : Ky) (ty : FieldType) (j : Nat) : Value := match ty with
  | .int => .int (M.1 k j)
  | .boolean => .int (M.1 k j)
  | .long => .long (M.2 k j)
  | _ => rv G (rf k j)
def nfl (ci : Nat) : Nat := match vwCl[ci]? with | some q => q.2.2 | none => 0
def cellR (G : Gd) (M : Mm) (k : Ky) (sp : Nat ⊕ (Nat × Nat)) (H : Heap) : Prop := match sp with
  | .inl ci => t_OB (ga G k) ((gD G).1 ci) (nfl ci) ((gD G).2 ci) H (fun j => cval G M k (ftyp ci j) j)
  | .inr q => H[ga G k]? = some (arrV (gk G q.1) q.2 (fun j => cval G M k (aty q.1) j))
def Rep (G : Gd) (M : Mm) (H : Heap) : Prop := ∀ (k : Ky) (sp : Nat ⊕ (Nat × Nat)), shp k.1 = some sp → k.2 < cnt k.1 → cellR G M k sp H
def tysG (G : Gd) : List (ClassId × FieldType) := [(gk G 0, aty 0), (gk G 1, aty 1), (gk G 2, aty 2), (gk G 3, aty 3), (gk G 4, aty 4)]
/-- a word that stays where the tables only grow warmer -/
def okw (w : Cond) : Bool := goodWord w || (match w with | .fieldLinkNest .. => true | .methodLinkNest .. => true | .declares .. => true | .castable .. => true | _ => false)
theorem okw_at {w : Cond} {args a' : Array Value} {s U : State} (h : okw w = true) (hb : w.before args s = true) (hW : s.WarmedH U.vm) : w.before a' U = true := by
  by_cases hg : goodWord w = true
  · exact word_at hW (good_of_word hg) hb
  · cases w with
    | fieldLinkNest a i b n d ho => exact va_Nw.use rfl (va_Nw.warmF hW (va_Nw.of rfl hb))
    | methodLinkNest a i x ho => exact va_Nw.use rfl (va_Nw.warmM hW (va_Nw.of rfl hb))
    | declares x => exact va_Nw.use rfl (va_Nw.warmD hW (va_Nw.of rfl hb))
    | castable a b => exact va_Nw.use rfl (va_Nw.warmC hW (va_Nw.of rfl hb))
    | _ => simp [okw, hg] at h
/-- what holds of what is fixed -/
def Gok (G : Gd) : Prop :=
  (∀ w ∈ lw_tbl, okw w = true → ∀ (a' : Array Value) (U : State), (gs G).WarmedH U.vm → w.before a' U = true) ∧
  va_K (gD G) vwCl (tysG G) (gs G) ∧
  (∀ k k' : Ky, (shp k.1).isSome = true → k.2 < cnt k.1 → (shp k'.1).isSome = true → k'.2 < cnt k'.1 → ga G k = ga G k' → k = k') ∧
  (∀ k : Ky, (shp k.1).isSome = true → k.2 < cnt k.1 → gb G ≤ ga G k) ∧
  (gl G).stackTraces = false ∧
  vx_Zq Bundle.tN "UNASSIGNED_STACK" Bundle.steD (fun q => gb G ≤ q) (gs G) (gH G) ∧ vx_Zq Bundle.tN "SUPPRESSED_SENTINEL" Bundle.listD (fun q => gb G ≤ q) (gs G) (gH G) ∧ gb G = (gH G).size
/-- the heap holds the memory, and below the first new address nothing has changed -/
def HqE (G : Gd) (M : Mm) (H : Heap) : Prop := Rep G M H ∧ (∀ q : Nat, q < gb G → H[q]? = (gH G)[q]?) ∧ gb G ≤ H.size
def Hq (G : Gd) (M : Mm) (s : State) (H : Heap) (locs : List Loc) : Prop := HqE G M H ∧ s.heap.size ≤ H.size ∧ ∀ z ∈ locs, gb G ≤ z.base
/-- the frame of a method y that is walked: its code, its tables, its room -/
def Cx (G : Gd) (y : Mt) (d kf : Nat) (p : Program) (R : Room) (s : State) (m : MethodId) (meth : Method) (c : Code) : Prop :=
  Gok G ∧ okT y ∧ p.tables.exec = Jvm.exec ∧ c.code = yB y ∧ meth.sig.returnType = yR y ∧ meth.locks = false ∧ c.maxLocals = yL y ∧ s.vm.findClass (cnm (yC y)) = some m.cls ∧ (gs G).WarmedH s.vm ∧
  (∀ q : Nat, q < gb G → s.heap[q]? = (gH G)[q]?) ∧ gb G ≤ s.heap.size ∧ d ≤ R.frames ∧ 64 * d ≤ R.locals ∧ kf ≤ R.cells ∧ 6 * kf ≤ R.slots
abbrev Zt : Type := List Frame → Array Value → State → State → Prop
def Fr (G : Gd) (y : Mt) (d kf : Nat) (Z : Zt) (k pc : Nat) (lv : List (Nat × Value)) (st : List Value) (M : Mm) : Prop :=
  ∀ (p : Program) (e : Env) (R : Room) (s : State) (m : MethodId) (args : Array Value) (below : List Frame) (meth : Method) (c : Code) (H : Heap) (locs : List Loc) (ls : Array Slot),
    Cx G y d kf p R s m meth c → (∀ x ∈ c.exceptionTable.toList, False) → Hq G M s H locs → lv_has ls (yL y) lv →
    W p (gl G) e R s m args below meth c H locs k (6 * k) (Z below args s) (F0 m pc ls st)
/-- outcomes: what is returned, or the class of what is thrown -/
abbrev Oc : Type := Option Value ⊕ String
def Qcc (G : Gd) (o : Oc) (M' : Mm) : Array Value → State → Outcome → State → Prop := fun _ _ oc t => ∃ v, o = .inl v ∧ oc = .returned v ∧ HqE G M' t.heap
def XCc (G : Gd) (o : Oc) (M' : Mm) : String → State → State → Prop := fun E _ t => o = .inr E ∧ HqE G M' t.heap
def Zm (G : Gd) (o : Oc) (M' : Mm) (kf : Nat) : Zt := fun below args s => vx_MQ below (Qcc G o M') (XCc G o M') args s kf (6 * kf) (fun q => gb G ≤ q)
def Pcc (G : Gd) (av : List Value) (M : Mm) : Array Value → State → Prop := fun v U => v = av.toArray ∧ HqE G M U.heap ∧ (gs G).WarmedH U.vm
def rmO (d kf : Nat) : Room := { frames := d, cells := kf, slots := 6 * kf, locals := 64 * d }
/-- the contract of a method: from these arguments and this memory it ends so, with that memory, kf new cells at most -/
def Ct (G : Gd) (y : Mt) (d : Nat) (av : List Value) (M : Mm) (o : Oc) (M' : Mm) (kf : Nat) : Prop :=
  vx_Met (gl G) (yN y) [.code (yN y) (yB y) (yL y) (yR y)] (rmO d kf) (Pcc G av M) (Qcc G o M') (XCc G o M') kf (6 * kf) (fun q => gb G ≤ q)
theorem okT.get {y : Mt} (h : okT y) {pc n t : Nat} {i : Instr} (hi : tget (yT y) pc = some (i, n, t)) : decode (yB y) pc = .ok (i, n - pc) ∧ pc ≤ n ∧ ∀ o, tgo i = some o → (pc : Int) + o = (t : Int) := by
  have h1 := List.all_eq_true.mp h _ (tget_mem hi)
  simp only [chkR, Bool.and_eq_true, decide_eq_true_eq] at h1
  refine ⟨h1.1.1, h1.1.2, fun o ho => ?_⟩
  have h2 := h1.2
  rw [ho] at h2
  exact of_decide_eq_true h2
/-- locals: kept by their places -/
def lflt (c i : Nat) (q : Nat × Value) : Bool := !(Nat.beq q.1 i) && !(Nat.beq (q.1 + 1) i && Nat.beq q.2.category 2) && !(Nat.beq c 2 && Nat.beq q.1 (i + 1))
def lkeep (c i : Nat) : List (Nat × Value) → Option (List (Nat × Value))
  | [] => some []
  | q :: t => match lkeep c i t with
    | some t' => bif lflt c i q then some (q :: t') else some t'
    | none => none
def lins (v : Value) (i : Nat) : List (Nat × Value) → Option (List (Nat × Value))
  | [] => some [(i, v)]
  | q :: t => bif Nat.blt i q.1 then (match lkeep v.category i (q :: t) with
      | some t' => some ((i, v) :: t')
      | none => none)
    else (match lins v i t with
      | some t' => bif lflt v.category i q then some (q :: t') else some t'
      | none => none)
theorem lkeep_mem {c i : Nat} : ∀ {l l' : List (Nat × Value)}, lkeep c i l = some l' → ∀ q ∈ l', q ∈ l ∧ lflt c i q = true
  | [], l', h, q, hq => by cases h; cases hq
  | a :: t, l', h, q, hq => by
    unfold lkeep at h
    cases ht : lkeep c i t with
    | none => rw [ht] at h; cases h
    | some t' =>
      rw [ht] at h
      dsimp only at h
      cases hf : lflt c i a with
      | true =>
        rw [hf] at h
        cases h
        rcases List.mem_cons.mp hq with rfl | hq
        · exact ⟨List.mem_cons_self, hf⟩
        · exact ⟨List.mem_cons_of_mem _ (lkeep_mem ht q hq).1, (lkeep_mem ht q hq).2⟩
      | false =>
        rw [hf] at h
        cases h
        exact ⟨List.mem_cons_of_mem _ (lkeep_mem ht q hq).1, (lkeep_mem ht q hq).2⟩
theorem lins_mem {v : Value} {i : Nat} : ∀ {l l' : List (Nat × Value)}, lins v i l = some l' → ∀ q ∈ l', q = (i, v) ∨ (q ∈ l ∧ lflt v.category i q = true)
  | [], l', h, q, hq => by
    cases h
    rcases List.mem_cons.mp hq with rfl | hq
    · exact Or.inl rfl
    · cases hq
  | a :: t, l', h, q, hq => by
    unfold lins at h
    cases hb : Nat.blt i a.1 with
    | true =>
      rw [hb] at h
      dsimp only [cond] at h
      cases hk : lkeep v.category i (a :: t) with
      | none => rw [hk] at h; cases h
      | some t' =>
        rw [hk] at h
        cases h
        rcases List.mem_cons.mp hq with rfl | hq
        · exact Or.inl rfl
        · exact Or.inr (lkeep_mem hk q hq)
    | false =>
      rw [hb] at h
      dsimp only [cond] at h
      cases hk : lins v i t with
      | none => rw [hk] at h; cases h
      | some t' =>
        rw [hk] at h
        dsimp only at h
        have key : ∀ q ∈ t', q = (i, v) ∨ (q ∈ a :: t ∧ lflt v.category i q = true) := fun q hq => by
          rcases lins_mem hk q hq with h1 | ⟨h1, h2⟩
          · exact Or.inl h1
          · exact Or.inr ⟨List.mem_cons_of_mem _ h1, h2⟩
        cases hf : lflt v.category i a with
        | true =>
          rw [hf] at h
          cases h
          rcases List.mem_cons.mp hq with rfl | hq
          · exact Or.inr ⟨List.mem_cons_self, hf⟩
          · exact key q hq
        | false =>
          rw [hf] at h
          cases h
          exact key q hq
theorem lv_weak {ls : Array Slot} {n : Nat} {l l' : List (Nat × Value)} (h : lv_has ls n l) (hs : ∀ q ∈ l', q ∈ l) : lv_has ls n l' := ⟨h.1, h.2.1, fun q hq => h.2.2 q (hs q hq)⟩
theorem lv_of {ls : Array Slot} {n i : Nat} {l : List (Nat × Value)} {v : Value} (h : lv_has ls n l) (hi : tget l i = some v) : ls[i]? = some (.val v) := h.2.2 (i, v) (tget_mem hi)
theorem beqT {a b : Nat} (h : a = b) : Nat.beq a b = true := by rw [h]; exact Nat.beq_refl b
theorem beqN (a b : Nat) : (a == b) = Nat.beq a b := by
  cases h : Nat.beq a b with
  | true => rw [Nat.eq_of_beq_eq_true h]; exact beq_self_eq_true b
  | false =>
    apply beq_eq_false_iff_ne.mpr
    intro e
    rw [beqT e] at h
    cases h
theorem lflt1 {i : Nat} {q : Nat × Value} {c : Nat} (h : lflt c i q = true) : (!(q.1 == i) && !(q.1 + 1 == i && q.2.category == 2)) = true := by
  simp only [lflt, Bool.and_eq_true] at h
  simp only [beqN, Bool.and_eq_true]
  exact h.1
theorem lflt2 {i : Nat} {q : Nat × Value} (h : lflt 2 i q = true) : (!(q.1 == i) && (!(q.1 == i + 1) && !(q.1 + 1 == i && q.2.category == 2))) = true := by
  have h3 : (!(Nat.beq 2 2 && Nat.beq q.1 (i + 1))) = true := by
    simp only [lflt, Bool.and_eq_true] at h
    exact h.2
  have h4 := lflt1 h
  simp only [beqN, Bool.and_eq_true] at h4 ⊢
  exact ⟨h4.1, h3, h4.2⟩
