/-! CATCHING: the search through a method's own table, the classes that it names met or not yet met -/
section GC
variable {e : Env} {f : JFrame} {a : Addr}
/-- one row of the table that covers the place -/
theorem g_row {S : State} {x : ExceptionTableEntry} {t : List ExceptionTableEntry} {cT : ClassId} {cell : Cell} {b : Bool} {Q : Handler → _root_.Jvm.Pre} {E : CtlPost} {d : Bool} {acts : List Action} (hx : covers x f.pc = true) (h0 : x.catchType ≠ 0)
    (hl : S.vm.ClassLinks e.platform f.method.cls x.catchType cT) (hcell : S.heap[a]? = some cell) (hobj : cell.vm = .none) (hk : ∃ k, S.vm.classes[cell.cls]? = some k) (hc : ∃ k, S.vm.classes[cT]? = some k) (hb : S.vm.assignable cell.cls cT = b) :
    Sem.wp (findHandler.go f a (x :: t)) Q E e d acts S ↔ (bif b then Q (.found x.handlerPc) d acts (S.setVm (S.vm.noted f.method.cls x.catchType (.cls cT))) else Sem.wp (findHandler.go f a t) Q E e d acts (S.setVm (S.vm.noted f.method.cls x.catchType (.cls cT)))) := by
  simp only [covers] at hx
  obtain ⟨ha, ht⟩ := (resolveClass_links e.toSetting hl).op (op := VmOp.resolveClass f.method.cls x.catchType) rfl
  have hal : S.vm.Alike (S.vm.noted f.method.cls x.catchType (.cls cT)) := (Vm.Alike.refl S.vm).noted _ _ _
  obtain ⟨k1, hk1⟩ := hk
  obtain ⟨k2, hk2⟩ := hc
  obtain ⟨k1', hk1', -⟩ := hal.2.2 _ _ hk1
  obtain ⟨k2', hk2', -⟩ := hal.2.2 _ _ hk2
  have hb' : (S.vm.noted f.method.cls x.catchType (.cls cT)).assignable cell.cls cT = b := by rw [hal.assignable]; exact hb
  cases b with
  | true => simp [findHandler.go, hx, h0, ha, ht, hcell, hobj, hk1', hk2', hb', VmOp.dirties, VmOp.acts]
  | false => simp [findHandler.go, hx, h0, ha, ht, hcell, hobj, hk1', hk2', hb', VmOp.dirties, VmOp.acts]
/-- a row that names a class: does it take what is thrown? -/
def Tk (s : State) (pl : Platform) (d thrown : ClassId) (pc : Nat) (b : Bool) (x : ExceptionTableEntry) : Prop :=
  covers x pc = true ∧ x.catchType ≠ 0 ∧ ∃ c, s.vm.ClassLinks pl d x.catchType c ∧ s.vm.assignable thrown c = b
theorem g_go {s : State} {cell : Cell} (hobj : cell.vm = .none) (hk : ∃ k, s.vm.classes[cell.cls]? = some k) (x : ExceptionTableEntry) (rest : List ExceptionTableEntry) (hx : Tk s e.platform f.method.cls cell.cls f.pc true x) :
    ∀ (pre : List ExceptionTableEntry) (S : State), s.WarmedH S.vm → S.heap[a]? = some cell → (∀ y ∈ pre, Tk s e.platform f.method.cls cell.cls f.pc false y) →
      ∃ vm', s.WarmedH vm' ∧ ∀ (Q : Handler → _root_.Jvm.Pre) (E : CtlPost) (d : Bool) (acts : List Action), Sem.wp (findHandler.go f a (pre ++ x :: rest)) Q E e d acts S ↔ Q (.found x.handlerPc) d acts (S.setVm vm')
  | [], S, hW, hcell, _ => by
    obtain ⟨k0, hk0⟩ := hk
    obtain ⟨k0', hk0', -⟩ := hW.alike.2.2 _ _ hk0
    obtain ⟨h1, h2, c, h3, h4⟩ := hx
    obtain ⟨dk, _, _, kt, hd, _, _, _, _, hkt, _, hopen⟩ := h3.here
    obtain ⟨kt', hkt', -⟩ := hW.alike.2.2 _ _ hkt
    exact ⟨_, hW.noted hd hopen (State.rightAt_cls h3), fun Q E d acts => g_row (b := true) h1 h2 (hW.classLinks h3) hcell hobj ⟨k0', hk0'⟩ ⟨kt', hkt'⟩ (by rw [hW.alike.assignable]; exact h4)⟩
  | y :: ys, S, hW, hcell, hp => by
    obtain ⟨k0, hk0⟩ := id hk
    obtain ⟨k0', hk0', -⟩ := hW.alike.2.2 _ _ hk0
    obtain ⟨h1, h2, c, h3, h4⟩ := hp y List.mem_cons_self
    obtain ⟨dk, _, _, kt, hd, _, _, _, _, hkt, _, hopen⟩ := h3.here
    obtain ⟨kt', hkt', -⟩ := hW.alike.2.2 _ _ hkt
    obtain ⟨vm', hW', hq⟩ := g_go hobj hk x rest hx ys (S.setVm (S.vm.noted f.method.cls y.catchType (.cls c))) (hW.noted hd hopen (State.rightAt_cls h3)) hcell (fun z hz => hp z (List.mem_cons_of_mem _ hz))
    exact ⟨vm', hW', fun Q E d acts => (g_row (b := false) h1 h2 (hW.classLinks h3) hcell hobj ⟨k0', hk0'⟩ ⟨kt', hkt'⟩ (by rw [hW.alike.assignable]; exact h4)).trans (hq Q E d acts)⟩
theorem g_step {S : State} {r : List Frame} {pc : Nat} {vm' : Vm} (h : ∀ (Q : Handler → _root_.Jvm.Pre) (E : CtlPost) (d : Bool) (acts : List Action), Sem.wp (findHandler f a) Q E e d acts S ↔ Q (.found pc) d acts (S.setVm vm')) :
    (stepThrowing e S a (.java f :: r)).1 = (S.setVm vm').setFrames (.java { f with pc := pc, stack := [.ref a] } :: r) := by
  simp only [stepThrowing, searchFrame, vmDo]
  generalize hr : Sem.go _ e false [] S = res
  obtain ⟨as, rfl, ha⟩ := Sem.eq_ok_of hr (a := Handler.found pc) (s' := S.setVm vm') (acts' := []) (by simp [h _ _ _ _])
  rfl
end GC
section GD
variable {p : Program} {l : Launch} {e : Env} {R : Room} {s T : State} {m : MethodId} {args : Array Value} {below : List Frame} {meth : Method} {c : Code} {locs : List Loc} {cells slots : Nat} {q : Addr} {ls : Array Slot} {rest : List Value} {pc : Nat}
theorem g_catch (X : Stand p l e R s m args below meth c T locs cells slots) {ce : Cell} (hcell : T.heap[q]? = some ce) (hv : ce.vm = .none) (hk : ∃ k, s.vm.classes[ce.cls]? = some k) (pre : List ExceptionTableEntry) (x : ExceptionTableEntry) (post : List ExceptionTableEntry) (htab : c.exceptionTable.toList = pre ++ x :: post)
    (hx : Tk s e.platform m.cls ce.cls pc true x) (hp : ∀ y ∈ pre, Tk s e.platform m.cls ce.cls pc false y) :
    ∃ vm', Stand p l e R s m args below meth c (T.setVm vm') locs cells slots ∧ ∀ target, Steps p.tables e below ((T.setVm vm').setTop (F0 m x.handlerPc ls [.ref q])) target → Steps p.tables e below ((T.setTop (F0 m pc ls rest)).pushFrame (.throwing q)) target := by
  obtain ⟨S, hS⟩ : ∃ S, S = (T.setTop (F0 m pc ls rest)).pushFrame (.throwing q) := ⟨_, rfl⟩
  have hvm : S.vm = T.vm := by rw [hS]; exact Stand.throwing_vm T _ q
  have hhp : S.heap = T.heap := by rw [hS]; exact Stand.throwing_heap T _ q
  obtain ⟨vm', hW', hq⟩ := g_go (e := e) (f := F0 m pc ls rest) (a := q) hv hk x post hx pre S (by rw [hvm]; exact X.warmed) (by rw [hhp]; exact hcell) hp
  refine ⟨vm', X.noted hW', fun target hrest => ?_⟩
  have hm : S.vm.method? (F0 m pc ls rest).method = some meth := by rw [hvm]; exact X.method'
  have hfind : ∀ (Q : Handler → _root_.Jvm.Pre) (E : CtlPost) (d : Bool) (acts : List Action), Sem.wp (findHandler (F0 m pc ls rest) q) Q E e d acts S ↔ Q (.found x.handlerPc) d acts (S.setVm vm') := fun Q E d acts => by
    rw [W.findHandler_eq hm X.code, htab]
    exact hq Q E d acts
  have h : At T (F0 m pc ls rest).method c below := X.here
  obtain ⟨hgo, hw⟩ := h.throwing q
  refine Steps.head hgo hw ?_
  rw [← hS, stepThread_throwing (by rw [hS]; exact frames_entered h.top _), g_step hfind]
  obtain ⟨g₀, hg⟩ := Option.isSome_iff_exists.mp h.top
  obtain ⟨r, hr⟩ := State.topJava?_eq_some.mp hg
  have hr' : (T.setVm vm').frames = .java g₀ :: r := hr
  rw [State.setTop_of_frames _ hr'] at hrest
  have e9 : (S.setVm vm').setFrames (.java (F0 m x.handlerPc ls [.ref q]) :: r) = (T.setVm vm').setFrames (.java (F0 m x.handlerPc ls [.ref q]) :: r) := by
    rw [hS, State.pushFrame, State.setTop_of_frames _ hr, State.setFrames_setFrames]
    show ((T.setVm vm').setFrames _).setFrames _ = _
    rw [State.setFrames_setFrames]
  rw [hr]
  show Steps p.tables e below ((S.setVm vm').setFrames (.java (F0 m x.handlerPc ls [.ref q]) :: r)) target
  rw [e9]
  exact hrest
end GD
