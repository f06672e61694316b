/-! contracts that say of the memory behind a method only what P says -/
def Qce (G : Gd) (o : Oc) (P : Mm → Prop) : Array Value → State → Outcome → State → Prop := fun _ _ oc t => ∃ v M', o = .inl v ∧ oc = .returned v ∧ P M' ∧ HqE G M' t.heap
def XCe (G : Gd) (o : Oc) (P : Mm → Prop) : String → State → State → Prop := fun E _ t => ∃ M', o = .inr E ∧ P M' ∧ HqE G M' t.heap
def Ze (G : Gd) (o : Oc) (P : Mm → Prop) (kf : Nat) : Zt := fun below args s => vx_MQ below (Qce G o P) (XCe G o P) args s kf (6 * kf) (fun q => gb G ≤ q)
def Ce (G : Gd) (y : Mt) (d : Nat) (av : List Value) (M : Mm) (o : Oc) (P : Mm → Prop) (kf : Nat) : Prop :=
  vx_Met (gl G) (yN y) [.code (yN y) (yB y) (yL y) (yR y)] (rmO d kf) (Pcc G av M) (Qce G o P) (XCe G o P) kf (6 * kf) (fun q => gb G ≤ q)
section XF
variable {G : Gd} {y : Mt} {d kf : Nat} {Z : Zt} {k pc n t : Nat} {lv lv' : List (Nat × Value)} {st : List Value} {M M' : Mm} {o : Oc} {P P2 : Mm → Prop}
theorem Met_mono {l : Launch} {x : MethodName} {S : Spec} {Pc : Array Value → State → Prop} {K : Program → Env → List Frame → State → Array Value → Prop} {Q Q' : Array Value → State → Outcome → State → Prop} (h : MetFree l x S Pc K Q) (hq : ∀ a s o t, Q a s o t → Q' a s o t) : MetFree l x S Pc K Q' := by
  intro p e ha hc hk s m args below hf happ hP hK
  obtain ⟨n, o, h1, h2, h3, h4⟩ := h p e ha hc hk s m args below hf happ hP hK
  exact ⟨n, o, h1, h2, h3, hq _ _ _ _ h4⟩
theorem Ct.e {av : List Value} (h : Ct G y d av M o M' kf) (hP : P M') : Ce G y d av M o P kf := by
  refine Met_mono h fun a s oc t hq => ?_
  rcases hq with ⟨⟨v, h1, h2, h3⟩, h4⟩ | ⟨q, h1, E, ce, L, ⟨h2, h3⟩, h4⟩
  · exact Or.inl ⟨⟨v, M', h1, h2, hP, h3⟩, h4⟩
  · exact Or.inr ⟨q, h1, E, ce, L, ⟨M', h2, hP, h3⟩, h4⟩
theorem Ce.mono {av : List Value} (h : Ce G y d av M o P kf) (hP : ∀ M', P M' → P2 M') : Ce G y d av M o P2 kf := by
  refine Met_mono h fun a s oc t hq => ?_
  rcases hq with ⟨⟨v, M', h1, h2, h5, h3⟩, h4⟩ | ⟨q, h1, E, ce, L, ⟨M', h2, h5, h3⟩, h4⟩
  · exact Or.inl ⟨⟨v, M', h1, h2, hP _ h5, h3⟩, h4⟩
  · exact Or.inr ⟨q, h1, E, ce, L, ⟨M', h2, hP _ h5, h3⟩, h4⟩
theorem ce_of {av : List Value} (hG : Gok G) (ok : okT y) (hp : plainName (yN y).cls = true) (hc : (yN y).cls = cnm (yC y)) (hl : (lg_sl av).length ≤ yL y)
    (body : Fr G y d kf (Ze G o P kf) 0 0 (lv_args 0 av) [] M) : Ce G y d av M o P kf := by
  refine vx_ofW (cc := yB y) (maxL := yL y) (ret := yR y) hp rfl ?_
  intro p e s m args below meth c s₁ B hml ht hP
  obtain ⟨rfl, hH, hW⟩ := hP
  have hown : s.vm.findClass (cnm (yC y)) = some m.cls := by rw [← hc]; exact findClass_of_methodNamed B.named
  rw [lg_entry_eq]
  exact body p e _ s m _ below meth c s.heap [] _ ⟨hG, ok, B.exec, B.bytes, B.returns, B.notSynchronized, hml, hown, hW, hH.2.1, hH.2.2, Nat.le_refl _, Nat.le_refl _, Nat.le_refl _, Nat.le_refl _⟩ ht ⟨hH, Nat.le_refl _, fun z h => by cases h⟩ (lv_entry av hl)
/-- a walk with one memory at its end is one whose end P says -/
theorem fr_e (h : Fr G y d kf (Zm G o M' kf) k pc lv st M) (hP : P M') : Fr G y d kf (Ze G o P kf) k pc lv st M := by
  intro p e R s m args below meth c H locs ls C hx hH hL T hT X
  obtain ⟨t2, a1, oc, b1, b2, b3⟩ := h p e R s m args below meth c H locs ls C hx hH hL T hT X
  refine ⟨t2, a1, oc, b1, b2, ?_⟩
  rcases b3 with ⟨⟨v, h1, h2, h3⟩, h4⟩ | ⟨q, h1, E, ce, L, ⟨h2, h3⟩, h4⟩
  · exact Or.inl ⟨⟨v, M', h1, h2, hP, h3⟩, h4⟩
  · exact Or.inr ⟨q, h1, E, ce, L, ⟨M', h2, hP, h3⟩, h4⟩
theorem x_backE {y2 : Mt} {d2 k2 np idx : Nat} {av : List Value} {p : Program} {e : Env} {R : Room} {s : State} {m : MethodId} {args : Array Value} {below : List Frame} {meth : Method} {c : Code}
    (C : Cx G y d kf p R s m meth c) (hl : LkM (yC y) idx y2 np) (hd : d2 + 1 ≤ d) (hC : Ce G y2 d2 av M o P k2) :
    vx_Back (gl G) R p e below s args (yN y2) 3 8 (PreOf R k2 (6 * k2) (Pcc G av M)) (PostOf (Qce G o P) k2 (6 * k2) (fun q => gb G ≤ q)) (vx_Post (XCe G o P) k2 (6 * k2) (fun q => gb G ≤ q)) := by
  obtain ⟨hg, hok, ha, hb, hret, hlk, hml, hown, hwm, hs1, hs2, hR1, hR2, hR3, hR4⟩ := id C
  obtain ⟨-, hini, hcd, -, -, hmx⟩ := hl
  refine vx_back (bytes := yB y2) (maxL := yL y2) (ret := yR y2) hC (Pcc_blind G av M) rfl rfl ?_ ?_ ?_ List.mem_cons_self ?_
  · show d2 + 1 ≤ R.frames
    omega
  · show 8 + (yL y2 + 11) + 64 * d2 ≤ R.locals
    omega
  · intro w hw a' U hWU
    rw [List.mem_singleton.mp hw]
    exact hg.1 _ hcd rfl a' U (State.WarmedH.trans hwm hWU)
  · intro a' U hWU
    exact hg.1 _ hini rfl a' U (State.WarmedH.trans hwm hWU)
theorem x_behindE {y2 : Mt} {d2 k2 np idx : Nat} {av rest : List Value} {ig : Instr} {p : Program} {e : Env} {R : Room} {s T : State} {m : MethodId} {args : Array Value} {below : List Frame} {meth : Method} {c : Code} {H : Heap} {locs : List Loc} {ls : Array Slot} {st0 : List Value}
    (C : Cx G y d kf p R s m meth c) (hl : LkM (yC y) idx y2 np) (hd : d2 + 1 ≤ d) (hC : Ce G y2 d2 av M o P k2) (hk : k + k2 ≤ kf) (hi : tget (yT y) pc = some (ig, pc + 3, t)) (hW : (rest.map fun v => v.category).sum ≤ 8)
    (hH : Hq G M s H locs) (hL : lv_has ls (yL y) lv) (hT : T.heap = H)
    (go : ∃ (vm₁ : Vm) (mk : MethodId), Stand p (gl G) e R s m args below meth c (T.setVm vm₁) locs k (6 * k) ∧ (T.setVm vm₁).methodNamed? (yN y2) = some mk ∧
      ∀ target, (∀ acts, Steps p.tables e below (doInvoke e ((T.setVm vm₁).setTop (F0 m pc ls rest)) acts mk av.toArray).1 target) → Steps p.tables e below (T.setTop (F0 m pc ls st0)) target) :
    (∃ (v : Option Value) (M2 : Mm) (T' : State) (L : List Loc), o = .inl v ∧ P M2 ∧ Stand p (gl G) e R s m args below meth c T' (locs ++ L) (k + k2) (6 * (k + k2)) ∧ Hq G M2 s T'.heap (locs ++ L) ∧ Steps p.tables e below (T.setTop (F0 m pc ls st0)) (T'.setTop (F0 m (pc + 3) ls (v.toList ++ rest)))) ∨
    (∃ (E : String) (M2 : Mm) (q : Addr) (ce : Cell) (T' : State) (L : List Loc), o = .inr E ∧ P M2 ∧ Stand p (gl G) e R s m args below meth c T' (locs ++ L) (k + k2) (6 * (k + k2)) ∧ Hq G M2 s T'.heap (locs ++ L) ∧ T'.heap[q]? = some ce ∧ ce.vm = .none ∧ s.vm.findClass E = some ce.cls ∧
      Steps p.tables e below (T.setTop (F0 m pc ls st0)) ((T'.setTop (F0 m pc ls rest)).pushFrame (.throwing q))) := by
  obtain ⟨hg, hok, ha, hb, hret, hlk, hml, hown, hwm, hs1, hs2, hR1, hR2, hR3, hR4⟩ := id C
  have hd9 := (hok.get hi).1
  rw [Nat.add_sub_cancel_left, ← hb] at hd9
  obtain ⟨vm₁, mk, X₁, hnm, st1⟩ := go
  have hpre : PreOf R k2 (6 * k2) (Pcc G av M) ⟨T.setVm vm₁, locs, k, 6 * k⟩ av.toArray := by
    refine ⟨?_, ?_, rfl, ?_, ?_⟩
    · show k + k2 ≤ R.cells
      omega
    · show 6 * k + 6 * k2 ≤ R.slots
      omega
    · show HqE G M T.heap
      rw [hT]; exact hH.1
    · exact State.WarmedH.trans hwm X₁.warmed
  have e6 : 6 * k + 6 * k2 = 6 * (k + k2) := by omega
  rcases x_backE (e := e) (below := below) (args := args) C hl hd hC m meth c ⟨T.setVm vm₁, locs, k, 6 * k⟩ (F0 m pc ls rest) ig mk av.toArray X₁ rfl (hL.1.trans hml.symm) hd9 (lv_room hW) hnm hpre with
    ⟨v, ⟨U', l2, c2, s2⟩, X', ⟨g', mk', u, L, e1, e2, hq, h1, hLl, h2, h3⟩, hsteps⟩ | ⟨q, ⟨U', l2, c2, s2⟩, X', ⟨g', mk', u, L, E, ce, e1, e2, hq, hce, hcv, hcl, h1, hLl, h2, h3⟩, hsteps⟩
  · dsimp only [Pt.U, Pt.locs, Pt.cells, Pt.slots] at X' e1 e2 h1 h2 h3 hsteps
    subst h1; subst h2; subst h3
    rw [e6] at X'
    obtain ⟨v', M2, ho, hv', hPM, hE⟩ := hq
    cases hv'
    refine Or.inl ⟨v, M2, U', L, ho, hPM, X', ⟨by rw [e1]; exact hE, X'.same.2.1, fun z hz => ?_⟩, st1 _ fun acts => by rw [doInvoke_state]; exact hsteps⟩
    rcases List.mem_append.mp hz with h | h
    · exact hH.2.2 z h
    · exact hLl z h
  · dsimp only [Pt.U, Pt.locs, Pt.cells, Pt.slots] at X' e1 e2 h1 h2 h3 hsteps hcl
    subst h1; subst h2; subst h3
    rw [e6] at X'
    obtain ⟨M2, ho, hPM, hE⟩ := hq
    refine Or.inr ⟨E, M2, q, ce, U', L, ho, hPM, X', ⟨by rw [e1]; exact hE, X'.same.2.1, fun z hz => ?_⟩, by rw [e1]; exact hce, hcv, vx_cls X₁.warmed hcl, st1 _ fun acts => by rw [doInvoke_state]; exact hsteps⟩
    rcases List.mem_append.mp hz with h | h
    · exact hH.2.2 z h
    · exact hLl z h
theorem x_callVe {y2 : Mt} {d2 k2 np idx : Nat} {q : Ky} {ci : Nat} {u : u_T × Nat} {As rest : List Value} {v : Option Value} (hC : Ce G y2 d2 (.ref (ga G q) :: As) M (.inl v) P k2) (hi : tget (yT y) pc = some (.invokevirtual idx, n, t)) (hn : pc + 3 = n) (hl : LkV (yC y) idx y2 np)
    (hs : shp q.1 = some (.inl ci)) (hcl : vwCl[ci]? = some ((yN y2).cls, u)) (hc : q.2 < cnt q.1) (hnp : As.length = np) (hst : st = As.reverse ++ .ref (ga G q) :: rest) (hW : (rest.map fun v => v.category).sum ≤ 8) (hd : d2 + 1 ≤ d) (hk : k + k2 ≤ kf)
    (kk : ∀ M2 : Mm, P M2 → Fr G y d kf Z (k + k2) n lv (v.toList ++ rest) M2) : Fr G y d kf Z k pc lv st M := by
  intro p e R s m args below meth c H locs ls C hx hH hL T hT X
  subst hn
  rw [hst]
  rcases x_behindE C hl.1 hd hC hk hi hW hH hL hT (x_goesV C hl hi hs hcl hc hnp hH hT X) with ⟨v', M2, T', L, ho, hP, X', hH', hsteps⟩ | ⟨E, M2, q', ce, T', L, ho, -⟩
  · cases ho
    obtain ⟨t2, a1, b1⟩ := kk M2 hP p e R s m args below meth c T'.heap (locs ++ L) ls C hx hH' hL T' rfl X'
    exact ⟨t2, hsteps.trans a1, b1⟩
  · cases ho
theorem x_throwVe {y2 : Mt} {d2 k2 np idx : Nat} {q : Ky} {ci : Nat} {u : u_T × Nat} {As rest : List Value} {E : String} (hC : Ce G y2 d2 (.ref (ga G q) :: As) M (.inr E) P k2) (hi : tget (yT y) pc = some (.invokevirtual idx, n, t)) (hn : pc + 3 = n) (hl : LkV (yC y) idx y2 np)
    (hs : shp q.1 = some (.inl ci)) (hcl : vwCl[ci]? = some ((yN y2).cls, u)) (hc : q.2 < cnt q.1) (hnp : As.length = np) (hst : st = As.reverse ++ .ref (ga G q) :: rest) (hW : (rest.map fun v => v.category).sum ≤ 8) (hd : d2 + 1 ≤ d) (hk : k + k2 ≤ kf) (hP2 : ∀ M2, P M2 → P2 M2) :
    Fr G y d kf (Ze G (.inr E) P2 kf) k pc lv st M := by
  intro p e R s m args below meth c H locs ls C hx hH hL T hT X
  subst hn
  rw [hst]
  rcases x_behindE C hl.1 hd hC hk hi hW hH hL hT (x_goesV C hl hi hs hcl hc hnp hH hT X) with ⟨v', M2, T', L, ho, -⟩ | ⟨E', M2, q', ce, T', L, ho, hPM, X', hH', hce, hcv, hcls, hsteps⟩
  · cases ho
  · cases ho
    have hlk : meth.locks = false := C.2.2.2.2.2.1
    obtain ⟨t2, a1, b1⟩ := vx_out (Qc := Qce G (.inr E) P2) (XC := XCe G (.inr E) P2) (free := fun z => gb G ≤ z) (mc := kf) (ms := 6 * kf) (pc := pc) (ls := ls) (rest := rest) (fun x h => (hx x h).elim) hlk hce hcv hcls (fun w hw _ => ⟨M2, rfl, hP2 _ hPM, by rw [hw]; exact hH'.1⟩) hH'.2.2 hk (by omega) T' rfl X'
    exact ⟨t2, hsteps.trans a1, b1⟩
end XF
