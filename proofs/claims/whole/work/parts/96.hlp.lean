/-! METHODS THAT CATCH: their contracts, their calls, what they catch -/
def Hh (hh : List (Nat × Nat × Nat × Nat)) : Method → Code → Prop := fun _ c => c.exceptionTable.toList = tableOf hh
def Qhc (G : Gd) (Q : Int32 → Mm → Prop) : Array Value → State → Outcome → State → Prop := fun _ _ oc t => ∃ v M', oc = .returned (some (.int v)) ∧ Q v M' ∧ HqE G M' t.heap
def Zh (G : Gd) (Q : Int32 → Mm → Prop) (kf : Nat) : Zt := fun below args s => MQ below (Qhc G Q) args s kf (6 * kf) (fun q => gb G ≤ q)
def Ch (hh : List (Nat × Nat × Nat × Nat)) (G : Gd) (y : Mt) (d : Nat) (av : List Value) (M : Mm) (Q : Int32 → Mm → Prop) (kf : Nat) : Prop :=
  Met (gl G) (yN y) [.codeWith (yN y) (yB y) (yL y) (yR y) hh] (rmO d kf) (Pcc G av M) (Qhc G Q) kf (6 * kf) (fun q => gb G ≤ q)
/-- what the tables say where a class's method that catches is called -/
def LkH (hh : List (Nat × Nat × Nat × Nat)) (own idx : Nat) (y2 : Mt) (np : Nat) : Prop :=
  Cond.methodLink (cnm own) idx (yN y2) ∈ lw_tbl ∧ Cond.initialized (yN y2).cls ∈ lw_tbl ∧ Cond.codeWith (yN y2) (yB y2) (yL y2) (yR y2) hh ∈ lw_tbl ∧
  ((yN y2).cls ≠ "java/lang/invoke/MethodHandle" ∧ (yN y2).cls ≠ "java/lang/invoke/VarHandle") ∧ (parseMethodDescriptor (yN y2).desc).map (fun d => d.parameters.length) = some np ∧ yL y2 ≤ 45 ∧ Cond.static (yN y2) ∈ lw_tbl
/-- an IllegalStateException is no IllegalArgumentException -/
def Nc (G : Gd) : Prop := ∀ c1 c2 : ClassId, (gs G).vm.findClass ISE = some c1 → (gs G).vm.findClass IAE = some c2 → (gs G).vm.assignable c1 c2 = false
def Hit (E : String) (c : Nat) : Prop := (c = 22 ∧ E = IAE) ∨ (c = 13 ∧ E = ISE)
def Miss (E : String) (c : Nat) : Prop := c = 22 ∧ E = ISE
theorem w_l13 : Cond.classLink (cnm 10) 13 ISE ∈ lw_tbl := (List.mem_of_getElem? (i := 526) (by decide +kernel))
theorem w_l22 : Cond.classLink (cnm 10) 22 IAE ∈ lw_tbl := (List.mem_of_getElem? (i := 623) (by decide +kernel))
theorem w_cS : Cond.castable ISE ISE ∈ lw_tbl := (List.mem_of_getElem? (i := 533) (by decide +kernel))
theorem w_cA : Cond.castable IAE IAE ∈ lw_tbl := (List.mem_of_getElem? (i := 630) (by decide +kernel))
section XH9
variable {G : Gd} {y : Mt} {hp : Method → Code → Prop} {d kf : Nat} {Z : Zt} {k pc n t : Nat} {lv lv' : List (Nat × Value)} {st : List Value} {M M' : Mm} {P : Mm → Prop} {Q : Int32 → Mm → Prop}
theorem ch_of {hh : List (Nat × Nat × Nat × Nat)} {av : List Value} (hG : Gok G) (ok : okT y) (hp : plainName (yN y).cls = true) (hc : (yN y).cls = cnm (yC y)) (hl : (lg_sl av).length ≤ yL y)
    (body : Fb G y (Hh hh) d kf (Zh G Q kf) 0 0 (lv_args 0 av) [] (HqE G M)) : Ch hh G y d av M Q kf := by
  refine va_MetW (cc := yB y) (maxL := yL y) (ret := yR y) (hh := hh) hp rfl ?_
  intro p e s m args below meth c s₁ B hml hP
  obtain ⟨rfl, hH, hW⟩ := hP
  have hown : s.vm.findClass (cnm (yC y)) = some m.cls := by rw [← hc]; exact findClass_of_methodNamed B.named
  have htab : c.exceptionTable.toList = tableOf hh := vx_table (x := yN y) B (atoms_spec (ws := [Cond.codeWith (yN y) (yB y) (yL y) (yR y) hh]) B.pre _ List.mem_cons_self)
  rw [lg_entry_eq]
  exact body p e _ s m _ below meth c s.heap [] _ ⟨hG, ok, B.exec, B.bytes, B.returns, B.notSynchronized, hml, hown, hW, hH.2.1, hH.2.2, Nat.le_refl _, Nat.le_refl _, Nat.le_refl _, Nat.le_refl _⟩ htab ⟨hH, Nat.le_refl _, fun z h => by cases h⟩ (lv_entry av hl)
theorem b_iretH {v : Int32} (hQ : Q v M) (hi : tget (yT y) pc = some (.ireturn, n, t)) (hn : pc + 1 = n) (hr : yR y = some .int) (hk : k ≤ kf) : Fb G y hp d kf (Zh G Q kf) k pc lv [.int v] (HqE G M) := by
  intro p e R s m args below meth c H locs ls C hx hH hL
  obtain ⟨hg, hok, ha, hb, hret, hlk, hml, hown, hwm, -⟩ := id C
  have hd := (hok.get hi).1
  subst hn
  rw [Nat.add_sub_cancel_left] at hd
  exact W.widen hk (by omega) (W.iret ha hb (hret.trans hr) (fun u hu hW => ⟨_, M, rfl, hQ, by rw [hu]; exact hH.1⟩) hH.2.2 hd hlk)
/-- an object's method is called, and returns -/
theorem b_callVe {y2 : Mt} {d2 k2 np idx : Nat} {q : Ky} {ci : Nat} {u : u_T × Nat} {As rest : List Value} {v : Option Value} (hC : Ce G y2 d2 (.ref (ga G q) :: As) M (.inl v) P k2) (hi : tget (yT y) pc = some (.invokevirtual idx, n, t)) (hn : pc + 3 = n) (hl : LkV (yC y) idx y2 np)
    (hs : shp q.1 = some (.inl ci)) (hcl : vwCl[ci]? = some ((yN y2).cls, u)) (hc : q.2 < cnt q.1) (hnp : As.length = np) (hst : st = As.reverse ++ .ref (ga G q) :: rest) (hW : (rest.map fun v => v.category).sum ≤ 8) (hd : d2 + 1 ≤ d) (hk : k + k2 ≤ kf)
    (kk : ∀ M2 : Mm, P M2 → Fb G y hp d kf Z (k + k2) n lv (v.toList ++ rest) (HqE G M2)) : Fb G y hp d kf Z k pc lv st (HqE G M) := by
  intro p e R s m args below meth c H locs ls C hx hH hL T hT X
  subst hn
  rw [hst]
  rcases x_behindE C hl.1 hd hC hk hi hW hH hL hT (x_goesV C hl hi hs hcl hc hnp hH hT X) with ⟨v', M2, T', L, ho, hP, X', hH', hsteps⟩ | ⟨E, M2, q', ce, T', L, ho, -⟩
  · cases ho
    obtain ⟨t2, a1, b1⟩ := kk M2 hP p e R s m args below meth c T'.heap (locs ++ L) ls C hx hH' hL T' rfl X'
    exact ⟨t2, hsteps.trans a1, b1⟩
  · cases ho
/-- .. and throws: this method catches -/
theorem b_catchV {hh pre post : List (Nat × Nat × Nat × Nat)} {a b hpc ct : Nat} {y2 : Mt} {d2 k2 np idx : Nat} {q : Ky} {ci : Nat} {u : u_T × Nat} {As rest : List Value} {E : String} (hN : Nc G) (hC : Ce G y2 d2 (.ref (ga G q) :: As) M (.inr E) P k2) (hi : tget (yT y) pc = some (.invokevirtual idx, n, t)) (hn : pc + 3 = n) (hl : LkV (yC y) idx y2 np)
    (hs : shp q.1 = some (.inl ci)) (hcl : vwCl[ci]? = some ((yN y2).cls, u)) (hc : q.2 < cnt q.1) (hnp : As.length = np) (hst : st = As.reverse ++ .ref (ga G q) :: rest) (hW : (rest.map fun v => v.category).sum ≤ 8) (hd : d2 + 1 ≤ d) (hk : k + k2 ≤ kf)
    (hy : yC y = 10) (hsp : hh = pre ++ (a, b, hpc, ct) :: post) (hab : a ≤ pc ∧ pc < b) (hhit : Hit E ct) (hmiss : ∀ z ∈ pre, (z.1 ≤ pc ∧ pc < z.2.1) ∧ Miss E z.2.2.2)
    (kk : ∀ (z : Nat) (M2 : Mm), P M2 → Fb G y (Hh hh) d kf Z (k + k2) hpc lv [.ref z] (HqE G M2)) : Fb G y (Hh hh) d kf Z k pc lv st (HqE G M) := by
  intro p e R s m args below meth c H locs ls C hx hH hL T hT X
  subst hn
  rw [hst]
  obtain ⟨hg, hok, ha, hb, hret, hlk, hml, hown, hwm, -⟩ := id C
  rw [hy] at hown
  rcases x_behindE C hl.1 hd hC hk hi hW hH hL hT (x_goesV C hl hi hs hcl hc hnp hH hT X) with ⟨v', M2, T', L, ho, -⟩ | ⟨E', M2, q', ce, T', L, ho, hP, X', hH', hce, hcv, hcls, hsteps⟩
  · cases ho
  · cases ho
    have hpl : e.platform.magicAccessors = ({} : Platform).magicAccessors := by rw [X.admits.platform]
    have hit : ∀ (E : String) (c9 : Nat), s.vm.findClass E = some ce.cls → Hit E c9 → c9 ≠ 0 ∧ ∃ cT, s.vm.ClassLinks e.platform m.cls c9 cT ∧ s.vm.assignable ce.cls cT = true := by
      intro E c9 hcE hh9
      rcases hh9 with ⟨rfl, rfl⟩ | ⟨rfl, rfl⟩
      · obtain ⟨cT, h1, h2⟩ := Cond.classLink_spec hown (hg.1 _ w_l22 rfl args s hwm) e.platform hpl
        obtain ⟨c1, c2, h3, h4, h5⟩ := Cond.castable_spec (hg.1 _ w_cA rfl args s hwm)
        cases h1.symm.trans hcE
        cases h3.symm.trans hcE
        cases h4.symm.trans hcE
        exact ⟨by decide, _, h2, h5⟩
      · obtain ⟨cT, h1, h2⟩ := Cond.classLink_spec hown (hg.1 _ w_l13 rfl args s hwm) e.platform hpl
        obtain ⟨c1, c2, h3, h4, h5⟩ := Cond.castable_spec (hg.1 _ w_cS rfl args s hwm)
        cases h1.symm.trans hcE
        cases h3.symm.trans hcE
        cases h4.symm.trans hcE
        exact ⟨by decide, _, h2, h5⟩
    have miss : ∀ (E : String) (c9 : Nat), s.vm.findClass E = some ce.cls → Miss E c9 → c9 ≠ 0 ∧ ∃ cT, s.vm.ClassLinks e.platform m.cls c9 cT ∧ s.vm.assignable ce.cls cT = false := by
      intro E c9 hcE hh9
      obtain ⟨rfl, rfl⟩ := hh9
      obtain ⟨cT, h1, h2⟩ := Cond.classLink_spec hown (hg.1 _ w_l22 rfl args s hwm) e.platform hpl
      refine ⟨by decide, _, h2, ?_⟩
      rw [hwm.alike.assignable]
      refine hN _ _ ?_ ?_
      · rw [← hwm.alike.findClass]; exact hcE
      · rw [← hwm.alike.findClass]; exact h1
    have hk9 : ∃ k, s.vm.classes[ce.cls]? = some k := Vm.classAt_of_findClass hcls
    have htab : c.exceptionTable.toList = tableOf pre ++ (⟨a, b, hpc, ct⟩ : ExceptionTableEntry) :: tableOf post := by
      have h9 : c.exceptionTable.toList = tableOf hh := hx
      rw [h9, hsp]
      simp [tableOf]
    obtain ⟨vm', X2, st2⟩ := g_catch (ls := ls) (rest := rest) (pc := pc) X' hce hcv hk9 (tableOf pre) ⟨a, b, hpc, ct⟩ (tableOf post) htab ⟨by simp [covers, hab.1, hab.2], hit E ct hcls hhit⟩ (fun z hz => by
      obtain ⟨w, hw, rfl⟩ := List.mem_map.mp hz
      obtain ⟨⟨h1, h2⟩, h3⟩ := hmiss w hw
      exact ⟨by simp [covers, h1, h2], miss E _ hcls h3⟩)
    obtain ⟨t2, a1, b1⟩ := kk q' M2 hP p e R s m args below meth c T'.heap (locs ++ L) ls C hx hH' hL (T'.setVm vm') rfl X2
    exact ⟨t2, (hsteps.trans (st2 _ (Steps.refl _))).trans a1, b1⟩
theorem b_backH {hh : List (Nat × Nat × Nat × Nat)} {y2 : Mt} {d2 k2 np idx : Nat} {av : List Value} {p : Program} {e : Env} {R : Room} {s : State} {m : MethodId} {args : Array Value} {below : List Frame} {meth : Method} {c : Code}
    (C : Cx G y d kf p R s m meth c) (hl : LkH hh (yC y) idx y2 np) (hd : d2 + 1 ≤ d) (hC : Ch hh G y2 d2 av M Q k2) :
    Back (gl G) R p e below s args (yN y2) 3 8 (PreOf R k2 (6 * k2) (Pcc G av M)) (PostOf (Qhc G Q) k2 (6 * k2) (fun q => gb G ≤ q)) := by
  obtain ⟨hg, hok, ha, hb, hret, hlk, hml, hown, hwm, hs1, hs2, hR1, hR2, hR3, hR4⟩ := id C
  obtain ⟨-, hini, hcd, -, -, hmx, -⟩ := hl
  refine va_backW (bytes := yB y2) (maxL := yL y2) (ret := yR y2) (hh := hh) hC (Pcc_blind G av M) rfl rfl ?_ ?_ ?_ List.mem_cons_self ?_
  · show d2 + 1 ≤ R.frames
    omega
  · show 8 + (yL y2 + 11) + 64 * d2 ≤ R.locals
    omega
  · intro w hw a' U hWU
    rw [List.mem_singleton.mp hw]
    exact hg.1 _ hcd rfl a' U (State.WarmedH.trans hwm hWU)
  · intro a' U hWU
    exact hg.1 _ hini rfl a' U (State.WarmedH.trans hwm hWU)
/-- a method that catches is called -/
theorem b_callH {hh : List (Nat × Nat × Nat × Nat)} {y2 : Mt} {d2 k2 np idx : Nat} {As rest : List Value} (hC : Ch hh G y2 d2 As M Q k2) (hi : tget (yT y) pc = some (.invokestatic idx, n, t)) (hn : pc + 3 = n) (hl : LkH hh (yC y) idx y2 np)
    (hnp : As.length = np) (hst : st = As.reverse ++ rest) (hW : (rest.map fun v => v.category).sum ≤ 8) (hd : d2 + 1 ≤ d) (hk : k + k2 ≤ kf)
    (kk : ∀ (v : Int32) (M2 : Mm), Q v M2 → Fb G y hp d kf Z (k + k2) n lv (.int v :: rest) (HqE G M2)) : Fb G y hp d kf Z k pc lv st (HqE G M) := by
  intro p e R s m args below meth c H locs ls C hx hH hL T hT X
  subst hn
  rw [hst]
  obtain ⟨hg, hok, ha, hb, hret, hlk, hml, hown, hwm, hs1, hs2, hR1, hR2, hR3, hR4⟩ := id C
  obtain ⟨hlink, hini, hcd, hy, hpd, -, hst9⟩ := id hl
  have hd9 := (hok.get hi).1
  rw [Nat.add_sub_cancel_left, ← hb] at hd9
  have hcode := hg.1 _ hcd rfl args s hwm
  obtain ⟨mk, methM, cM, hnamed, hmethM, hcM, -, -, -, -, -, hsigM⟩ := Cond.codeWith_spec hcode
  have hstatic : methM.isStatic = true := Cond.static_spec hnamed hmethM (hg.1 _ hst9 rfl args s hwm)
  obtain ⟨kP, hkP, -⟩ := className_of_methodNamed hnamed
  have hinitP : kP.init = .initialized := Cond.initialized_spec (findClass_of_methodNamed hnamed) hkP (hg.1 _ hini rfl args s hwm)
  have hlen : As.length = methM.sig.parameters.length := by
    rw [hsigM] at hpd
    rw [hnp]
    exact (Option.some.inj hpd).symm
  obtain ⟨vm₁, X₁, st1⟩ := X.invokestatic ha hown (hg.1 _ hlink rfl args s hwm) hnamed hmethM hstatic hkP hinitP hy (g := F0 m pc ls (As.reverse ++ rest)) rfl (argsL := As) (rest := rest) hlen rfl hd9
  have hpre : PreOf R k2 (6 * k2) (Pcc G As M) ⟨T.setVm vm₁, locs, k, 6 * k⟩ As.toArray := by
    refine ⟨?_, ?_, rfl, ?_, ?_⟩
    · show k + k2 ≤ R.cells
      omega
    · show 6 * k + 6 * k2 ≤ R.slots
      omega
    · show HqE G M T.heap
      rw [hT]; exact hH.1
    · exact State.WarmedH.trans hwm X₁.warmed
  have e6 : 6 * k + 6 * k2 = 6 * (k + k2) := by omega
  obtain ⟨v, ⟨U', l2, c2, s2⟩, X', ⟨g', mk', u, L, e1, e2, hq, h1, hLl, h2, h3⟩, hsteps⟩ := b_backH (e := e) (below := below) (args := args) C hl hd hC m meth c ⟨T.setVm vm₁, locs, k, 6 * k⟩ (F0 m pc ls rest) (.invokestatic idx) mk As.toArray X₁ rfl (hL.1.trans hml.symm) hd9 (lv_room hW) (X₁.named hnamed) hpre
  dsimp only [Pt.U, Pt.locs, Pt.cells, Pt.slots] at X' e1 e2 h1 h2 h3 hsteps
  subst h1; subst h2; subst h3
  rw [e6] at X'
  obtain ⟨v', M2, hv', hQM, hE⟩ := hq
  cases hv'
  obtain ⟨t2, a1, b1⟩ := kk v' M2 hQM p e R s m args below meth c U'.heap (locs ++ L) ls C hx ⟨by rw [e1]; exact hE, X'.same.2.1, fun z hz => by
      rcases List.mem_append.mp hz with h | h
      · exact hH.2.2 z h
      · exact hLl z h⟩ hL U' rfl X'
  exact ⟨t2, (st1 _ fun acts => by rw [doInvoke_state]; exact hsteps).trans a1, b1⟩
end XH9
