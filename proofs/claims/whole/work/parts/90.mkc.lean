/-! CONTRACTS OF CONSTRUCTORS: from one picture of the heap to another -/
def Pcb (G : Gd) (av : List Value) (J : Heap → Prop) : Array Value → State → Prop := fun v U => v = av.toArray ∧ J U.heap ∧ (gs G).WarmedH U.vm
def Qcb (J' : Heap → Prop) : Array Value → State → Outcome → State → Prop := fun _ _ oc t => oc = .returned none ∧ J' t.heap
def Zb (G : Gd) (J' : Heap → Prop) (kf : Nat) : Zt := fun below args s => vx_MQ below (Qcb J') (fun _ _ _ => False) args s kf (6 * kf) (fun q => gb G ≤ q)
def Cb (G : Gd) (y : Mt) (d : Nat) (av : List Value) (J J' : Heap → Prop) (kf : Nat) : Prop :=
  vx_Met (gl G) (yN y) [.code (yN y) (yB y) (yL y) (yR y)] (rmO d kf) (Pcb G av J) (Qcb J') (fun _ _ _ => False) kf (6 * kf) (fun q => gb G ≤ q)
theorem Pcb_blind (G : Gd) (av : List Value) (J : Heap → Prop) : FrameBlind (Pcb G av J) := fun _ _ _ _ h => h
/-- what the tables say where a constructor is called -/
def LkI (own idx : Nat) (y2 : Mt) (np : Nat) : Prop := LkM own idx y2 np ∧ Cond.instanceMethod (yN y2) ∈ lw_tbl ∧ (yN y2).name = "<init>" ∧ yR y2 = none
section XN
variable {G : Gd} {y : Mt} {hp : Method → Code → Prop} {d kf : Nat} {Z : Zt} {k pc n t : Nat} {lv lv' : List (Nat × Value)} {st : List Value} {J J' J2 : Heap → Prop}
theorem cb_of {av : List Value} (hJ : ∀ H, J H → (∀ q : Nat, q < gb G → H[q]? = (gH G)[q]?) ∧ gb G ≤ H.size) (hG : Gok G) (ok : okT y) (hp : plainName (yN y).cls = true) (hc : (yN y).cls = cnm (yC y)) (hnm : (yN y).name = "<init>") (hl : (lg_sl av).length ≤ yL y)
    (body : Fb G y inH d kf (Zb G J' kf) 0 0 (lv_args 0 av) [] J) : Cb G y d av J J' kf := by
  refine vx_ofW (cc := yB y) (maxL := yL y) (ret := yR y) hp rfl ?_
  intro p e s m args below meth c s₁ B hml ht hP
  obtain ⟨rfl, hH, hW⟩ := hP
  have hown : s.vm.findClass (cnm (yC y)) = some m.cls := by rw [← hc]; exact findClass_of_methodNamed B.named
  have hmn : meth.name = "<init>" := by rw [(name_of_methodNamed B.named B.method).1]; exact hnm
  rw [lg_entry_eq]
  exact body p e _ s m _ below meth c s.heap [] _ ⟨hG, ok, B.exec, B.bytes, B.returns, B.notSynchronized, hml, hown, hW, (hJ _ hH).1, (hJ _ hH).2, Nat.le_refl _, Nat.le_refl _, Nat.le_refl _, Nat.le_refl _⟩ ⟨ht, hmn⟩ ⟨hH, Nat.le_refl _, fun z h => by cases h⟩ (lv_entry av hl)
theorem b_vret (hi : tget (yT y) pc = some (.return_, n, t)) (hn : pc + 1 = n) (hr : yR y = none) (hk : k ≤ kf) : Fb G y hp d kf (Zb G J kf) k pc lv [] J := by
  intro p e R s m args below meth c H locs ls C hx hH hL
  obtain ⟨hg, hok, ha, hb, hret, hlk, hml, hown, hwm, -⟩ := id C
  have hd := (hok.get hi).1
  subst hn
  rw [Nat.add_sub_cancel_left] at hd
  exact W.widen hk (by omega) (vx_ret (W.vret ha hb (hret.trans hr) (fun u hu hW => ⟨rfl, by rw [hu]; exact hH.1⟩) hH.2.2 hd hlk))
theorem b_back {y2 : Mt} {d2 k2 np idx : Nat} {av : List Value} {p : Program} {e : Env} {R : Room} {s : State} {m : MethodId} {args : Array Value} {below : List Frame} {meth : Method} {c : Code}
    (C : Cx G y d kf p R s m meth c) (hl : LkM (yC y) idx y2 np) (hd : d2 + 1 ≤ d) (hC : Cb G y2 d2 av J J2 k2) :
    vx_Back (gl G) R p e below s args (yN y2) 3 8 (PreOf R k2 (6 * k2) (Pcb G av J)) (PostOf (Qcb J2) k2 (6 * k2) (fun q => gb G ≤ q)) (vx_Post (fun _ _ _ => False) k2 (6 * k2) (fun q => gb G ≤ q)) := by
  obtain ⟨hg, hok, ha, hb, hret, hlk, hml, hown, hwm, hs1, hs2, hR1, hR2, hR3, hR4⟩ := id C
  obtain ⟨-, hini, hcd, -, -, hmx⟩ := hl
  refine vx_back (bytes := yB y2) (maxL := yL y2) (ret := yR y2) hC (Pcb_blind G av J) rfl rfl ?_ ?_ ?_ List.mem_cons_self ?_
  · show d2 + 1 ≤ R.frames
    omega
  · show 8 + (yL y2 + 11) + 64 * d2 ≤ R.locals
    omega
  · intro w hw a' U hWU
    rw [List.mem_singleton.mp hw]
    exact hg.1 _ hcd rfl a' U (State.WarmedH.trans hwm hWU)
  · intro a' U hWU
    exact hg.1 _ hini rfl a' U (State.WarmedH.trans hwm hWU)
theorem b_goesI {y2 : Mt} {np idx a : Nat} {As rest : List Value} {p : Program} {e : Env} {R : Room} {s T : State} {m : MethodId} {args : Array Value} {below : List Frame} {meth : Method} {c : Code} {locs : List Loc} {ls : Array Slot}
    (C : Cx G y d kf p R s m meth c) (hl : LkI (yC y) idx y2 np) (hi : tget (yT y) pc = some (.invokespecial idx, pc + 3, t)) (hnp : As.length = np) (X : Stand p (gl G) e R s m args below meth c T locs k (6 * k)) :
    ∃ (vm₁ : Vm) (mk : MethodId), Stand p (gl G) e R s m args below meth c (T.setVm vm₁) locs k (6 * k) ∧ (T.setVm vm₁).methodNamed? (yN y2) = some mk ∧
      ∀ target, (∀ acts, Steps p.tables e below (doInvoke e ((T.setVm vm₁).setTop (F0 m pc ls rest)) acts mk (Value.ref a :: As).toArray).1 target) → Steps p.tables e below (T.setTop (F0 m pc ls (As.reverse ++ .ref a :: rest))) target := by
  obtain ⟨hg, hok, ha, hb, hret, hlk, hml, hown, hwm, -⟩ := id C
  obtain ⟨⟨hlink, hini, hcd, hy, hpd, -⟩, hin, hnm, hr⟩ := hl
  have hd9 := (hok.get hi).1
  rw [Nat.add_sub_cancel_left, ← hb] at hd9
  have hpl : e.platform.magicAccessors = ({} : Platform).magicAccessors := by rw [X.admits.platform]
  have hcode := hg.1 _ hcd rfl args s hwm
  rw [hr] at hcode
  have hlen : ∀ sig, parseMethodDescriptor (yN y2).desc = some sig → As.length = sig.parameters.length := fun sig hsig => by
    rw [hsig] at hpd
    rw [hnp]
    exact (Option.some.inj hpd).symm
  rcases hlink with hw | ⟨ho, hw⟩
  · obtain ⟨mk, methM, cM, kP, vm₁, hnamed, -, -, -, -, -, -, -, hW₁, st1⟩ := Steps.initColdArgs (e := e) X.here ha X.warmed hpl hown hnm hy (hg.1 _ hw rfl args s hwm) (hg.1 _ hin rfl args s hwm) hcode (f := F0 m pc ls (As.reverse ++ .ref a :: rest)) rfl (a := a) (argsL := As) (rest := rest) hlen rfl hd9
    have X₁ := X.noted hW₁
    exact ⟨vm₁, mk, X₁, X₁.named hnamed, st1⟩
  · obtain ⟨mk, methM, cM, kP, vm₁, hnamed, -, -, -, -, -, -, -, hW₁, st1⟩ := Steps.initColdArgsNest (e := e) X.here ha X.warmed hpl hown hnm hy (hg.1 _ hw rfl args s hwm) (hg.1 _ hin rfl args s hwm) hcode (f := F0 m pc ls (As.reverse ++ .ref a :: rest)) rfl (a := a) (argsL := As) (rest := rest) hlen rfl hd9
    have X₁ := X.noted hW₁
    exact ⟨vm₁, mk, X₁, X₁.named hnamed, st1⟩
/-- a constructor is called -/
theorem b_callI {y2 : Mt} {d2 k2 np idx a : Nat} {As rest : List Value} (hC : Cb G y2 d2 (.ref a :: As) J J2 k2) (hi : tget (yT y) pc = some (.invokespecial idx, n, t)) (hn : pc + 3 = n) (hl : LkI (yC y) idx y2 np) (hnp : As.length = np) (hst : st = As.reverse ++ .ref a :: rest) (hW : (rest.map fun v => v.category).sum ≤ 8) (hd : d2 + 1 ≤ d) (hk : k + k2 ≤ kf)
    (kk : Fb G y hp d kf Z (k + k2) n lv rest J2) : Fb G y hp d kf Z k pc lv st J := by
  intro p e R s m args below meth c H locs ls C hx hH hL T hT X
  subst hn
  rw [hst]
  obtain ⟨hg, hok, ha, hb, hret, hlk, hml, hown, hwm, hs1, hs2, hR1, hR2, hR3, hR4⟩ := id C
  have hd9 := (hok.get hi).1
  rw [Nat.add_sub_cancel_left, ← hb] at hd9
  obtain ⟨vm₁, mk, X₁, hnm, st1⟩ := b_goesI (ls := ls) (rest := rest) (a := a) C hl hi hnp X
  have hpre : PreOf R k2 (6 * k2) (Pcb G (.ref a :: As) J) ⟨T.setVm vm₁, locs, k, 6 * k⟩ (Value.ref a :: As).toArray := by
    refine ⟨?_, ?_, rfl, ?_, ?_⟩
    · show k + k2 ≤ R.cells
      omega
    · show 6 * k + 6 * k2 ≤ R.slots
      omega
    · show J T.heap
      rw [hT]; exact hH.1
    · exact State.WarmedH.trans hwm X₁.warmed
  have e6 : 6 * k + 6 * k2 = 6 * (k + k2) := by omega
  rcases b_back (e := e) (below := below) (args := args) C hl.1 hd hC m meth c ⟨T.setVm vm₁, locs, k, 6 * k⟩ (F0 m pc ls rest) (.invokespecial idx) mk (Value.ref a :: As).toArray X₁ rfl (hL.1.trans hml.symm) hd9 (lv_room hW) hnm hpre with
    ⟨v, ⟨U', l2, c2, s2⟩, X', ⟨g', mk', u, L, e1, e2, hq, h1, hLl, h2, h3⟩, hsteps⟩ | ⟨q, ⟨U', l2, c2, s2⟩, X', ⟨g', mk', u, L, E, ce, e1, e2, hq, hce, hcv, hcl, h1, hLl, h2, h3⟩, hsteps⟩
  · dsimp only [Pt.U, Pt.locs, Pt.cells, Pt.slots] at X' e1 e2 h1 h2 h3 hsteps
    subst h1; subst h2; subst h3
    rw [e6] at X'
    obtain ⟨hv, hE⟩ := hq
    cases hv
    obtain ⟨t2, a1, b1⟩ := kk p e R s m args below meth c U'.heap (locs ++ L) ls C hx ⟨by rw [e1]; exact hE, X'.same.2.1, fun z hz => by
      rcases List.mem_append.mp hz with h | h
      · exact hH.2.2 z h
      · exact hLl z h⟩ hL U' rfl X'
    exact ⟨t2, (st1 _ fun acts => by rw [doInvoke_state]; exact hsteps).trans a1, b1⟩
  · exact hq.elim
theorem jb_low {n0 : Nat} {E : Ex} : ∀ H, Jb G n0 E H → (∀ q : Nat, q < gb G → H[q]? = (gH G)[q]?) ∧ gb G ≤ H.size := fun H h => ⟨h.2.2, by rw [h.1]; omega⟩
end XN
