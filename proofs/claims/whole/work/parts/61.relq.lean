/-! contracts that say of what is given back, and of the memory, only what Q says -/
def Qcq (G : Gd) (Q : Option Value → Mm → Prop) : Array Value → State → Outcome → State → Prop := fun _ _ oc t => ∃ v M', oc = .returned v ∧ Q v M' ∧ HqE G M' t.heap
def XCq : String → State → State → Prop := fun _ _ _ => False
def Zq (G : Gd) (Q : Option Value → Mm → Prop) (kf : Nat) : Zt := fun below args s => vx_MQ below (Qcq G Q) XCq args s kf (6 * kf) (fun q => gb G ≤ q)
def Cq (G : Gd) (y : Mt) (d : Nat) (av : List Value) (M : Mm) (Q : Option Value → Mm → Prop) (kf : Nat) : Prop :=
  vx_Met (gl G) (yN y) [.code (yN y) (yB y) (yL y) (yR y)] (rmO d kf) (Pcc G av M) (Qcq G Q) XCq kf (6 * kf) (fun q => gb G ≤ q)
section XQ
variable {G : Gd} {y : Mt} {d kf : Nat} {Z : Zt} {k pc n t : Nat} {lv lv' : List (Nat × Value)} {st : List Value} {M M' : Mm} {P : Mm → Prop} {Q Q2 : Option Value → Mm → Prop}
theorem Ce.q {av : List Value} {v : Option Value} (h : Ce G y d av M (.inl v) P kf) (hP : ∀ M', P M' → Q v M') : Cq G y d av M Q kf := by
  refine Met_mono h fun a s oc t hq => ?_
  rcases hq with ⟨⟨v, M', h1, h2, h5, h3⟩, h4⟩ | ⟨q, h1, E, ce, L, ⟨M', h2, h5, h3⟩, h4⟩
  · cases h1; exact Or.inl ⟨⟨v, M', h2, hP _ h5, h3⟩, h4⟩
  · cases h2
theorem Ct.q {av : List Value} {v : Option Value} (h : Ct G y d av M (.inl v) M' kf) (hP : Q v M') : Cq G y d av M Q kf := Ce.q (P := fun M2 => M2 = M') (Ct.e h rfl) (fun M2 e => by rw [e]; exact hP)
theorem Cq.mono {av : List Value} (h : Cq G y d av M Q kf) (hP : ∀ v M', Q v M' → Q2 v M') : Cq G y d av M Q2 kf := by
  refine Met_mono h fun a s oc t hq => ?_
  rcases hq with ⟨⟨v, M', h1, h2, h3⟩, h4⟩ | ⟨q, h1, E, ce, L, h2, h4⟩
  · exact Or.inl ⟨⟨v, M', h1, hP _ _ h2, h3⟩, h4⟩
  · exact h2.elim
/-- where Q says what is given back -/
theorem Cq.ce {av : List Value} {v : Option Value} (h : Cq G y d av M Q kf) (hP : ∀ w M', Q w M' → w = v ∧ P M') : Ce G y d av M (.inl v) P kf := by
  refine Met_mono h fun a s oc t hq => ?_
  rcases hq with ⟨⟨w, M', h1, h2, h3⟩, h4⟩ | ⟨q, h1, E, ce, L, h2, h4⟩
  · obtain ⟨rfl, h5⟩ := hP _ _ h2
    exact Or.inl ⟨⟨_, M', rfl, h1, h5, h3⟩, h4⟩
  · exact h2.elim
theorem cq_of {av : List Value} (hG : Gok G) (ok : okT y) (hp : plainName (yN y).cls = true) (hc : (yN y).cls = cnm (yC y)) (hl : (lg_sl av).length ≤ yL y)
    (body : Fr G y d kf (Zq G Q kf) 0 0 (lv_args 0 av) [] M) : Cq G y d av M Q kf := by
  refine vx_ofW (cc := yB y) (maxL := yL y) (ret := yR y) hp rfl ?_
  intro p e s m args below meth c s₁ B hml ht hP
  obtain ⟨rfl, hH, hW⟩ := hP
  have hown : s.vm.findClass (cnm (yC y)) = some m.cls := by rw [← hc]; exact findClass_of_methodNamed B.named
  rw [lg_entry_eq]
  exact body p e _ s m _ below meth c s.heap [] _ ⟨hG, ok, B.exec, B.bytes, B.returns, B.notSynchronized, hml, hown, hW, hH.2.1, hH.2.2, Nat.le_refl _, Nat.le_refl _, Nat.le_refl _, Nat.le_refl _⟩ ht ⟨hH, Nat.le_refl _, fun z h => by cases h⟩ (lv_entry av hl)
theorem fr_q {v : Option Value} (h : Fr G y d kf (Zm G (.inl v) M' kf) k pc lv st M) (hP : Q v M') : Fr G y d kf (Zq G Q kf) k pc lv st M := by
  intro p e R s m args below meth c H locs ls C hx hH hL T hT X
  obtain ⟨t2, a1, oc, b1, b2, b3⟩ := h p e R s m args below meth c H locs ls C hx hH hL T hT X
  refine ⟨t2, a1, oc, b1, b2, ?_⟩
  rcases b3 with ⟨⟨w, h1, h2, h3⟩, h4⟩ | ⟨q, h1, E, ce, L, ⟨h2, h3⟩, h4⟩
  · cases h1; exact Or.inl ⟨⟨_, M', h2, hP, h3⟩, h4⟩
  · cases h2
theorem x_backQ {y2 : Mt} {d2 k2 np idx : Nat} {av : List Value} {p : Program} {e : Env} {R : Room} {s : State} {m : MethodId} {args : Array Value} {below : List Frame} {meth : Method} {c : Code}
    (C : Cx G y d kf p R s m meth c) (hl : LkM (yC y) idx y2 np) (hd : d2 + 1 ≤ d) (hC : Cq G y2 d2 av M Q k2) :
    vx_Back (gl G) R p e below s args (yN y2) 3 8 (PreOf R k2 (6 * k2) (Pcc G av M)) (PostOf (Qcq G Q) k2 (6 * k2) (fun q => gb G ≤ q)) (vx_Post XCq k2 (6 * k2) (fun q => gb G ≤ q)) := by
  obtain ⟨hg, hok, ha, hb, hret, hlk, hml, hown, hwm, hs1, hs2, hR1, hR2, hR3, hR4⟩ := id C
  obtain ⟨-, hini, hcd, -, -, hmx⟩ := hl
  refine vx_back (bytes := yB y2) (maxL := yL y2) (ret := yR y2) hC (Pcc_blind G av M) rfl rfl ?_ ?_ ?_ List.mem_cons_self ?_
  · show d2 + 1 ≤ R.frames
    omega
  · show 8 + (yL y2 + 11) + 64 * d2 ≤ R.locals
    omega
  · intro w hw a' U hWU
    rw [List.mem_singleton.mp hw]
    exact hg.1 _ hcd rfl a' U (State.WarmedH.trans hwm hWU)
  · intro a' U hWU
    exact hg.1 _ hini rfl a' U (State.WarmedH.trans hwm hWU)
theorem x_behindQ {y2 : Mt} {d2 k2 np idx : Nat} {av rest : List Value} {ig : Instr} {p : Program} {e : Env} {R : Room} {s T : State} {m : MethodId} {args : Array Value} {below : List Frame} {meth : Method} {c : Code} {H : Heap} {locs : List Loc} {ls : Array Slot} {st0 : List Value}
    (C : Cx G y d kf p R s m meth c) (hl : LkM (yC y) idx y2 np) (hd : d2 + 1 ≤ d) (hC : Cq G y2 d2 av M Q k2) (hk : k + k2 ≤ kf) (hi : tget (yT y) pc = some (ig, pc + 3, t)) (hW : (rest.map fun v => v.category).sum ≤ 8)
    (hH : Hq G M s H locs) (hL : lv_has ls (yL y) lv) (hT : T.heap = H)
    (go : ∃ (vm₁ : Vm) (mk : MethodId), Stand p (gl G) e R s m args below meth c (T.setVm vm₁) locs k (6 * k) ∧ (T.setVm vm₁).methodNamed? (yN y2) = some mk ∧
      ∀ target, (∀ acts, Steps p.tables e below (doInvoke e ((T.setVm vm₁).setTop (F0 m pc ls rest)) acts mk av.toArray).1 target) → Steps p.tables e below (T.setTop (F0 m pc ls st0)) target) :
    ∃ (v : Option Value) (M2 : Mm) (T' : State) (L : List Loc), Q v M2 ∧ Stand p (gl G) e R s m args below meth c T' (locs ++ L) (k + k2) (6 * (k + k2)) ∧ Hq G M2 s T'.heap (locs ++ L) ∧ Steps p.tables e below (T.setTop (F0 m pc ls st0)) (T'.setTop (F0 m (pc + 3) ls (v.toList ++ rest))) := by
  obtain ⟨hg, hok, ha, hb, hret, hlk, hml, hown, hwm, hs1, hs2, hR1, hR2, hR3, hR4⟩ := id C
  have hd9 := (hok.get hi).1
  rw [Nat.add_sub_cancel_left, ← hb] at hd9
  obtain ⟨vm₁, mk, X₁, hnm, st1⟩ := go
  have hpre : PreOf R k2 (6 * k2) (Pcc G av M) ⟨T.setVm vm₁, locs, k, 6 * k⟩ av.toArray := by
    refine ⟨?_, ?_, rfl, ?_, ?_⟩
    · show k + k2 ≤ R.cells
      omega
    · show 6 * k + 6 * k2 ≤ R.slots
      omega
    · show HqE G M T.heap
      rw [hT]; exact hH.1
    · exact State.WarmedH.trans hwm X₁.warmed
  have e6 : 6 * k + 6 * k2 = 6 * (k + k2) := by omega
  rcases x_backQ (e := e) (below := below) (args := args) C hl hd hC m meth c ⟨T.setVm vm₁, locs, k, 6 * k⟩ (F0 m pc ls rest) ig mk av.toArray X₁ rfl (hL.1.trans hml.symm) hd9 (lv_room hW) hnm hpre with
    ⟨v, ⟨U', l2, c2, s2⟩, X', ⟨g', mk', u, L, e1, e2, hq, h1, hLl, h2, h3⟩, hsteps⟩ | ⟨q, ⟨U', l2, c2, s2⟩, X', ⟨g', mk', u, L, E, ce, e1, e2, hq, hce, hcv, hcl, h1, hLl, h2, h3⟩, hsteps⟩
  · dsimp only [Pt.U, Pt.locs, Pt.cells, Pt.slots] at X' e1 e2 h1 h2 h3 hsteps
    subst h1; subst h2; subst h3
    rw [e6] at X'
    obtain ⟨v', M2, hv', hPM, hE⟩ := hq
    cases hv'
    refine ⟨v, M2, U', L, hPM, X', ⟨by rw [e1]; exact hE, X'.same.2.1, fun z hz => ?_⟩, st1 _ fun acts => by rw [doInvoke_state]; exact hsteps⟩
    rcases List.mem_append.mp hz with h | h
    · exact hH.2.2 z h
    · exact hLl z h
  · exact hq.elim
theorem x_callVq {y2 : Mt} {d2 k2 np idx : Nat} {q : Ky} {ci : Nat} {u : u_T × Nat} {As rest : List Value} (hC : Cq G y2 d2 (.ref (ga G q) :: As) M Q k2) (hi : tget (yT y) pc = some (.invokevirtual idx, n, t)) (hn : pc + 3 = n) (hl : LkV (yC y) idx y2 np)
    (hs : shp q.1 = some (.inl ci)) (hcl : vwCl[ci]? = some ((yN y2).cls, u)) (hc : q.2 < cnt q.1) (hnp : As.length = np) (hst : st = As.reverse ++ .ref (ga G q) :: rest) (hW : (rest.map fun v => v.category).sum ≤ 8) (hd : d2 + 1 ≤ d) (hk : k + k2 ≤ kf)
    (kk : ∀ (v : Option Value) (M2 : Mm), Q v M2 → Fr G y d kf Z (k + k2) n lv (v.toList ++ rest) M2) : Fr G y d kf Z k pc lv st M := by
  intro p e R s m args below meth c H locs ls C hx hH hL T hT X
  subst hn
  rw [hst]
  obtain ⟨v', M2, T', L, hP, X', hH', hsteps⟩ := x_behindQ C hl.1 hd hC hk hi hW hH hL hT (x_goesV C hl hi hs hcl hc hnp hH hT X)
  obtain ⟨t2, a1, b1⟩ := kk v' M2 hP p e R s m args below meth c T'.heap (locs ++ L) ls C hx hH' hL T' rfl X'
  exact ⟨t2, hsteps.trans a1, b1⟩
end XQ
