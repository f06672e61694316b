section XD
variable {G : Gd} {y : Mt} {d kf : Nat} {Z : Zt} {k pc n t : Nat} {lv lv' : List (Nat × Value)} {st : List Value} {M : Mm}
theorem x_goesS {y2 : Mt} {np idx : Nat} {As rest : List Value} {p : Program} {e : Env} {R : Room} {s T : State} {m : MethodId} {args : Array Value} {below : List Frame} {meth : Method} {c : Code} {locs : List Loc} {ls : Array Slot}
    (C : Cx G y d kf p R s m meth c) (hl : LkS (yC y) idx y2 np) (hi : tget (yT y) pc = some (.invokestatic idx, pc + 3, t)) (hnp : As.length = np) (X : Stand p (gl G) e R s m args below meth c T locs k (6 * k)) :
    ∃ (vm₁ : Vm) (mk : MethodId), Stand p (gl G) e R s m args below meth c (T.setVm vm₁) locs k (6 * k) ∧ (T.setVm vm₁).methodNamed? (yN y2) = some mk ∧
      ∀ target, (∀ acts, Steps p.tables e below (doInvoke e ((T.setVm vm₁).setTop (F0 m pc ls rest)) acts mk As.toArray).1 target) → Steps p.tables e below (T.setTop (F0 m pc ls (As.reverse ++ rest))) target := by
  obtain ⟨hg, hok, ha, hb, hret, hlk, hml, hown, hwm, -⟩ := id C
  obtain ⟨⟨hlink, hini, hcd, hy, hpd, -⟩, hst⟩ := hl
  have hd9 := (hok.get hi).1
  rw [Nat.add_sub_cancel_left, ← hb] at hd9
  have hcode := hg.1 _ hcd rfl args s hwm
  obtain ⟨mk, hnamed⟩ := Cond.code_named hcode
  obtain ⟨methM, cM, hmethM, -, -, -, -, -, -, hsigM⟩ := Cond.code_spec hnamed hcode
  have hstatic : methM.isStatic = true := Cond.static_spec hnamed hmethM (hg.1 _ hst rfl args s hwm)
  obtain ⟨kP, hkP, -⟩ := className_of_methodNamed hnamed
  have hinitP : kP.init = .initialized := Cond.initialized_spec (findClass_of_methodNamed hnamed) hkP (hg.1 _ hini rfl args s hwm)
  have hlen : As.length = methM.sig.parameters.length := by
    rw [hsigM] at hpd
    rw [hnp]
    exact (Option.some.inj hpd).symm
  rcases hlink with hw | ⟨ho, hw⟩
  · obtain ⟨vm₁, X₁, st1⟩ := X.invokestatic ha hown (hg.1 _ hw rfl args s hwm) hnamed hmethM hstatic hkP hinitP hy (g := F0 m pc ls (As.reverse ++ rest)) rfl (argsL := As) (rest := rest) hlen rfl hd9
    exact ⟨vm₁, mk, X₁, X₁.named hnamed, st1⟩
  · obtain ⟨vm₁, X₁, st1⟩ := X.invokestaticNest ha hown (hg.1 _ hw rfl args s hwm) hnamed hmethM hstatic hkP hinitP hy (g := F0 m pc ls (As.reverse ++ rest)) rfl (argsL := As) (rest := rest) hlen rfl hd9
    exact ⟨vm₁, mk, X₁, X₁.named hnamed, st1⟩
/-- a call that returns, or throws, out of its first step -/
theorem x_behind {y2 : Mt} {d2 k2 np idx : Nat} {av rest : List Value} {ig : Instr} {M2 : Mm} {o : Oc} {p : Program} {e : Env} {R : Room} {s T : State} {m : MethodId} {args : Array Value} {below : List Frame} {meth : Method} {c : Code} {H : Heap} {locs : List Loc} {ls : Array Slot} {st0 : List Value}
    (C : Cx G y d kf p R s m meth c) (hl : LkM (yC y) idx y2 np) (hd : d2 + 1 ≤ d) (hC : Ct G y2 d2 av M o M2 k2) (hk : k + k2 ≤ kf) (hi : tget (yT y) pc = some (ig, pc + 3, t)) (hW : (rest.map fun v => v.category).sum ≤ 8)
    (hH : Hq G M s H locs) (hL : lv_has ls (yL y) lv) (hT : T.heap = H)
    (go : ∃ (vm₁ : Vm) (mk : MethodId), Stand p (gl G) e R s m args below meth c (T.setVm vm₁) locs k (6 * k) ∧ (T.setVm vm₁).methodNamed? (yN y2) = some mk ∧
      ∀ target, (∀ acts, Steps p.tables e below (doInvoke e ((T.setVm vm₁).setTop (F0 m pc ls rest)) acts mk av.toArray).1 target) → Steps p.tables e below (T.setTop (F0 m pc ls st0)) target) :
    (∃ (v : Option Value) (T' : State) (L : List Loc), o = .inl v ∧ Stand p (gl G) e R s m args below meth c T' (locs ++ L) (k + k2) (6 * (k + k2)) ∧ Hq G M2 s T'.heap (locs ++ L) ∧ Steps p.tables e below (T.setTop (F0 m pc ls st0)) (T'.setTop (F0 m (pc + 3) ls (v.toList ++ rest)))) ∨
    (∃ (E : String) (q : Addr) (ce : Cell) (T' : State) (L : List Loc), o = .inr E ∧ Stand p (gl G) e R s m args below meth c T' (locs ++ L) (k + k2) (6 * (k + k2)) ∧ Hq G M2 s T'.heap (locs ++ L) ∧ T'.heap[q]? = some ce ∧ ce.vm = .none ∧ s.vm.findClass E = some ce.cls ∧
      Steps p.tables e below (T.setTop (F0 m pc ls st0)) ((T'.setTop (F0 m pc ls rest)).pushFrame (.throwing q))) := by
  obtain ⟨hg, hok, ha, hb, hret, hlk, hml, hown, hwm, hs1, hs2, hR1, hR2, hR3, hR4⟩ := id C
  have hd9 := (hok.get hi).1
  rw [Nat.add_sub_cancel_left, ← hb] at hd9
  obtain ⟨vm₁, mk, X₁, hnm, st1⟩ := go
  have hpre : PreOf R k2 (6 * k2) (Pcc G av M) ⟨T.setVm vm₁, locs, k, 6 * k⟩ av.toArray := by
    refine ⟨?_, ?_, rfl, ?_, ?_⟩
    · show k + k2 ≤ R.cells
      omega
    · show 6 * k + 6 * k2 ≤ R.slots
      omega
    · show HqE G M T.heap
      rw [hT]; exact hH.1
    · exact State.WarmedH.trans hwm X₁.warmed
  have e6 : 6 * k + 6 * k2 = 6 * (k + k2) := by omega
  rcases x_back (e := e) (below := below) (args := args) C hl hd hC m meth c ⟨T.setVm vm₁, locs, k, 6 * k⟩ (F0 m pc ls rest) ig mk av.toArray X₁ rfl (hL.1.trans hml.symm) hd9 (lv_room hW) hnm hpre with
    ⟨v, ⟨U', l2, c2, s2⟩, X', ⟨g', mk', u, L, e1, e2, hq, h1, hLl, h2, h3⟩, hsteps⟩ | ⟨q, ⟨U', l2, c2, s2⟩, X', ⟨g', mk', u, L, E, ce, e1, e2, hq, hce, hcv, hcl, h1, hLl, h2, h3⟩, hsteps⟩
  · dsimp only [Pt.U, Pt.locs, Pt.cells, Pt.slots] at X' e1 e2 h1 h2 h3 hsteps
    subst h1; subst h2; subst h3
    rw [e6] at X'
    obtain ⟨v', ho, hv', hE⟩ := hq
    cases hv'
    refine Or.inl ⟨v, U', L, ho, X', ⟨by rw [e1]; exact hE, X'.same.2.1, fun z hz => ?_⟩, st1 _ fun acts => by rw [doInvoke_state]; exact hsteps⟩
    rcases List.mem_append.mp hz with h | h
    · exact hH.2.2 z h
    · exact hLl z h
  · dsimp only [Pt.U, Pt.locs, Pt.cells, Pt.slots] at X' e1 e2 h1 h2 h3 hsteps hcl
    subst h1; subst h2; subst h3
    rw [e6] at X'
    obtain ⟨ho, hE⟩ := hq
    refine Or.inr ⟨E, q, ce, U', L, ho, X', ⟨by rw [e1]; exact hE, X'.same.2.1, fun z hz => ?_⟩, by rw [e1]; exact hce, hcv, vx_cls X₁.warmed hcl, st1 _ fun acts => by rw [doInvoke_state]; exact hsteps⟩
    rcases List.mem_append.mp hz with h | h
    · exact hH.2.2 z h
    · exact hLl z h
/-- an object's method is called, and returns -/
theorem x_callV {y2 : Mt} {d2 k2 np idx : Nat} {q : Ky} {ci : Nat} {u : u_T × Nat} {As rest : List Value} {v : Option Value} {M2 : Mm} (hC : Ct G y2 d2 (.ref (ga G q) :: As) M (.inl v) M2 k2) (hi : tget (yT y) pc = some (.invokevirtual idx, n, t)) (hn : pc + 3 = n) (hl : LkV (yC y) idx y2 np)
    (hs : shp q.1 = some (.inl ci)) (hcl : vwCl[ci]? = some ((yN y2).cls, u)) (hc : q.2 < cnt q.1) (hnp : As.length = np) (hst : st = As.reverse ++ .ref (ga G q) :: rest) (hW : (rest.map fun v => v.category).sum ≤ 8) (hd : d2 + 1 ≤ d) (hk : k + k2 ≤ kf)
    (kk : Fr G y d kf Z (k + k2) n lv (v.toList ++ rest) M2) : Fr G y d kf Z k pc lv st M := by
  intro p e R s m args below meth c H locs ls C hx hH hL T hT X
  subst hn
  rw [hst]
  rcases x_behind C hl.1 hd hC hk hi hW hH hL hT (x_goesV C hl hi hs hcl hc hnp hH hT X) with ⟨v', T', L, ho, X', hH', hsteps⟩ | ⟨E, q', ce, T', L, ho, -⟩
  · cases ho
    obtain ⟨t2, a1, b1⟩ := kk p e R s m args below meth c T'.heap (locs ++ L) ls C hx hH' hL T' rfl X'
    exact ⟨t2, hsteps.trans a1, b1⟩
  · cases ho
/-- .. and throws: so does this method -/
theorem x_throwV {y2 : Mt} {d2 k2 np idx : Nat} {q : Ky} {ci : Nat} {u : u_T × Nat} {As rest : List Value} {E : String} {M2 : Mm} (hC : Ct G y2 d2 (.ref (ga G q) :: As) M (.inr E) M2 k2) (hi : tget (yT y) pc = some (.invokevirtual idx, n, t)) (hn : pc + 3 = n) (hl : LkV (yC y) idx y2 np)
    (hs : shp q.1 = some (.inl ci)) (hcl : vwCl[ci]? = some ((yN y2).cls, u)) (hc : q.2 < cnt q.1) (hnp : As.length = np) (hst : st = As.reverse ++ .ref (ga G q) :: rest) (hW : (rest.map fun v => v.category).sum ≤ 8) (hd : d2 + 1 ≤ d) (hk : k + k2 ≤ kf) :
    Fr G y d kf (Zm G (.inr E) M2 kf) k pc lv st M := by
  intro p e R s m args below meth c H locs ls C hx hH hL T hT X
  subst hn
  rw [hst]
  rcases x_behind C hl.1 hd hC hk hi hW hH hL hT (x_goesV C hl hi hs hcl hc hnp hH hT X) with ⟨v', T', L, ho, -⟩ | ⟨E', q', ce, T', L, ho, X', hH', hce, hcv, hcls, hsteps⟩
  · cases ho
  · cases ho
    have hlk : meth.locks = false := C.2.2.2.2.2.1
    obtain ⟨t2, a1, b1⟩ := vx_out (Qc := Qcc G (.inr E) M2) (XC := XCc G (.inr E) M2) (free := fun z => gb G ≤ z) (mc := kf) (ms := 6 * kf) (pc := pc) (ls := ls) (rest := rest) (fun x h => (hx x h).elim) hlk hce hcv hcls (fun w hw _ => ⟨rfl, by rw [hw]; exact hH'.1⟩) hH'.2.2 hk (by omega) T' rfl X'
    exact ⟨t2, hsteps.trans a1, b1⟩
theorem x_callS {y2 : Mt} {d2 k2 np idx : Nat} {As rest : List Value} {v : Option Value} {M2 : Mm} (hC : Ct G y2 d2 As M (.inl v) M2 k2) (hi : tget (yT y) pc = some (.invokestatic idx, n, t)) (hn : pc + 3 = n) (hl : LkS (yC y) idx y2 np)
    (hnp : As.length = np) (hst : st = As.reverse ++ rest) (hW : (rest.map fun v => v.category).sum ≤ 8) (hd : d2 + 1 ≤ d) (hk : k + k2 ≤ kf)
    (kk : Fr G y d kf Z (k + k2) n lv (v.toList ++ rest) M2) : Fr G y d kf Z k pc lv st M := by
  intro p e R s m args below meth c H locs ls C hx hH hL T hT X
  subst hn
  rw [hst]
  rcases x_behind C hl.1 hd hC hk hi hW hH hL hT (x_goesS C hl hi hnp X) with ⟨v', T', L, ho, X', hH', hsteps⟩ | ⟨E, q', ce, T', L, ho, -⟩
  · cases ho
    obtain ⟨t2, a1, b1⟩ := kk p e R s m args below meth c T'.heap (locs ++ L) ls C hx hH' hL T' rfl X'
    exact ⟨t2, hsteps.trans a1, b1⟩
  · cases ho
/-- 'throw new E()' -/
def ThL (own ik ic : Nat) (E : String) : Prop := Cond.classLink (cnm own) ik E ∈ lw_tbl ∧ Cond.initialized E ∈ lw_tbl ∧ (∀ w ∈ vx_at0 (cnm own) ic E ["java/lang/RuntimeException", "java/lang/Exception"], w ∈ lw_tbl) ∧
  (∀ w ∈ Cond.classLink (cnm own) ik E :: Cond.initialized E :: vx_at0 (cnm own) ic E ["java/lang/RuntimeException", "java/lang/Exception"], vx_ot w = true) ∧ (∀ w ∈ vx_at0 (cnm own) ic E ["java/lang/RuntimeException", "java/lang/Exception"], okw w = true) ∧ Bundle.fit E = true
theorem x_throw {ik ic n2 n3 n4 t2 t3 t4 : Nat} {E : String} (hi : tget (yT y) pc = some (.new ik, n, t)) (hn : pc + 3 = n) (hi2 : tget (yT y) n = some (.dup, n2, t2)) (hn2 : pc + 4 = n2) (hi3 : tget (yT y) n2 = some (.invokespecial ic, n3, t3)) (hn3 : pc + 7 = n3) (hi4 : tget (yT y) n3 = some (.athrow, n4, t4)) (hn4 : pc + 8 = n4)
    (hl : ThL (yC y) ik ic E) (hW : (st.map fun v => v.category).sum ≤ 8) (hd : 6 ≤ d) (hk : k + 1 ≤ kf) : Fr G y d kf (Zm G (.inr E) M kf) k pc lv st M := by
  intro p e R s m args below meth c H locs ls C hx hH hL
  obtain ⟨hg, hok, ha, hb, hret, hlk, hml, hown, hwm, hs1, hs2, hR1, hR2, hR3, hR4⟩ := id C
  obtain ⟨w1, w2, w3, w4, w5, hf⟩ := hl
  subst hn; subst hn2; subst hn3; subst hn4
  have d0 := (hok.get hi).1
  have d3 := (hok.get hi2).1
  have d4 := (hok.get hi3).1
  have d7 := (hok.get hi4).1
  rw [Nat.add_sub_cancel_left] at d0
  rw [show pc + 4 - (pc + 3) = 1 by omega] at d3
  rw [show pc + 7 - (pc + 4) = 3 by omega] at d4
  rw [show pc + 8 - (pc + 7) = 1 by omega] at d7
  have hkeep : ∀ a : Nat, a < (gH G).size → ¬ gb G ≤ a → s.heap[a]? = (gH G)[a]? := fun a _ h => hs1 a (by omega)
  have hU : vx_Zq Bundle.tN "UNASSIGNED_STACK" Bundle.steD (fun q => gb G ≤ q) s s.heap := vx_Zq.moved hwm.alike (hg.2.2.2.2.2.1.kept hkeep)
  have hN : vx_Zq Bundle.tN "SUPPRESSED_SENTINEL" Bundle.listD (fun q => gb G ≤ q) s s.heap := vx_Zq.moved hwm.alike (hg.2.2.2.2.2.2.1.kept hkeep)
  refine vx_throw0 (A := fun q => gb G ≤ q) (names := ["java/lang/RuntimeException", "java/lang/Exception"]) ha hb hg.2.2.2.2.1 hown hf (by decide +kernel) (hg.1 _ w1 rfl args s hwm) (hg.1 _ w2 rfl args s hwm) (fun w hw => hg.1 w (w3 w hw) (w5 w hw) args s hwm) w4 hU hN ⟨hH.2.1, fun q h1 h2 => ?_, hH.2.2⟩ (hL.1.trans hml.symm) d0 d3 d4 d7 (fun x h => (hx x h).elim) ?_ ?_ ?_ ?_ hlk (fun u _ h1 h2 => ⟨rfl, ?_⟩) hH.2.2 hk ?_
  · rw [hs1 q (by omega)]
    exact hH.1.2.1 q (by omega)
  · show 2 + 3 < R.frames
    omega
  · show _ + (13 * 3 + 42) ≤ R.locals
    omega
  · omega
  · omega
  · refine ⟨fun k' sp hs hc => ?_, fun q hq => ?_, Nat.le_trans hH.1.2.2 h1⟩
    · have h0 := hH.1.1 k' sp hs hc
      cases sp with
      | inl ci =>
        have h8 : t_OB (ga G k') ((gD G).1 ci) (nfl ci) ((gD G).2 ci) H (fun j' => cval G M k' (ftyp ci j') j') := h0
        obtain ⟨cell, z1, z2⟩ := id h8
        exact h8.kept (h2 _ (Array.getElem?_eq_some_iff.mp z1).1)
      | inr q =>
        have h8 : H[ga G k']? = some (arrV (gk G q.1) q.2 (fun j' => cval G M k' (aty q.1) j')) := h0
        show u.heap[ga G k']? = _
        rw [h2 _ (Array.getElem?_eq_some_iff.mp h8).1]
        exact h8
    · rw [h2 q (Nat.lt_of_lt_of_le hq hH.1.2.2)]
      exact hH.1.2.1 q hq
  · omega
end XD
