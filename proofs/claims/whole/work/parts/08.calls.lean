/-- what the tables say where an object's method is called -/
def LkM (own idx : Nat) (y2 : Mt) (np : Nat) : Prop :=
  (Cond.methodLink (cnm own) idx (yN y2) ∈ lw_tbl ∨ ∃ ho, Cond.methodLinkNest (cnm own) idx (yN y2) ho ∈ lw_tbl) ∧ Cond.initialized (yN y2).cls ∈ lw_tbl ∧ Cond.code (yN y2) (yB y2) (yL y2) (yR y2) ∈ lw_tbl ∧
  ((yN y2).cls ≠ "java/lang/invoke/MethodHandle" ∧ (yN y2).cls ≠ "java/lang/invoke/VarHandle") ∧ (parseMethodDescriptor (yN y2).desc).map (fun d => d.parameters.length) = some np ∧ yL y2 ≤ 45
def LkV (own idx : Nat) (y2 : Mt) (np : Nat) : Prop := LkM own idx y2 np ∧ Cond.instanceMethod (yN y2) ∈ lw_tbl ∧ Cond.selects (yN y2).cls (yN y2) (yN y2) ∈ lw_tbl
def LkS (own idx : Nat) (y2 : Mt) (np : Nat) : Prop := LkM own idx y2 np ∧ Cond.static (yN y2) ∈ lw_tbl
theorem Pcc_blind (G : Gd) (av : List Value) (M : Mm) : FrameBlind (Pcc G av M) := fun _ _ _ _ h => h
section XC
variable {G : Gd} {y : Mt} {d kf : Nat} {Z : Zt} {k pc n t : Nat} {lv lv' : List (Nat × Value)} {st : List Value} {M : Mm}
theorem ct_of {av : List Value} {o : Oc} {M' : Mm} (hG : Gok G) (ok : okT y) (hp : plainName (yN y).cls = true) (hc : (yN y).cls = cnm (yC y)) (hl : (lg_sl av).length ≤ yL y)
    (body : Fr G y d kf (Zm G o M' kf) 0 0 (lv_args 0 av) [] M) : Ct G y d av M o M' kf := by
  refine vx_ofW (cc := yB y) (maxL := yL y) (ret := yR y) hp rfl ?_
  intro p e s m args below meth c s₁ B hml ht hP
  obtain ⟨rfl, hH, hW⟩ := hP
  have hown : s.vm.findClass (cnm (yC y)) = some m.cls := by rw [← hc]; exact findClass_of_methodNamed B.named
  rw [lg_entry_eq]
  exact body p e _ s m _ below meth c s.heap [] _ ⟨hG, ok, B.exec, B.bytes, B.returns, B.notSynchronized, hml, hown, hW, hH.2.1, hH.2.2, Nat.le_refl _, Nat.le_refl _, Nat.le_refl _, Nat.le_refl _⟩ ht ⟨hH, Nat.le_refl _, fun z h => by cases h⟩ (lv_entry av hl)
theorem mqw {below : List Frame} {args : Array Value} {s : State} {p : Program} {e : Env} {R : Room} {m : MethodId} {meth : Method} {c : Code} {H : Heap} {locs : List Loc} {g : JFrame} {o : Oc} (hk : k ≤ kf)
    (h : W p (gl G) e R s m args below meth c H locs kf (6 * kf) (vx_MQ below (Qcc G o M) (XCc G o M) args s kf (6 * kf) (fun q => gb G ≤ q)) g) : W p (gl G) e R s m args below meth c H locs k (6 * k) (Zm G o M kf below args s) g :=
  W.widen hk (by omega) h
theorem x_iret {v : Int32} (hi : tget (yT y) pc = some (.ireturn, n, t)) (hn : pc + 1 = n) (hr : yR y = some .int) (hk : k ≤ kf) : Fr G y d kf (Zm G (.inl (some (.int v))) M kf) k pc lv [.int v] M := by
  intro p e R s m args below meth c H locs ls C hx hH hL
  obtain ⟨hg, hok, ha, hb, hret, hlk, hml, hown, hwm, -⟩ := id C
  have hd := (hok.get hi).1
  subst hn
  rw [Nat.add_sub_cancel_left] at hd
  exact mqw hk (vx_ret (W.iret ha hb (hret.trans hr) (fun u hu hW => ⟨_, rfl, rfl, by rw [hu]; exact hH.1⟩) hH.2.2 hd hlk))
theorem x_zret {v : Int32} (hi : tget (yT y) pc = some (.ireturn, n, t)) (hn : pc + 1 = n) (hr : yR y = some .boolean) (hv : narrow .boolean (.int v) = .int v) (hk : k ≤ kf) : Fr G y d kf (Zm G (.inl (some (.int v))) M kf) k pc lv [.int v] M := by
  intro p e R s m args below meth c H locs ls C hx hH hL
  obtain ⟨hg, hok, ha, hb, hret, hlk, hml, hown, hwm, -⟩ := id C
  have hd := (hok.get hi).1
  subst hn
  rw [Nat.add_sub_cancel_left] at hd
  exact mqw hk (vx_ret (W.zret ha hb (hret.trans hr) hv (fun u hu hW => ⟨_, rfl, rfl, by rw [hu]; exact hH.1⟩) hH.2.2 hd hlk))
theorem x_lret {v : Int64} (hi : tget (yT y) pc = some (.lreturn, n, t)) (hn : pc + 1 = n) (hr : yR y = some .long) (hk : k ≤ kf) : Fr G y d kf (Zm G (.inl (some (.long v))) M kf) k pc lv [.long v] M := by
  intro p e R s m args below meth c H locs ls C hx hH hL
  obtain ⟨hg, hok, ha, hb, hret, hlk, hml, hown, hwm, -⟩ := id C
  have hd := (hok.get hi).1
  subst hn
  rw [Nat.add_sub_cancel_left] at hd
  exact mqw hk (vx_ret (W.lret ha hb (hret.trans hr) (fun u hu hW => ⟨_, rfl, rfl, by rw [hu]; exact hH.1⟩) hH.2.2 hd hlk))
theorem x_vret (hi : tget (yT y) pc = some (.return_, n, t)) (hn : pc + 1 = n) (hr : yR y = none) (hk : k ≤ kf) : Fr G y d kf (Zm G (.inl none) M kf) k pc lv [] M := by
  intro p e R s m args below meth c H locs ls C hx hH hL
  obtain ⟨hg, hok, ha, hb, hret, hlk, hml, hown, hwm, -⟩ := id C
  have hd := (hok.get hi).1
  subst hn
  rw [Nat.add_sub_cancel_left] at hd
  exact mqw hk (vx_ret (W.vret ha hb (hret.trans hr) (fun u hu hW => ⟨_, rfl, rfl, by rw [hu]; exact hH.1⟩) hH.2.2 hd hlk))
/-- the frame of the caller, behind a call -/
theorem x_back {y2 : Mt} {d2 k2 np idx : Nat} {av : List Value} {M2 : Mm} {o : Oc} {p : Program} {e : Env} {R : Room} {s : State} {m : MethodId} {args : Array Value} {below : List Frame} {meth : Method} {c : Code}
    (C : Cx G y d kf p R s m meth c) (hl : LkM (yC y) idx y2 np) (hd : d2 + 1 ≤ d) (hC : Ct G y2 d2 av M o M2 k2) :
    vx_Back (gl G) R p e below s args (yN y2) 3 8 (PreOf R k2 (6 * k2) (Pcc G av M)) (PostOf (Qcc G o M2) k2 (6 * k2) (fun q => gb G ≤ q)) (vx_Post (XCc G o M2) k2 (6 * k2) (fun q => gb G ≤ q)) := by
  obtain ⟨hg, hok, ha, hb, hret, hlk, hml, hown, hwm, hs1, hs2, hR1, hR2, hR3, hR4⟩ := id C
  obtain ⟨-, hini, hcd, -, -, hmx⟩ := hl
  refine vx_back (bytes := yB y2) (maxL := yL y2) (ret := yR y2) hC (Pcc_blind G av M) rfl rfl ?_ ?_ ?_ List.mem_cons_self ?_
  · show d2 + 1 ≤ R.frames
    omega
  · show 8 + (yL y2 + 11) + 64 * d2 ≤ R.locals
    omega
  · intro w hw a' U hWU
    rw [List.mem_singleton.mp hw]
    exact hg.1 _ hcd rfl a' U (State.WarmedH.trans hwm hWU)
  · intro a' U hWU
    exact hg.1 _ hini rfl a' U (State.WarmedH.trans hwm hWU)
theorem x_goesV {y2 : Mt} {np idx : Nat} {q : Ky} {ci : Nat} {As rest : List Value} {p : Program} {e : Env} {R : Room} {s T : State} {m : MethodId} {args : Array Value} {below : List Frame} {meth : Method} {c : Code} {H : Heap} {locs : List Loc} {ls : Array Slot}
    (C : Cx G y d kf p R s m meth c) (hl : LkV (yC y) idx y2 np) (hi : tget (yT y) pc = some (.invokevirtual idx, pc + 3, t)) (hs : shp q.1 = some (.inl ci)) {u : u_T × Nat} (hcl : vwCl[ci]? = some ((yN y2).cls, u)) (hc : q.2 < cnt q.1) (hnp : As.length = np)
    (hH : Hq G M s H locs) (hT : T.heap = H) (X : Stand p (gl G) e R s m args below meth c T locs k (6 * k)) :
    ∃ (vm₁ : Vm) (mk : MethodId), Stand p (gl G) e R s m args below meth c (T.setVm vm₁) locs k (6 * k) ∧ (T.setVm vm₁).methodNamed? (yN y2) = some mk ∧
      ∀ target, (∀ acts, Steps p.tables e below (doInvoke e ((T.setVm vm₁).setTop (F0 m pc ls rest)) acts mk (Value.ref (ga G q) :: As).toArray).1 target) → Steps p.tables e below (T.setTop (F0 m pc ls (As.reverse ++ .ref (ga G q) :: rest))) target := by
  obtain ⟨hg, hok, ha, hb, hret, hlk, hml, hown, hwm, -⟩ := id C
  obtain ⟨⟨hlink, hini, hcd, hy, hpd, -⟩, hin, hse⟩ := hl
  have hd9 := (hok.get hi).1
  rw [Nat.add_sub_cancel_left, ← hb] at hd9
  have hK : va_K (gD G) vwCl (tysG G) s := va_K.moved hwm.alike hg.2.1
  obtain ⟨cell, q1, q2, q3, -⟩ : t_OB (ga G q) ((gD G).1 ci) (nfl ci) ((gD G).2 ci) H (fun j => cval G M q (ftyp ci j) j) := hH.1.1 q _ hs hc
  have hclB : s.vm.findClass (yN y2).cls = some cell.cls := by rw [q2]; exact (hK.1 ci _ hcl).2.1
  have hinst := hg.1 _ hin rfl args s hwm
  have hsel := hg.1 _ hse rfl args s hwm
  have hcode := hg.1 _ hcd rfl args s hwm
  obtain ⟨mk, methM, hnamed, hmethM, hstM, habM⟩ := Cond.instanceMethod_spec hinst
  obtain ⟨methM', cM, hmethM', -, -, -, -, -, -, hsigM⟩ := Cond.code_spec hnamed hcode
  cases hmethM.symm.trans hmethM'
  obtain ⟨c2, r2, m2, z1, z2, z3, z4, kP, hkP, hkPi⟩ := Cond.selects_spec hsel
  cases hclB.symm.trans z1
  cases (State.methodFound?_of_named hnamed hy).symm.trans z2
  cases hnamed.symm.trans z3
  have hselP : selectMethod e.platform s.vm cell.cls mk = .method mk := by rw [Launch.admits_selectMethod X.admits]; exact z4
  have hlen : As.length = methM.sig.parameters.length := by
    rw [hsigM] at hpd
    rw [hnp]
    exact (Option.some.inj hpd).symm
  have hobj : ∀ z, cell.vm ≠ .statics z := fun z h => by rw [q3] at h; cases h
  rcases hlink with hw | ⟨ho, hw⟩
  · obtain ⟨vm₁, X₁, st1⟩ := X.invokevirtual ha hown (hg.1 _ hw rfl args s hwm) hnamed hmethM hstM hkP hkPi hy (a := ga G q) (cell := cell) (by rw [hT]; exact q1) hobj hselP hmethM habM hkP hkPi (g := F0 m pc ls (As.reverse ++ .ref (ga G q) :: rest)) rfl (argsL := As) (rest := rest) hlen rfl hd9
    exact ⟨vm₁, mk, X₁, X₁.named hnamed, st1⟩
  · obtain ⟨vm₁, X₁, st1⟩ := X.invokevirtualNest ha hown (hg.1 _ hw rfl args s hwm) hnamed hmethM hstM hkP hkPi hy (a := ga G q) (cell := cell) (by rw [hT]; exact q1) hobj hselP hmethM habM hkP hkPi (g := F0 m pc ls (As.reverse ++ .ref (ga G q) :: rest)) rfl (argsL := As) (rest := rest) hlen rfl hd9
    exact ⟨vm₁, mk, X₁, X₁.named hnamed, st1⟩
end XC
