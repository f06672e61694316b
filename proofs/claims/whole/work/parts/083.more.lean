section XE
variable {G : Gd} {y : Mt} {d kf : Nat} {Z : Zt} {k pc n t : Nat} {lv lv' : List (Nat × Value)} {st : List Value} {M M' : Mm} {idx ci j : Nat} {q q' : Ky} {o : Oc}
theorem x_getI (hi : tget (yT y) pc = some (.getfield idx, n, t)) (hn : pc + 3 = n) (hf : FLk (yC y) idx ci j) (hs : shp q.1 = some (.inl ci)) (hc : q.2 < cnt q.1) (ht : ftyp ci j = .int) (kk : Fr G y d kf Z k n lv (.int (M.1 q j) :: st) M) : Fr G y d kf Z k pc lv (.ref (ga G q) :: st) M :=
  x_get hi hn hf hs hc (by rw [ht]; rfl) kk
theorem x_getZ (hi : tget (yT y) pc = some (.getfield idx, n, t)) (hn : pc + 3 = n) (hf : FLk (yC y) idx ci j) (hs : shp q.1 = some (.inl ci)) (hc : q.2 < cnt q.1) (ht : ftyp ci j = .boolean) (kk : Fr G y d kf Z k n lv (.int (M.1 q j) :: st) M) : Fr G y d kf Z k pc lv (.ref (ga G q) :: st) M :=
  x_get hi hn hf hs hc (by rw [ht]; rfl) kk
theorem x_getL (hi : tget (yT y) pc = some (.getfield idx, n, t)) (hn : pc + 3 = n) (hf : FLk (yC y) idx ci j) (hs : shp q.1 = some (.inl ci)) (hc : q.2 < cnt q.1) (ht : ftyp ci j = .long) (kk : Fr G y d kf Z k n lv (.long (M.2 q j) :: st) M) : Fr G y d kf Z k pc lv (.ref (ga G q) :: st) M :=
  x_get hi hn hf hs hc (by rw [ht]; rfl) kk
def isRfT (ty : FieldType) : Bool := match ty with | .array _ => true | .object _ => true | _ => false
theorem cval_rf {ty : FieldType} (h : isRfT ty = true) : cval G M q ty j = rv G (rf q j) := by
  cases ty <;> first | rfl | cases h
theorem x_getR (hi : tget (yT y) pc = some (.getfield idx, n, t)) (hn : pc + 3 = n) (hf : FLk (yC y) idx ci j) (hs : shp q.1 = some (.inl ci)) (hc : q.2 < cnt q.1) (ht : isRfT (ftyp ci j) = true) (hr : rf q j = some q') (kk : Fr G y d kf Z k n lv (.ref (ga G q') :: st) M) : Fr G y d kf Z k pc lv (.ref (ga G q) :: st) M :=
  x_get hi hn hf hs hc (by rw [cval_rf ht, hr]; rfl) kk
theorem x_getRi {r i r' : Nat} (hi : tget (yT y) pc = some (.getfield idx, n, t)) (hn : pc + 3 = n) (hf : FLk (yC y) idx ci j) (hs : shp r = some (.inl ci)) (hc : i < cnt r) (ht : isRfT (ftyp ci j) = true) (hr : rf (r, i) j = some (r', i)) (kk : Fr G y d kf Z k n lv (.ref (ga G (r', i)) :: st) M) : Fr G y d kf Z k pc lv (.ref (ga G (r, i)) :: st) M :=
  x_getR hi hn hf hs hc ht hr kk
theorem x_getR0 {r i r' : Nat} (hi : tget (yT y) pc = some (.getfield idx, n, t)) (hn : pc + 3 = n) (hf : FLk (yC y) idx ci j) (hs : shp r = some (.inl ci)) (hc : i < cnt r) (ht : isRfT (ftyp ci j) = true) (hr : rf (r, i) j = some (r', 0)) (kk : Fr G y d kf Z k n lv (.ref (ga G (r', 0)) :: st) M) : Fr G y d kf Z k pc lv (.ref (ga G (r, i)) :: st) M :=
  x_getR hi hn hf hs hc ht hr kk
def nofin (ci j : Nat) : Bool := match vwCl[ci]? with | some q => !(q.2.1 j).2.2.2 | none => false
theorem nofin_of (h : nofin ci j = true) : ∀ (Cn : String) (T : u_T) (N : Nat), vwCl[ci]? = some (Cn, T, N) → (T j).2.2.2 = false := by
  intro Cn T N e
  unfold nofin at h
  rw [e] at h
  simpa using h
theorem x_putI {x : Int32} (hi : tget (yT y) pc = some (.putfield idx, n, t)) (hn : pc + 3 = n) (hf : FLk (yC y) idx ci j) (hfin : nofin ci j = true) (hs : shp q.1 = some (.inl ci)) (hc : q.2 < cnt q.1) (ht : ftyp ci j = .int) (kk : Fr G y d kf Z k n lv st (ui M q j x)) : Fr G y d kf Z k pc lv (.int x :: .ref (ga G q) :: st) M :=
  x_put hi hn hf (nofin_of hfin) hs hc (by rw [ht]; exact trivial) (by rw [ht]; exact vp_nar_int x) (by rw [ht]; rfl) kk
theorem x_putZ {x : Int32} (hi : tget (yT y) pc = some (.putfield idx, n, t)) (hn : pc + 3 = n) (hf : FLk (yC y) idx ci j) (hfin : nofin ci j = true) (hs : shp q.1 = some (.inl ci)) (hc : q.2 < cnt q.1) (ht : ftyp ci j = .boolean) (hx : x = 0 ∨ x = 1) (kk : Fr G y d kf Z k n lv st (ui M q j x)) : Fr G y d kf Z k pc lv (.int x :: .ref (ga G q) :: st) M :=
  x_put hi hn hf (nofin_of hfin) hs hc (by rw [ht]; exact trivial) (by rw [ht]; rcases hx with rfl | rfl <;> decide +kernel) (by rw [ht]; rcases hx with rfl | rfl <;> decide +kernel) kk
theorem x_putL {x : Int64} (hi : tget (yT y) pc = some (.putfield idx, n, t)) (hn : pc + 3 = n) (hf : FLk (yC y) idx ci j) (hfin : nofin ci j = true) (hs : shp q.1 = some (.inl ci)) (hc : q.2 < cnt q.1) (ht : ftyp ci j = .long) (kk : Fr G y d kf Z k n lv st (ul M q j x)) : Fr G y d kf Z k pc lv (.long x :: .ref (ga G q) :: st) M :=
  x_put hi hn hf (nofin_of hfin) hs hc (by rw [ht]; exact trivial) (by rw [ht]; rfl) (by rw [ht]; rfl) kk
theorem x_retI {v : Int32} (hi : tget (yT y) pc = some (.ireturn, n, t)) (hn : pc + 1 = n) (hr : yR y = some .int) (hk : k ≤ kf) (ho : o = .inl (some (.int v))) (hM : M' = M) : Fr G y d kf (Zm G o M' kf) k pc lv [.int v] M := by
  subst ho; subst hM
  exact x_iret hi hn hr hk
theorem x_retZ {v : Int32} (hi : tget (yT y) pc = some (.ireturn, n, t)) (hn : pc + 1 = n) (hr : yR y = some .boolean) (hv : v = 0 ∨ v = 1) (hk : k ≤ kf) (ho : o = .inl (some (.int v))) (hM : M' = M) : Fr G y d kf (Zm G o M' kf) k pc lv [.int v] M := by
  subst ho; subst hM
  exact x_zret hi hn hr (by rcases hv with rfl | rfl <;> decide +kernel) hk
theorem x_retL {v : Int64} (hi : tget (yT y) pc = some (.lreturn, n, t)) (hn : pc + 1 = n) (hr : yR y = some .long) (hk : k ≤ kf) (ho : o = .inl (some (.long v))) (hM : M' = M) : Fr G y d kf (Zm G o M' kf) k pc lv [.long v] M := by
  subst ho; subst hM
  exact x_lret hi hn hr hk
theorem x_retV (hi : tget (yT y) pc = some (.return_, n, t)) (hn : pc + 1 = n) (hr : yR y = none) (hk : k ≤ kf) (ho : o = .inl none) (hM : M' = M) : Fr G y d kf (Zm G o M' kf) k pc lv [] M := by
  subst ho; subst hM
  exact x_vret hi hn hr hk
/-- the machine's state by other words for the same -/
theorem x_eq {lv2 : List (Nat × Value)} {st2 : List Value} {M2 : Mm} (h : Fr G y d kf Z k pc lv2 st2 M2) (h1 : lv = lv2) (h2 : st = st2) (h3 : M = M2) : Fr G y d kf Z k pc lv st M := by
  subst h1; subst h2; subst h3; exact h
theorem x_getIv {v : Int32} (hv : M.1 q j = v) (hi : tget (yT y) pc = some (.getfield idx, n, t)) (hn : pc + 3 = n) (hf : FLk (yC y) idx ci j) (hs : shp q.1 = some (.inl ci)) (hc : q.2 < cnt q.1) (ht : ftyp ci j = .int) (kk : Fr G y d kf Z k n lv (.int v :: st) M) : Fr G y d kf Z k pc lv (.ref (ga G q) :: st) M :=
  x_getI hi hn hf hs hc ht (by rw [hv]; exact kk)
theorem x_getZv {v : Int32} (hv : M.1 q j = v) (hi : tget (yT y) pc = some (.getfield idx, n, t)) (hn : pc + 3 = n) (hf : FLk (yC y) idx ci j) (hs : shp q.1 = some (.inl ci)) (hc : q.2 < cnt q.1) (ht : ftyp ci j = .boolean) (kk : Fr G y d kf Z k n lv (.int v :: st) M) : Fr G y d kf Z k pc lv (.ref (ga G q) :: st) M :=
  x_getZ hi hn hf hs hc ht (by rw [hv]; exact kk)
theorem x_getLv {v : Int64} (hv : M.2 q j = v) (hi : tget (yT y) pc = some (.getfield idx, n, t)) (hn : pc + 3 = n) (hf : FLk (yC y) idx ci j) (hs : shp q.1 = some (.inl ci)) (hc : q.2 < cnt q.1) (ht : ftyp ci j = .long) (kk : Fr G y d kf Z k n lv (.long v :: st) M) : Fr G y d kf Z k pc lv (.ref (ga G q) :: st) M :=
  x_getL hi hn hf hs hc ht (by rw [hv]; exact kk)
theorem x_ialdv {v : Int32} {L a : Nat} (hv : M.1 q a = v) (hi : tget (yT y) pc = some (.iaload, n, t)) (hn : pc + 1 = n) (hs : shp q.1 = some (.inr (0, L))) (hc : q.2 < cnt q.1) (hin : a < L) (hL2 : L < 2 ^ 31) (kk : Fr G y d kf Z k n lv (.int v :: st) M) : Fr G y d kf Z k pc lv (.int (nI a) :: .ref (ga G q) :: st) M :=
  x_iald hi hn hs hc hin hL2 (by rw [hv]; exact kk)
theorem x_zaldv {v : Int32} {L a : Nat} (hv : M.1 q a = v) (hi : tget (yT y) pc = some (.baload, n, t)) (hn : pc + 1 = n) (hs : shp q.1 = some (.inr (2, L))) (hc : q.2 < cnt q.1) (hin : a < L) (hL2 : L < 2 ^ 31) (kk : Fr G y d kf Z k n lv (.int v :: st) M) : Fr G y d kf Z k pc lv (.int (nI a) :: .ref (ga G q) :: st) M :=
  x_zald hi hn hs hc hin hL2 (by rw [hv]; exact kk)
theorem x_laldv {v : Int64} {L a : Nat} (hv : M.2 q a = v) (hi : tget (yT y) pc = some (.laload, n, t)) (hn : pc + 1 = n) (hs : shp q.1 = some (.inr (1, L))) (hc : q.2 < cnt q.1) (hin : a < L) (hL2 : L < 2 ^ 31) (kk : Fr G y d kf Z k n lv (.long v :: st) M) : Fr G y d kf Z k pc lv (.int (nI a) :: .ref (ga G q) :: st) M :=
  x_lald hi hn hs hc hin hL2 (by rw [hv]; exact kk)
/-- a value by another word for it -/
theorem x_topI {x v : Int32} (h : x = v) (kk : Fr G y d kf Z k pc lv (.int v :: st) M) : Fr G y d kf Z k pc lv (.int x :: st) M := by rw [h]; exact kk
theorem x_topL {x v : Int64} (h : x = v) (kk : Fr G y d kf Z k pc lv (.long v :: st) M) : Fr G y d kf Z k pc lv (.long x :: st) M := by rw [h]; exact kk
theorem x_zast {L a : Nat} {x : Int32} (hi : tget (yT y) pc = some (.bastore, n, t)) (hn : pc + 1 = n) (hs : shp q.1 = some (.inr (2, L))) (hc : q.2 < cnt q.1) (hin : a < L) (hL2 : L < 2 ^ 31) (hx01 : x = 0 ∨ x = 1) (kk : Fr G y d kf Z k n lv st (ui M q a x)) : Fr G y d kf Z k pc lv (.int x :: .int (nI a) :: .ref (ga G q) :: st) M := by
  intro p e R s m args below meth c H locs ls C hx hH hL
  obtain ⟨hg, hok, ha, hb, hret, hlk, hml, hown, hwm, -⟩ := id C
  have hd := (hok.get hi).1
  subst hn
  rw [Nat.add_sub_cancel_left] at hd
  have h1 : H[ga G q]? = some (arrV (gk G 2) L (fun j => cval G M q (aty 2) j)) := hH.1.1 q _ hs hc
  have hvi : vp_in (nI a) L := vp_in_nI hin hL2
  have hcl : (nI a).toNatClampNeg = a := nI_clamp (by omega)
  refine W.zast ha hb h1 (arrOk (t := 2) (by decide) hg hwm L _) (fun z => by cases z) (by rw [arrV_size]; exact hvi) rfl rfl hd fun H1 e1 e2 e3 => ?_
  rw [hcl] at e1 ⊢
  have e1' : H1[ga G q]? = some ((arrV (gk G 2) L (fun j => cval G M q (aty 2) j)).setSlot a (.int x)) := by
    rw [e1]
    rcases hx01 with rfl | rfl <;> rfl
  exact kk p e R s m args below meth c H1 _ ls C hx (hH.stored (v := .int x) hg hs hc e3 e2 (cells_arr (by exact trivial) e1')) hL
theorem x_aaldi {r r' tt L a : Nat} {i : Nat} (hi : tget (yT y) pc = some (.aaload, n, t)) (hn : pc + 1 = n) (hs : shp r = some (.inr (tt, L))) (htt : tt = 3 ∨ tt = 4) (hc : i < cnt r) (hin : a < L) (hL2 : L < 2 ^ 31) (hr : rf (r, i) a = some (r', a)) (kk : Fr G y d kf Z k n lv (.ref (ga G (r', a)) :: st) M) : Fr G y d kf Z k pc lv (.int (nI a) :: .ref (ga G (r, i)) :: st) M :=
  x_aald hi hn hs htt hc hin hL2 hr kk
theorem x_callVi {y2 : Mt} {d2 k2 np : Nat} {u : u_T × Nat} {As rest : List Value} {v : Int32} {M2 : Mm} (hC : Ct G y2 d2 (.ref (ga G q) :: As) M (.inl (some (.int v))) M2 k2) (hi : tget (yT y) pc = some (.invokevirtual idx, n, t)) (hn : pc + 3 = n) (hl : LkV (yC y) idx y2 np) (hs : shp q.1 = some (.inl ci)) (hcl : vwCl[ci]? = some ((yN y2).cls, u)) (hc : q.2 < cnt q.1) (hnp : As.length = np) (hst : st = As.reverse ++ .ref (ga G q) :: rest) (hW : (rest.map fun v => v.category).sum ≤ 8) (hd : d2 + 1 ≤ d) (hk : k + k2 ≤ kf) (kk : Fr G y d kf Z (k + k2) n lv (.int v :: rest) M2) : Fr G y d kf Z k pc lv st M := x_callV hC hi hn hl hs hcl hc hnp hst hW hd hk kk
theorem x_callSi {y2 : Mt} {d2 k2 np : Nat} {As rest : List Value} {v : Int32} {M2 : Mm} (hC : Ct G y2 d2 As M (.inl (some (.int v))) M2 k2) (hi : tget (yT y) pc = some (.invokestatic idx, n, t)) (hn : pc + 3 = n) (hl : LkS (yC y) idx y2 np) (hnp : As.length = np) (hst : st = As.reverse ++ rest) (hW : (rest.map fun v => v.category).sum ≤ 8) (hd : d2 + 1 ≤ d) (hk : k + k2 ≤ kf) (kk : Fr G y d kf Z (k + k2) n lv (.int v :: rest) M2) : Fr G y d kf Z k pc lv st M := x_callS hC hi hn hl hnp hst hW hd hk kk
theorem x_callVl {y2 : Mt} {d2 k2 np : Nat} {u : u_T × Nat} {As rest : List Value} {v : Int64} {M2 : Mm} (hC : Ct G y2 d2 (.ref (ga G q) :: As) M (.inl (some (.long v))) M2 k2) (hi : tget (yT y) pc = some (.invokevirtual idx, n, t)) (hn : pc + 3 = n) (hl : LkV (yC y) idx y2 np) (hs : shp q.1 = some (.inl ci)) (hcl : vwCl[ci]? = some ((yN y2).cls, u)) (hc : q.2 < cnt q.1) (hnp : As.length = np) (hst : st = As.reverse ++ .ref (ga G q) :: rest) (hW : (rest.map fun v => v.category).sum ≤ 8) (hd : d2 + 1 ≤ d) (hk : k + k2 ≤ kf) (kk : Fr G y d kf Z (k + k2) n lv (.long v :: rest) M2) : Fr G y d kf Z k pc lv st M := x_callV hC hi hn hl hs hcl hc hnp hst hW hd hk kk
theorem x_callSl {y2 : Mt} {d2 k2 np : Nat} {As rest : List Value} {v : Int64} {M2 : Mm} (hC : Ct G y2 d2 As M (.inl (some (.long v))) M2 k2) (hi : tget (yT y) pc = some (.invokestatic idx, n, t)) (hn : pc + 3 = n) (hl : LkS (yC y) idx y2 np) (hnp : As.length = np) (hst : st = As.reverse ++ rest) (hW : (rest.map fun v => v.category).sum ≤ 8) (hd : d2 + 1 ≤ d) (hk : k + k2 ≤ kf) (kk : Fr G y d kf Z (k + k2) n lv (.long v :: rest) M2) : Fr G y d kf Z k pc lv st M := x_callS hC hi hn hl hnp hst hW hd hk kk
theorem x_callVv {y2 : Mt} {d2 k2 np : Nat} {u : u_T × Nat} {As rest : List Value}  {M2 : Mm} (hC : Ct G y2 d2 (.ref (ga G q) :: As) M (.inl (none)) M2 k2) (hi : tget (yT y) pc = some (.invokevirtual idx, n, t)) (hn : pc + 3 = n) (hl : LkV (yC y) idx y2 np) (hs : shp q.1 = some (.inl ci)) (hcl : vwCl[ci]? = some ((yN y2).cls, u)) (hc : q.2 < cnt q.1) (hnp : As.length = np) (hst : st = As.reverse ++ .ref (ga G q) :: rest) (hW : (rest.map fun v => v.category).sum ≤ 8) (hd : d2 + 1 ≤ d) (hk : k + k2 ≤ kf) (kk : Fr G y d kf Z (k + k2) n lv (rest) M2) : Fr G y d kf Z k pc lv st M := x_callV hC hi hn hl hs hcl hc hnp hst hW hd hk kk
theorem x_callSv {y2 : Mt} {d2 k2 np : Nat} {As rest : List Value}  {M2 : Mm} (hC : Ct G y2 d2 As M (.inl (none)) M2 k2) (hi : tget (yT y) pc = some (.invokestatic idx, n, t)) (hn : pc + 3 = n) (hl : LkS (yC y) idx y2 np) (hnp : As.length = np) (hst : st = As.reverse ++ rest) (hW : (rest.map fun v => v.category).sum ≤ 8) (hd : d2 + 1 ≤ d) (hk : k + k2 ≤ kf) (kk : Fr G y d kf Z (k + k2) n lv (rest) M2) : Fr G y d kf Z k pc lv st M := x_callS hC hi hn hl hnp hst hW hd hk kk
theorem x_ifN_eq {a : Nat} (ha : a < 2 ^ 31) {o9 : Int} (hi : tget (yT y) pc = some (.ifCond .eq o9, n, t)) (hn : pc + 3 = n) (kt : a = 0 → Fr G y d kf Z k t lv st M) (ke : ¬ a = 0 → Fr G y d kf Z k n lv st M) : Fr G y d kf Z k pc lv (.int (nI a) :: st) M :=
  x_if_eq hi hn (fun h => kt (by exact (nI_eq ha (by decide)).mp h)) (fun h => ke (by exact fun q9 => h (by rw [q9]; rfl)))
theorem x_ifN_ne {a : Nat} (ha : a < 2 ^ 31) {o9 : Int} (hi : tget (yT y) pc = some (.ifCond .ne o9, n, t)) (hn : pc + 3 = n) (kt : ¬ a = 0 → Fr G y d kf Z k t lv st M) (ke : a = 0 → Fr G y d kf Z k n lv st M) : Fr G y d kf Z k pc lv (.int (nI a) :: st) M :=
  x_if_ne hi hn (fun h => kt (by exact fun q9 => h (by rw [q9]; rfl))) (fun h => ke (by exact (nI_eq ha (by decide)).mp h))
theorem x_ifN_gt {a : Nat} (ha : a < 2 ^ 31) {o9 : Int} (hi : tget (yT y) pc = some (.ifCond .gt o9, n, t)) (hn : pc + 3 = n) (kt : 0 < a → Fr G y d kf Z k t lv st M) (ke : a = 0 → Fr G y d kf Z k n lv st M) : Fr G y d kf Z k pc lv (.int (nI a) :: st) M :=
  x_if_gt hi hn (fun h => kt (by exact (nI_ltI (by decide) ha).mp h)) (fun h => ke (by exact Nat.eq_zero_of_not_pos fun q9 => h ((nI_ltI (by decide) ha).mpr q9)))
theorem x_ifN_le {a : Nat} (ha : a < 2 ^ 31) {o9 : Int} (hi : tget (yT y) pc = some (.ifCond .le o9, n, t)) (hn : pc + 3 = n) (kt : a = 0 → Fr G y d kf Z k t lv st M) (ke : 0 < a → Fr G y d kf Z k n lv st M) : Fr G y d kf Z k pc lv (.int (nI a) :: st) M :=
  x_if_le hi hn (fun h => kt (by exact Nat.le_zero.mp ((nI_leI ha (by decide)).mp h))) (fun h => ke (by exact Nat.pos_of_ne_zero fun q9 => h (by rw [q9]; decide)))
theorem x_ifN_lt {a : Nat} (ha : a < 2 ^ 31) {o9 : Int} (hi : tget (yT y) pc = some (.ifCond .lt o9, n, t)) (hn : pc + 3 = n) (kt : False → Fr G y d kf Z k t lv st M) (ke : True → Fr G y d kf Z k n lv st M) : Fr G y d kf Z k pc lv (.int (nI a) :: st) M :=
  x_if_lt hi hn (fun h => kt (by exact nI_pos ha h)) (fun h => ke (by exact trivial))
theorem x_ifN_ge {a : Nat} (ha : a < 2 ^ 31) {o9 : Int} (hi : tget (yT y) pc = some (.ifCond .ge o9, n, t)) (hn : pc + 3 = n) (kt : True → Fr G y d kf Z k t lv st M) (ke : False → Fr G y d kf Z k n lv st M) : Fr G y d kf Z k pc lv (.int (nI a) :: st) M :=
  x_if_ge hi hn (fun h => kt (by exact trivial)) (fun h => ke (by exact h (nI_pos' ha)))
end XE
/-- a list of longs in the class: its cell, its row's cell, how many it can hold -/
def LLk (q q' : Ky) (N : Nat) : Prop := shp q.1 = some (.inl 0) ∧ q.2 < cnt q.1 ∧ rf q 0 = some q' ∧ shp q'.1 = some (.inr (1, N)) ∧ q'.2 < cnt q'.1 ∧ N ≤ 1000
