/-! the writer's spec: what is written, as lists -/
def lim (s : WS) : Option WS := if s.1.length ≤ 600 then some s else none
theorem fx_congr {f g : Nat → Int64} {e : Int64} : ∀ {n i : Nat}, (∀ k, i ≤ k → k < i + n → f k = g k) → fx f e i n = fx g e i n
  | 0, i, h => rfl
  | n + 1, i, h => by
    unfold fx
    rw [h i (Nat.le_refl _) (by omega), fx_congr (fun k h1 h2 => h k (by omega) (by omega))]
def lfx (l : List Int64) (e : Int64) : Option Nat := fx (fun k => l[k]?.getD 0) e 0 l.length
theorem LI.at {f : Nat → Int64} {l : List Int64} {k : Nat} (h : LI f l) (hk : k < l.length) : f k = l[k]?.getD 0 := by
  rw [h k l[k] (List.getElem?_eq_getElem hk), List.getElem?_eq_getElem hk]; rfl
theorem LI.fx {f : Nat → Int64} {l : List Int64} {e : Int64} (h : LI f l) : fx f e 0 l.length = lfx l e := fx_congr fun k _ hk => h.at (by omega)
theorem lfx_lt {l : List Int64} {e : Int64} {p : Nat} (h : lfx l e = some p) : p < l.length := by have := (fx_lt h).2; omega
/-- bytes i, i + 1 .. of a text, n of them -/
def ltF (t : Int64) : Nat → Nat → List Nat
  | _, 0 => []
  | i, n + 1 => (uN t / 2 ^ (8 * i) % 256) :: ltF t (i + 1) n
def addT (t : Int64) (s : WS) : WS := if t = 0 then s else (s.1, s.2.1 ++ [t], s.2.2)
def wstr (t : Int64) (s : WS) : Option WS := match lfx s.2.1 t with
  | some p => wbs (numB (2 * p)) s
  | none => (wbs (numB (2 * cz (uN t) 0 7 + 1)) s).bind fun s1 => (wbs (ltF t 0 (cz (uN t) 0 7)) s1).bind fun s2 => some (addT t s2)
def wstrs : List Int64 → WS → Option WS
  | [], s => some s
  | t :: l, s => (wstr t s).bind (wstrs l)
def addR (t : Nat) (s : WS) : WS := (s.1, s.2.1, s.2.2.1, s.2.2.2 ++ [t])
def addH (t : Nat) (s : WS) : WS := (s.1, s.2.1, s.2.2.1 ++ [t], s.2.2.2)
def wtr (A : Ab) (t : Nat) (s : WS) : Option WS := match lfx (s.2.2.2.map lN) (lN t) with
  | some p => wbs (numB (4 * p + 1)) s
  | none => match (aT A)[t]? with
    | none => none
    | some x => (wbs (numB (16 * (rM x).length + (if rD x = true then 8 else 0) + 3)) (addR t s)).bind fun s1 => (wstr (rN x) s1).bind (wstrs (rM x))
def wpair (rec : Int64 → WS → Option WS) : List Int64 → List Int64 → WS → Option WS
  | k :: ks, v :: vs, s => (wstr k s).bind fun s1 => (rec v s1).bind (wpair rec ks vs)
  | _, _, s => wstr 0 s
def witem (rec : Int64 → WS → Option WS) : List Int64 → WS → Option WS
  | [], s => some s
  | v :: l, s => (rec v s).bind (witem rec l)
def dynA (A : Ab) (x : Th) : Bool := match (aT A)[tT x]? with
  | some y => rD y
  | none => false
def itB (l : List Int64) : List Nat := l.map fun v => uN (sh4 v)
def wbytes (l : List Int64) (s : WS) : Option WS := (wbs (numB (2 * l.length + 1)) s).bind (wbs (itB l))
def wdate (v : Int64) (s : WS) : Option WS := (wbs (numB 1) s).bind (wbs (eightB v))
def warr (rec : Int64 → WS → Option WS) (x : Th) (s : WS) : Option WS := (wbs (numB (2 * (tL x).length + 1)) s).bind fun s1 => (wpair rec (tY x) (tV x) s1).bind (witem rec (tL x))
def wobj (A : Ab) (rec : Int64 → WS → Option WS) (x : Th) (s : WS) : Option WS := (wtr A (tT x) s).bind fun s1 => (witem rec (tL x) s1).bind fun s2 => if dynA A x = true then wpair rec (tY x) (tV x) s2 else some s2
def win (A : Ab) (rec : Int64 → WS → Option WS) (x : Th) (s : WS) : Option WS :=
  if tK x = 8 then wdate (tD x) s else if tK x = 12 then wbytes (tL x) s else if tK x = 9 then warr rec x s else wobj A rec x s
def wth1 (A : Ab) (rec : Option (Int64 → WS → Option WS)) (x : Th) (i : Nat) (s : WS) : Option WS := match lfx (s.2.2.1.map lN) (lN i) with
  | some p => wbs (numB (2 * p)) s
  | none => match rec with
    | none => none
    | some rec => win A rec x (addH i s)
def wthing (A : Ab) (rec : Option (Int64 → WS → Option WS)) (i : Nat) (s : WS) : Option WS := match (aH A)[i]? with
  | none => none
  | some x => (wb (tK x) s).bind (wth1 A rec x i)
def wv1 (A : Ab) (v : Int64) (s : WS) : Option WS :=
  if uN v % 16 = 4 then wbs (numB (uN (sh4 v) % 536870912)) s else if uN v % 16 = 5 then wbs (eightB ((aW A)[uN (sh4 v)]?.getD 0)) s else if uN v % 16 = 6 then wstr (sh4 v) s else some s
def wvalS (A : Ab) (rec : Option (Int64 → WS → Option WS)) (v : Int64) (s : WS) : Option WS :=
  if uN v % 16 = 7 then wthing A rec (uN (sh4 v)) s else (wb (uN v % 16) s).bind (wv1 A v)
def wval (A : Ab) : Nat → Int64 → WS → Option WS
  | 0 => wvalS A none
  | dl + 1 => wvalS A (some (wval A dl))
theorem l2i_sb (x : Int64) {k : Nat} (hk : k ≤ 56) : ((x >>> ((nI k).toInt64 &&& 63)) &&& 255).toInt32 = nI (uN x / 2 ^ k % 256) := by
  rw [l2i_small (by rw [uN_sbyte x hk]; omega), uN_sbyte x hk]
section W1
variable {G : Gd} {d : Nat} {M : Mm} {s : WS}
set_option maxHeartbeats 4000000 in
set_option maxRecDepth 20000 in
theorem c_writeByteO (hG : Gok G) (b : Nat) {n : Nat} (hn : M.1 (19, 0) 5 = nI n) (hn2 : n < 600) : Ct G mX7_writeByte d [.ref (ga G (19, 0)), .int (nI b)] M (.inl none) (ui (ui M (26, 0) n (nI b)) (19, 0) 5 (nI (n + 1))) 0 := by
  refine ct_of hG okX7_writeByte (by decide +kernel) rfl (Nat.le_of_ble_eq_true rfl) ?_
  refine x_aload_n rfl rfl rfl ?_
  refine x_getIv (v := nI n) hn rfl rfl f_7_37 rfl (by decide) rfl ?_
  refine x_sipush (v := nI 600) rfl rfl (by decide +kernel) ?_
  refine x_icmpN_ne (by omega) (by omega) rfl rfl (fun hc1 => ?_) (fun hc1 => absurd hc1 (by omega))
  refine x_aload_n rfl rfl rfl ?_
  refine x_getR0 rfl rfl f_7_26 rfl (by decide) rfl rfl ?_
  refine x_aload_n rfl rfl rfl ?_
  refine x_getIv (v := nI n) hn rfl rfl f_7_37 rfl (by decide) rfl ?_
  refine x_iload_n rfl rfl rfl ?_
  refine x_iast (a := n) rfl rfl rfl (by decide) (by omega) (by decide) ?_
  refine x_aload_n rfl rfl rfl ?_
  refine x_dup rfl rfl rfl ?_
  refine x_getIv (v := nI n) (by first | exact hn | (rw [← hn]; rfl) | simp [ui, ul, hn]) rfl rfl f_7_37 rfl (by decide) rfl ?_
  refine x_iconstN (b := 1) rfl rfl ?_
  refine x_iaddN (a := n) (b := 1) rfl rfl ?_
  refine x_putI rfl rfl f_7_37 rfl rfl (by decide) rfl ?_
  exact x_retV rfl rfl rfl (by omega) rfl rfl
set_option maxHeartbeats 4000000 in
set_option maxRecDepth 20000 in
theorem c_writeByteX (hG : Gok G) (hd : 6 ≤ d) (b : Nat) (hn : M.1 (19, 0) 5 = nI 600) : Ct G mX7_writeByte d [.ref (ga G (19, 0)), .int (nI b)] M (.inr "java/lang/IllegalStateException") M 1 := by
  refine ct_of hG okX7_writeByte (by decide +kernel) rfl (Nat.le_of_ble_eq_true rfl) ?_
  refine x_aload_n rfl rfl rfl ?_
  refine x_getIv (v := nI 600) hn rfl rfl f_7_37 rfl (by decide) rfl ?_
  refine x_sipush (v := nI 600) rfl rfl (by decide +kernel) ?_
  refine x_icmpN_ne (by omega) (by omega) rfl rfl (fun hc1 => absurd hc1 (by omega)) (fun hc1 => ?_)
  exact x_throw rfl rfl rfl rfl rfl rfl rfl rfl th_7_84_86 (Nat.le_of_ble_eq_true rfl) (by omega) (by omega)
theorem c_writeByte (hG : Gok G) (hd : 6 ≤ d) (hw : WrC s M) (b : Nat) : CW G mX7_writeByte d [.ref (ga G (19, 0)), .int (nI b)] M (wb b s) := by
  obtain ⟨h1, h2, h3, h4, h5, h6, h7, h8, h9⟩ := hw
  by_cases h : s.1.length < 600
  · have e : wb b s = some (s.1 ++ [b], s.2) := if_pos h
    rw [e]
    refine Ct.e (c_writeByteO hG b h1 h) ⟨(Eqn.rf.ui (by unfold onW; omega)).ui (by unfold onW; omega), fun s' hs => ?_⟩
    cases hs
    have hq : Eqn (fun r => r ≠ 19 ∧ r ≠ 26) M (ui (ui M (26, 0) s.1.length (nI b)) (19, 0) 5 (nI (s.1.length + 1))) := (Eqn.rf.ui (by omega)).ui (by omega)
    refine ⟨?_, ?_, ?_, h4.eqn hq (by decide) (by decide), h5.eqn hq (by decide) (by decide), h6.eqn hq (by decide) (by decide), ?_, h8, h9⟩
    · simp [ui]
    · exact h2.push (fun k hk => by simp [ui]; omega) (by simp [ui])
    · simp; omega
    · simp; omega
  · have e : wb b s = none := if_neg h
    rw [e]
    exact Ct.e (c_writeByteX hG hd b (by rw [h1, show s.1.length = 600 by omega])) ⟨Eqn.rf, fun s' hs => by cases hs⟩
set_option maxHeartbeats 4000000 in
set_option maxRecDepth 20000 in
theorem c_writeNumberD (hG : Gok G) (hd : 7 ≤ d) (hw0 : WrC s M) {n : Nat} (hn : n < 536870912) (hc : 2097152 ≤ n) : CW G mX7_writeNumber d [.ref (ga G (19, 0)), .int (nI n)] M (wbs [128 + n / 4194304, 128 + n / 32768 % 128, 128 + n / 256 % 128, n % 256] s) := by
  have hS0 : Eqn onW M M := Eqn.rf
  refine w_of hG okX7_writeNumber (by decide +kernel) rfl (Nat.le_of_ble_eq_true rfl) ?_
  refine x_iload_n rfl rfl rfl ?_
  refine x_ldc (v := 2097152) rfl rfl k_7_155 ?_
  refine x_topI (v := nI 2097152) (by decide +kernel) ?_
  refine x_icmpN_lt (by omega) (by omega) rfl rfl (fun hc1 => absurd hc1 (by omega)) (fun hc1 => ?_)
  refine x_aload_n rfl rfl rfl ?_
  refine x_sipush (v := nI 128) rfl rfl (by decide +kernel) ?_
  refine x_iload_n rfl rfl rfl ?_
  refine x_bipush (v := nI 22) rfl rfl (by decide +kernel) ?_
  refine x_ishr rfl rfl ?_
  refine x_topI (v := nI (n / 4194304)) (pk_shrN (by omega) _ 22 (by decide +kernel)) ?_
  refine x_iaddN (a := 128) (b := n / 4194304) rfl rfl ?_
  refine w_callV (d2 := 6) (c_writeByte hG (by omega) hw0 (128 + (n / 4194304))) hS0 rfl rfl v_7_53 rfl rfl (by decide) rfl rfl (Nat.le_of_ble_eq_true rfl) (by omega) (fun s1 M1 e1 hw1 hS1 => ?_)
  refine x_aload_n rfl rfl rfl ?_
  refine x_sipush (v := nI 128) rfl rfl (by decide +kernel) ?_
  refine x_iload_n rfl rfl rfl ?_
  refine x_bipush (v := nI 15) rfl rfl (by decide +kernel) ?_
  refine x_ishr rfl rfl ?_
  refine x_topI (v := nI (n / 32768)) (pk_shrN (by omega) _ 15 (by decide +kernel)) ?_
  refine x_bipush (v := nI 127) rfl rfl (by decide +kernel) ?_
  refine x_iand rfl rfl ?_
  refine x_topI (v := nI ((n / 32768) % 128)) (pk_andN (by omega) 7 (by decide +kernel)) ?_
  refine x_iaddN (a := 128) (b := (n / 32768) % 128) rfl rfl ?_
  refine w_callV (d2 := 6) (c_writeByte hG (by omega) hw1 (128 + ((n / 32768) % 128))) hS1 rfl rfl v_7_53 rfl rfl (by decide) rfl rfl (Nat.le_of_ble_eq_true rfl) (by omega) (fun s2 M2 e2 hw2 hS2 => ?_)
  refine x_aload_n rfl rfl rfl ?_
  refine x_sipush (v := nI 128) rfl rfl (by decide +kernel) ?_
  refine x_iload_n rfl rfl rfl ?_
  refine x_bipush (v := nI 8) rfl rfl (by decide +kernel) ?_
  refine x_ishr rfl rfl ?_
  refine x_topI (v := nI (n / 256)) (pk_shrN (by omega) _ 8 (by decide +kernel)) ?_
  refine x_bipush (v := nI 127) rfl rfl (by decide +kernel) ?_
  refine x_iand rfl rfl ?_
  refine x_topI (v := nI ((n / 256) % 128)) (pk_andN (by omega) 7 (by decide +kernel)) ?_
  refine x_iaddN (a := 128) (b := (n / 256) % 128) rfl rfl ?_
  refine w_callV (d2 := 6) (c_writeByte hG (by omega) hw2 (128 + ((n / 256) % 128))) hS2 rfl rfl v_7_53 rfl rfl (by decide) rfl rfl (Nat.le_of_ble_eq_true rfl) (by omega) (fun s3 M3 e3 hw3 hS3 => ?_)
  refine x_aload_n rfl rfl rfl ?_
  refine x_iload_n rfl rfl rfl ?_
  refine x_sipush (v := nI 255) rfl rfl (by decide +kernel) ?_
  refine x_iand rfl rfl ?_
  refine x_topI (v := nI (n % 256)) (pk_andN (by omega) 8 (by decide +kernel)) ?_
  refine w_callV (d2 := 6) (c_writeByte hG (by omega) hw3 (n % 256)) hS3 rfl rfl v_7_53 rfl rfl (by decide) rfl rfl (Nat.le_of_ble_eq_true rfl) (by omega) (fun s4 M4 e4 hw4 hS4 => ?_)
  exact w_ret rfl hw4 hS4 rfl rfl rfl
set_option maxHeartbeats 4000000 in
set_option maxRecDepth 20000 in
theorem c_writeNumberC (hG : Gok G) (hd : 7 ≤ d) (hw0 : WrC s M) {n : Nat} (hn : n < 536870912) (hc : n < 2097152 ∧ 16384 ≤ n) : CW G mX7_writeNumber d [.ref (ga G (19, 0)), .int (nI n)] M (wbs [128 + n / 16384, 128 + n / 128 % 128, n % 128] s) := by
  have hS0 : Eqn onW M M := Eqn.rf
  refine w_of hG okX7_writeNumber (by decide +kernel) rfl (Nat.le_of_ble_eq_true rfl) ?_
  refine x_iload_n rfl rfl rfl ?_
  refine x_ldc (v := 2097152) rfl rfl k_7_155 ?_
  refine x_topI (v := nI 2097152) (by decide +kernel) ?_
  refine x_icmpN_lt (by omega) (by omega) rfl rfl (fun hc1 => ?_) (fun hc1 => absurd hc1 (by omega))
  refine x_iload_n rfl rfl rfl ?_
  refine x_sipush (v := nI 16384) rfl rfl (by decide +kernel) ?_
  refine x_icmpN_lt (by omega) (by omega) rfl rfl (fun hc2 => absurd hc2 (by omega)) (fun hc2 => ?_)
  refine x_aload_n rfl rfl rfl ?_
  refine x_sipush (v := nI 128) rfl rfl (by decide +kernel) ?_
  refine x_iload_n rfl rfl rfl ?_
  refine x_bipush (v := nI 14) rfl rfl (by decide +kernel) ?_
  refine x_ishr rfl rfl ?_
  refine x_topI (v := nI (n / 16384)) (pk_shrN (by omega) _ 14 (by decide +kernel)) ?_
  refine x_iaddN (a := 128) (b := n / 16384) rfl rfl ?_
  refine w_callV (d2 := 6) (c_writeByte hG (by omega) hw0 (128 + (n / 16384))) hS0 rfl rfl v_7_53 rfl rfl (by decide) rfl rfl (Nat.le_of_ble_eq_true rfl) (by omega) (fun s1 M1 e1 hw1 hS1 => ?_)
  refine x_iload_n rfl rfl rfl ?_
  refine x_sipush (v := nI 128) rfl rfl (by decide +kernel) ?_
  refine x_icmpN_lt (by omega) (by omega) rfl rfl (fun hc3 => absurd hc3 (by omega)) (fun hc3 => ?_)
  refine x_aload_n rfl rfl rfl ?_
  refine x_sipush (v := nI 128) rfl rfl (by decide +kernel) ?_
  refine x_iload_n rfl rfl rfl ?_
  refine x_bipush (v := nI 7) rfl rfl (by decide +kernel) ?_
  refine x_ishr rfl rfl ?_
  refine x_topI (v := nI (n / 128)) (pk_shrN (by omega) _ 7 (by decide +kernel)) ?_
  refine x_bipush (v := nI 127) rfl rfl (by decide +kernel) ?_
  refine x_iand rfl rfl ?_
  refine x_topI (v := nI ((n / 128) % 128)) (pk_andN (by omega) 7 (by decide +kernel)) ?_
  refine x_iaddN (a := 128) (b := (n / 128) % 128) rfl rfl ?_
  refine w_callV (d2 := 6) (c_writeByte hG (by omega) hw1 (128 + ((n / 128) % 128))) hS1 rfl rfl v_7_53 rfl rfl (by decide) rfl rfl (Nat.le_of_ble_eq_true rfl) (by omega) (fun s2 M2 e2 hw2 hS2 => ?_)
  refine x_aload_n rfl rfl rfl ?_
  refine x_iload_n rfl rfl rfl ?_
  refine x_bipush (v := nI 127) rfl rfl (by decide +kernel) ?_
  refine x_iand rfl rfl ?_
  refine x_topI (v := nI (n % 128)) (pk_andN (by omega) 7 (by decide +kernel)) ?_
  refine w_callV (d2 := 6) (c_writeByte hG (by omega) hw2 (n % 128)) hS2 rfl rfl v_7_53 rfl rfl (by decide) rfl rfl (Nat.le_of_ble_eq_true rfl) (by omega) (fun s3 M3 e3 hw3 hS3 => ?_)
  exact w_ret rfl hw3 hS3 rfl rfl rfl
set_option maxHeartbeats 4000000 in
set_option maxRecDepth 20000 in
theorem c_writeNumberB (hG : Gok G) (hd : 7 ≤ d) (hw0 : WrC s M) {n : Nat} (hn : n < 536870912) (hc : n < 16384 ∧ 128 ≤ n) : CW G mX7_writeNumber d [.ref (ga G (19, 0)), .int (nI n)] M (wbs [128 + n / 128 % 128, n % 128] s) := by
  have hS0 : Eqn onW M M := Eqn.rf
  refine w_of hG okX7_writeNumber (by decide +kernel) rfl (Nat.le_of_ble_eq_true rfl) ?_
  refine x_iload_n rfl rfl rfl ?_
  refine x_ldc (v := 2097152) rfl rfl k_7_155 ?_
  refine x_topI (v := nI 2097152) (by decide +kernel) ?_
  refine x_icmpN_lt (by omega) (by omega) rfl rfl (fun hc1 => ?_) (fun hc1 => absurd hc1 (by omega))
  refine x_iload_n rfl rfl rfl ?_
  refine x_sipush (v := nI 16384) rfl rfl (by decide +kernel) ?_
  refine x_icmpN_lt (by omega) (by omega) rfl rfl (fun hc2 => ?_) (fun hc2 => absurd hc2 (by omega))
  refine x_iload_n rfl rfl rfl ?_
  refine x_sipush (v := nI 128) rfl rfl (by decide +kernel) ?_
  refine x_icmpN_lt (by omega) (by omega) rfl rfl (fun hc3 => absurd hc3 (by omega)) (fun hc3 => ?_)
  refine x_aload_n rfl rfl rfl ?_
  refine x_sipush (v := nI 128) rfl rfl (by decide +kernel) ?_
  refine x_iload_n rfl rfl rfl ?_
  refine x_bipush (v := nI 7) rfl rfl (by decide +kernel) ?_
  refine x_ishr rfl rfl ?_
  refine x_topI (v := nI (n / 128)) (pk_shrN (by omega) _ 7 (by decide +kernel)) ?_
  refine x_bipush (v := nI 127) rfl rfl (by decide +kernel) ?_
  refine x_iand rfl rfl ?_
  refine x_topI (v := nI ((n / 128) % 128)) (pk_andN (by omega) 7 (by decide +kernel)) ?_
  refine x_iaddN (a := 128) (b := (n / 128) % 128) rfl rfl ?_
  refine w_callV (d2 := 6) (c_writeByte hG (by omega) hw0 (128 + ((n / 128) % 128))) hS0 rfl rfl v_7_53 rfl rfl (by decide) rfl rfl (Nat.le_of_ble_eq_true rfl) (by omega) (fun s1 M1 e1 hw1 hS1 => ?_)
  refine x_aload_n rfl rfl rfl ?_
  refine x_iload_n rfl rfl rfl ?_
  refine x_bipush (v := nI 127) rfl rfl (by decide +kernel) ?_
  refine x_iand rfl rfl ?_
  refine x_topI (v := nI (n % 128)) (pk_andN (by omega) 7 (by decide +kernel)) ?_
  refine w_callV (d2 := 6) (c_writeByte hG (by omega) hw1 (n % 128)) hS1 rfl rfl v_7_53 rfl rfl (by decide) rfl rfl (Nat.le_of_ble_eq_true rfl) (by omega) (fun s2 M2 e2 hw2 hS2 => ?_)
  exact w_ret rfl hw2 hS2 rfl rfl rfl
set_option maxHeartbeats 4000000 in
set_option maxRecDepth 20000 in
theorem c_writeNumberA (hG : Gok G) (hd : 7 ≤ d) (hw0 : WrC s M) {n : Nat} (hn : n < 536870912) (hc : n < 128) : CW G mX7_writeNumber d [.ref (ga G (19, 0)), .int (nI n)] M (wbs [n % 128] s) := by
  have hS0 : Eqn onW M M := Eqn.rf
  refine w_of hG okX7_writeNumber (by decide +kernel) rfl (Nat.le_of_ble_eq_true rfl) ?_
  refine x_iload_n rfl rfl rfl ?_
  refine x_ldc (v := 2097152) rfl rfl k_7_155 ?_
  refine x_topI (v := nI 2097152) (by decide +kernel) ?_
  refine x_icmpN_lt (by omega) (by omega) rfl rfl (fun hc1 => ?_) (fun hc1 => absurd hc1 (by omega))
  refine x_iload_n rfl rfl rfl ?_
  refine x_sipush (v := nI 16384) rfl rfl (by decide +kernel) ?_
  refine x_icmpN_lt (by omega) (by omega) rfl rfl (fun hc2 => ?_) (fun hc2 => absurd hc2 (by omega))
  refine x_iload_n rfl rfl rfl ?_
  refine x_sipush (v := nI 128) rfl rfl (by decide +kernel) ?_
  refine x_icmpN_lt (by omega) (by omega) rfl rfl (fun hc3 => ?_) (fun hc3 => absurd hc3 (by omega))
  refine x_aload_n rfl rfl rfl ?_
  refine x_iload_n rfl rfl rfl ?_
  refine x_bipush (v := nI 127) rfl rfl (by decide +kernel) ?_
  refine x_iand rfl rfl ?_
  refine x_topI (v := nI (n % 128)) (pk_andN (by omega) 7 (by decide +kernel)) ?_
  refine w_callV (d2 := 6) (c_writeByte hG (by omega) hw0 (n % 128)) hS0 rfl rfl v_7_53 rfl rfl (by decide) rfl rfl (Nat.le_of_ble_eq_true rfl) (by omega) (fun s1 M1 e1 hw1 hS1 => ?_)
  exact w_ret rfl hw1 hS1 rfl rfl rfl
theorem c_writeNumber (hG : Gok G) (hd : 7 ≤ d) (hw0 : WrC s M) {n : Nat} (hn : n < 536870912) : CW G mX7_writeNumber d [.ref (ga G (19, 0)), .int (nI n)] M (wbs (numB n) s) := by
  unfold numB
  by_cases h1 : n < 128
  · rw [if_pos h1]
    have := c_writeNumberA hG hd hw0 hn h1
    rwa [Nat.mod_eq_of_lt h1] at this
  rw [if_neg h1]
  by_cases h2 : n < 16384
  · rw [if_pos h2]
    have := c_writeNumberB hG hd hw0 hn ⟨h2, by omega⟩
    rwa [Nat.mod_eq_of_lt (show n / 128 < 128 by omega)] at this
  rw [if_neg h2]
  by_cases h3 : n < 2097152
  · rw [if_pos h3]
    exact c_writeNumberC hG hd hw0 hn ⟨h3, by omega⟩
  rw [if_neg h3]
  exact c_writeNumberD hG hd hw0 hn (by omega)
set_option maxHeartbeats 4000000 in
set_option maxRecDepth 20000 in
theorem c_writeEight (hG : Gok G) (hd : 7 ≤ d) (hw0 : WrC s M) (v : Int64) : CW G mX7_writeEight d [.ref (ga G (19, 0)), .long (v)] M (wbs (eightB v) s) := by
  have hS0 : Eqn onW M M := Eqn.rf
  refine w_of hG okX7_writeEight (by decide +kernel) rfl (Nat.le_of_ble_eq_true rfl) ?_
  refine x_bipush (v := nI 56) rfl rfl (by decide +kernel) ?_
  refine x_istore_n rfl rfl rfl rfl ?_
  refine x_iload_n rfl rfl rfl ?_
  refine x_if_lt rfl rfl (fun hc1 => absurd hc1 (by decide +kernel)) (fun _ => ?_)
  refine x_aload_n rfl rfl rfl ?_
  refine x_lload_n rfl rfl rfl ?_
  refine x_iload_n rfl rfl rfl ?_
  refine x_lshr rfl rfl ?_
  refine x_ldc2 (v := 255) rfl rfl k_7_153 ?_
  refine x_land rfl rfl ?_
  refine x_l2i rfl rfl ?_
  refine x_topI (v := nI (uN v / 2 ^ 56 % 256)) (l2i_sb v (by omega)) ?_
  refine w_callV (d2 := 6) (c_writeByte hG (by omega) hw0 (uN v / 2 ^ 56 % 256)) hS0 rfl rfl v_7_53 rfl rfl (by decide) rfl rfl (Nat.le_of_ble_eq_true rfl) (by omega) (fun s1 M1 e1 hw1 hS1 => ?_)
  refine x_iinc (v := nI 48) rfl rfl rfl (by decide +kernel) rfl rfl ?_
  refine x_goto rfl rfl ?_
  refine x_iload_n rfl rfl rfl ?_
  refine x_if_lt rfl rfl (fun hc2 => absurd hc2 (by decide +kernel)) (fun _ => ?_)
  refine x_aload_n rfl rfl rfl ?_
  refine x_lload_n rfl rfl rfl ?_
  refine x_iload_n rfl rfl rfl ?_
  refine x_lshr rfl rfl ?_
  refine x_ldc2 (v := 255) rfl rfl k_7_153 ?_
  refine x_land rfl rfl ?_
  refine x_l2i rfl rfl ?_
  refine x_topI (v := nI (uN v / 2 ^ 48 % 256)) (l2i_sb v (by omega)) ?_
  refine w_callV (d2 := 6) (c_writeByte hG (by omega) hw1 (uN v / 2 ^ 48 % 256)) hS1 rfl rfl v_7_53 rfl rfl (by decide) rfl rfl (Nat.le_of_ble_eq_true rfl) (by omega) (fun s2 M2 e2 hw2 hS2 => ?_)
  refine x_iinc (v := nI 40) rfl rfl rfl (by decide +kernel) rfl rfl ?_
  refine x_goto rfl rfl ?_
  refine x_iload_n rfl rfl rfl ?_
  refine x_if_lt rfl rfl (fun hc3 => absurd hc3 (by decide +kernel)) (fun _ => ?_)
  refine x_aload_n rfl rfl rfl ?_
  refine x_lload_n rfl rfl rfl ?_
  refine x_iload_n rfl rfl rfl ?_
  refine x_lshr rfl rfl ?_
  refine x_ldc2 (v := 255) rfl rfl k_7_153 ?_
  refine x_land rfl rfl ?_
  refine x_l2i rfl rfl ?_
  refine x_topI (v := nI (uN v / 2 ^ 40 % 256)) (l2i_sb v (by omega)) ?_
  refine w_callV (d2 := 6) (c_writeByte hG (by omega) hw2 (uN v / 2 ^ 40 % 256)) hS2 rfl rfl v_7_53 rfl rfl (by decide) rfl rfl (Nat.le_of_ble_eq_true rfl) (by omega) (fun s3 M3 e3 hw3 hS3 => ?_)
  refine x_iinc (v := nI 32) rfl rfl rfl (by decide +kernel) rfl rfl ?_
  refine x_goto rfl rfl ?_
  refine x_iload_n rfl rfl rfl ?_
  refine x_if_lt rfl rfl (fun hc4 => absurd hc4 (by decide +kernel)) (fun _ => ?_)
  refine x_aload_n rfl rfl rfl ?_
  refine x_lload_n rfl rfl rfl ?_
  refine x_iload_n rfl rfl rfl ?_
  refine x_lshr rfl rfl ?_
  refine x_ldc2 (v := 255) rfl rfl k_7_153 ?_
  refine x_land rfl rfl ?_
  refine x_l2i rfl rfl ?_
  refine x_topI (v := nI (uN v / 2 ^ 32 % 256)) (l2i_sb v (by omega)) ?_
  refine w_callV (d2 := 6) (c_writeByte hG (by omega) hw3 (uN v / 2 ^ 32 % 256)) hS3 rfl rfl v_7_53 rfl rfl (by decide) rfl rfl (Nat.le_of_ble_eq_true rfl) (by omega) (fun s4 M4 e4 hw4 hS4 => ?_)
  refine x_iinc (v := nI 24) rfl rfl rfl (by decide +kernel) rfl rfl ?_
  refine x_goto rfl rfl ?_
  refine x_iload_n rfl rfl rfl ?_
  refine x_if_lt rfl rfl (fun hc5 => absurd hc5 (by decide +kernel)) (fun _ => ?_)
  refine x_aload_n rfl rfl rfl ?_
  refine x_lload_n rfl rfl rfl ?_
  refine x_iload_n rfl rfl rfl ?_
  refine x_lshr rfl rfl ?_
  refine x_ldc2 (v := 255) rfl rfl k_7_153 ?_
  refine x_land rfl rfl ?_
  refine x_l2i rfl rfl ?_
  refine x_topI (v := nI (uN v / 2 ^ 24 % 256)) (l2i_sb v (by omega)) ?_
  refine w_callV (d2 := 6) (c_writeByte hG (by omega) hw4 (uN v / 2 ^ 24 % 256)) hS4 rfl rfl v_7_53 rfl rfl (by decide) rfl rfl (Nat.le_of_ble_eq_true rfl) (by omega) (fun s5 M5 e5 hw5 hS5 => ?_)
  refine x_iinc (v := nI 16) rfl rfl rfl (by decide +kernel) rfl rfl ?_
  refine x_goto rfl rfl ?_
  refine x_iload_n rfl rfl rfl ?_
  refine x_if_lt rfl rfl (fun hc6 => absurd hc6 (by decide +kernel)) (fun _ => ?_)
  refine x_aload_n rfl rfl rfl ?_
  refine x_lload_n rfl rfl rfl ?_
  refine x_iload_n rfl rfl rfl ?_
  refine x_lshr rfl rfl ?_
  refine x_ldc2 (v := 255) rfl rfl k_7_153 ?_
  refine x_land rfl rfl ?_
  refine x_l2i rfl rfl ?_
  refine x_topI (v := nI (uN v / 2 ^ 16 % 256)) (l2i_sb v (by omega)) ?_
  refine w_callV (d2 := 6) (c_writeByte hG (by omega) hw5 (uN v / 2 ^ 16 % 256)) hS5 rfl rfl v_7_53 rfl rfl (by decide) rfl rfl (Nat.le_of_ble_eq_true rfl) (by omega) (fun s6 M6 e6 hw6 hS6 => ?_)
  refine x_iinc (v := nI 8) rfl rfl rfl (by decide +kernel) rfl rfl ?_
  refine x_goto rfl rfl ?_
  refine x_iload_n rfl rfl rfl ?_
  refine x_if_lt rfl rfl (fun hc7 => absurd hc7 (by decide +kernel)) (fun _ => ?_)
  refine x_aload_n rfl rfl rfl ?_
  refine x_lload_n rfl rfl rfl ?_
  refine x_iload_n rfl rfl rfl ?_
  refine x_lshr rfl rfl ?_
  refine x_ldc2 (v := 255) rfl rfl k_7_153 ?_
  refine x_land rfl rfl ?_
  refine x_l2i rfl rfl ?_
  refine x_topI (v := nI (uN v / 2 ^ 8 % 256)) (l2i_sb v (by omega)) ?_
  refine w_callV (d2 := 6) (c_writeByte hG (by omega) hw6 (uN v / 2 ^ 8 % 256)) hS6 rfl rfl v_7_53 rfl rfl (by decide) rfl rfl (Nat.le_of_ble_eq_true rfl) (by omega) (fun s7 M7 e7 hw7 hS7 => ?_)
  refine x_iinc (v := nI 0) rfl rfl rfl (by decide +kernel) rfl rfl ?_
  refine x_goto rfl rfl ?_
  refine x_iload_n rfl rfl rfl ?_
  refine x_if_lt rfl rfl (fun hc8 => absurd hc8 (by decide +kernel)) (fun _ => ?_)
  refine x_aload_n rfl rfl rfl ?_
  refine x_lload_n rfl rfl rfl ?_
  refine x_iload_n rfl rfl rfl ?_
  refine x_lshr rfl rfl ?_
  refine x_ldc2 (v := 255) rfl rfl k_7_153 ?_
  refine x_land rfl rfl ?_
  refine x_l2i rfl rfl ?_
  refine x_topI (v := nI (uN v / 2 ^ 0 % 256)) (l2i_sb v (by omega)) ?_
  refine w_callV (d2 := 6) (c_writeByte hG (by omega) hw7 (uN v / 2 ^ 0 % 256)) hS7 rfl rfl v_7_53 rfl rfl (by decide) rfl rfl (Nat.le_of_ble_eq_true rfl) (by omega) (fun s8 M8 e8 hw8 hS8 => ?_)
  refine x_iinc (v := (-8)) rfl rfl rfl (by decide +kernel) rfl rfl ?_
  refine x_goto rfl rfl ?_
  refine x_iload_n rfl rfl rfl ?_
  refine x_if_lt rfl rfl (fun _ => ?_) (fun hc9 => absurd (by decide +kernel) hc9)
  exact w_ret rfl hw8 hS8 rfl rfl rfl
end W1
