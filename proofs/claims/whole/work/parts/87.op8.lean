/-! what is read is well made -/
def vS (s : RS) (v : Int64) : Prop := isV (pW s).length (pH s).length v
def tS (s : RS) (x : Th) : Prop := thOK (pW s, pT s, pH s, [], [], 0) x
/-- things that are being read may be without traits yet -/
def Wm (Op : Nat → Prop) (s : RS) : Prop := (∀ x ∈ pT s, trOK x) ∧ (pT s).Nodup ∧ (∀ t ∈ pX s, isTx t ∧ ¬ t = 0) ∧ (∀ t ∈ pR s, t < (pT s).length) ∧ (∀ i ∈ pL s, i < (pH s).length) ∧ (pW s).length ≤ 40 ∧ (pH s).length ≤ 40 ∧ (∀ j x, (pH s)[j]? = some x → Op j ∨ tS s x)
theorem vS.mono {s s1 : RS} {v : Int64} (h : vS s v) (hp : Pre s s1) (hw : (pW s1).length ≤ 40) (hh : (pH s1).length ≤ 40) : vS s1 v := isV_mono hp.W hp.2.2.2 hw hh h
theorem tS.mono {s s1 : RS} {x : Th} (h : tS s x) (hp : Pre s s1) (hw : (pW s1).length ≤ 40) (hh : (pH s1).length ≤ 40) : tS s1 x := thOK.mono h hp.W hp.2.2.2 hw hh (fun t y hy => hp.Tat hy)
theorem Wm.at2 {Op : Nat → Prop} {s s1 : RS} (h : Wm Op s) (h2 : s1.2.2 = s.2.2) (hX : ∀ t ∈ pX s1, isTx t ∧ ¬ t = 0) : Wm Op s1 := by
  obtain ⟨n, X, l⟩ := s
  obtain ⟨n1, X1, l1⟩ := s1
  cases h2
  exact ⟨h.1, h.2.1, hX, h.2.2.2⟩
theorem rStr_X {row : List Nat} {s s1 : RS} {t : Int64} (h : rStr row s = .inr (t, s1)) (hX : ∀ t ∈ pX s, isTx t ∧ ¬ t = 0) : ∀ t ∈ pX s1, isTx t ∧ ¬ t = 0 := by
  have ht := rStr_tx (fun t h => (hX t h).1) h
  obtain ⟨q, hq, h2⟩ := rb_some (show rb (rNum row s) _ = _ from h)
  have e0 : pX q.2 = pX s := congrArg Prod.fst (rNumF_2 (n := q.1) (s1 := q.2) hq).1
  by_cases h1 : q.1 % 2 = 0
  · rw [rStr1_e h1] at h2
    obtain ⟨z, hz, h3⟩ := rb_some h2
    cases h3
    unfold rKT at hz
    cases hj : (pX q.2)[q.1 / 2]? with
    | none => rw [hj] at hz; cases hz
    | some w => rw [hj] at hz; cases hz; rw [e0]; exact hX
  · by_cases h7 : 7 < q.1 / 2
    · rw [rStr1_l h1 h7] at h2; cases h2
    · rw [rStr1_o h1 h7] at h2
      obtain ⟨z, hz, h3⟩ := rb_some h2
      have e1 := (rLetF_2 (t1 := z.1.1) (w1 := z.1.2) (s1 := z.2) hz).1
      have e2 : pX z.2 = pX s := (congrArg Prod.fst e1).trans e0
      split at h3
      · cases h3
      · cases h3
        unfold addX
        split
        · rw [e2]; exact hX
        · rename_i hz0
          intro w hw
          rcases List.mem_append.mp (show w ∈ pX z.2 ++ [z.1.1] from hw) with h9 | h9
          · rw [e2] at h9; exact hX w h9
          · rw [List.mem_singleton.mp h9]; exact ⟨ht, hz0⟩
theorem rMem_X {row : List Nat} : ∀ {n : Nat} {acc l : List Int64} {s s1 : RS}, rMem row n acc s = .inr (l, s1) → (∀ t ∈ pX s, isTx t ∧ ¬ t = 0) → acc.Nodup → (∀ e ∈ acc, isTx e ∧ ¬ e = 0) → (∀ t ∈ pX s1, isTx t ∧ ¬ t = 0) ∧ l.Nodup ∧ (∀ e ∈ l, isTx e ∧ ¬ e = 0) ∧ l.length = acc.length + n
  | 0, acc, l, s, s1, h, hX, hn, ha => by cases h; exact ⟨hX, hn, ha, rfl⟩
  | n + 1, acc, l, s, s1, h, hX, hn, ha => by
    obtain ⟨q, hq, h2⟩ := rb_some (show rb (rStr row s) _ = _ from h)
    have ht := rStr_tx (t := q.1) (s1 := q.2) (fun t h => (hX t h).1) hq
    have hX2 := rStr_X (t := q.1) (s1 := q.2) hq hX
    split at h2
    · cases h2
    · rename_i hno
      obtain ⟨a, b, c, e⟩ := rMem_X h2 hX2 (nd_push hn (fun z => hno (Or.inr z))) (all_push ha ⟨ht, fun z => hno (Or.inl z)⟩)
      exact ⟨a, b, c, by rw [e, List.length_append]; simp; omega⟩
theorem rTr_W {row : List Nat} {al : List Int64} {Op : Nat → Prop} {n np t : Nat} {s s1 : RS} (hal : ∀ n ∈ al, isTx n ∧ ¬ n = 0) (h : rTr row al n np s = .inr (t, s1)) (hs : Wm Op s) : Wm Op s1 := by
  by_cases h1 : n % 4 = 1
  · rw [rTr_k h1] at h
    obtain ⟨q, hq, h2⟩ := rb_some h
    cases h2
    unfold rKR at hq
    cases hj : (pR s)[n / 4]? with
    | none => rw [hj] at hq; cases hq
    | some t => rw [hj] at hq; cases hq; exact hs
  · by_cases h2 : n % 8 = 7 ∨ 3 < n / 16
    · rw [rTr_x h1 h2] at h; cases h
    · have hpre := rTr_preP h
      have hH := rTr_H h
      rw [rTr_m h1 h2] at h
      obtain ⟨q, hq, h3⟩ := rb_some h
      have hp := (rStr_2 (t := q.1) (s1 := q.2) hq).1
      have hnm := rStr_tx (t := q.1) (s1 := q.2) (fun t h => (hs.2.2.1 t h).1) hq
      have hX2 := rStr_X (t := q.1) (s1 := q.2) hq hs.2.2.1
      split at h3
      · cases h3
      · obtain ⟨z, hz, h4⟩ := rb_some h3
        obtain ⟨w1, w2, w3, w4⟩ := rMem_X (l := z.1) (s1 := z.2) hz hX2 List.nodup_nil (fun e h => by cases h)
        have hp2 := rMem_2 (l := z.1) (s1 := z.2) hz
        have hz1 : Wm Op z.2 := hs.at2 (hp2.trans hp) w1
        have hok : trOK (q.1, decide (n / 8 % 2 = 1), z.1) := ⟨hnm, by show z.1.length ≤ 3; rw [w4]; simp; omega, w2, w3⟩
        unfold keepT at h4
        split at h4
        · cases h4
        · split at h4
          · rename_i h12 hpos
            cases h4
            have hl : ∀ {i : Nat}, i < (pT z.2).length → i < (pT z.2 ++ [(q.1, decide (n / 8 % 2 = 1), z.1)]).length := fun h => by rw [List.length_append]; omega
            refine ⟨fun x hx => ?_, ?_, hz1.2.2.1, fun i hi => ?_, hz1.2.2.2.2.1, hz1.2.2.2.2.2.1, hz1.2.2.2.2.2.2.1, fun j x hx => ?_⟩
            · rcases List.mem_append.mp (show x ∈ pT z.2 ++ [_] from hx) with h9 | h9
              · exact hz1.1 x h9
              · rw [List.mem_singleton.mp h9]; exact hok
            · show (pT z.2 ++ [_]).Nodup
              rw [List.nodup_append]
              exact ⟨hz1.2.1, by simp, fun y hy w hw e => by simp at hw; rw [hw] at e; exact tpos_no hpos (e ▸ hy)⟩
            · show i < (pT z.2 ++ [_]).length
              rcases List.mem_append.mp (show i ∈ pR z.2 ++ [(pT z.2).length] from hi) with h9 | h9
              · exact hl (hz1.2.2.2.1 i h9)
              · rw [List.mem_singleton.mp h9, List.length_append]; simp
            · rcases hz1.2.2.2.2.2.2.2 j x hx with h9 | h9
              · exact Or.inl h9
              · exact Or.inr (thOK.mono h9 (Nat.le_refl _) (Nat.le_refl _) hz1.2.2.2.2.2.1 hz1.2.2.2.2.2.2.1 (fun t y hy => by have hy2 : (pT z.2)[t]? = some y := hy; show (pT z.2 ++ [_])[t]? = some y; rw [List.getElem?_append_left (at_lt hy2)]; exact hy2))
          · rename_i h12 hpos
            cases h4
            refine ⟨hz1.1, hz1.2.1, hz1.2.2.1, fun i hi => ?_, hz1.2.2.2.2⟩
            rcases List.mem_append.mp (show i ∈ pR z.2 ++ [tpos (pT z.2) _] from hi) with h9 | h9
            · exact hz1.2.2.2.1 i h9
            · rw [List.mem_singleton.mp h9]
              have := tpos_le (pT z.2) (q.1, decide (n / 8 % 2 = 1), z.1)
              show _ < (pT z.2).length
              omega
def RW (rec : Rec) : Prop := ∀ (Op : Nat → Prop) (s : RS) (v : Int64) (s1 : RS), rec s = .inr (v, s1) → Wm Op s → Wm Op s1 ∧ vS s1 v
theorem rItems_W {rec : Rec} (hr : RW rec) (hp : RecPre rec) {Op : Nat → Prop} : ∀ {n : Nat} {acc l : List Int64} {s s1 : RS}, rItems rec n acc s = .inr (l, s1) → Wm Op s → (∀ v ∈ acc, vS s v) → Wm Op s1 ∧ (∀ v ∈ l, vS s1 v) ∧ l.length = acc.length + n
  | 0, acc, l, s, s1, h, hs, ha => by cases h; exact ⟨hs, ha, rfl⟩
  | n + 1, acc, l, s, s1, h, hs, ha => by
    obtain ⟨q, hq, h2⟩ := rb_some (show rb (rec s) _ = _ from h)
    obtain ⟨w1, w2⟩ := hr Op s q.1 q.2 hq hs
    have hpre := hp s q.1 q.2 hq
    obtain ⟨a, b, c⟩ := rItems_W hr hp h2 w1 (all_push (fun v hv => (ha v hv).mono hpre w1.2.2.2.2.2.1 w1.2.2.2.2.2.2.1) w2)
    exact ⟨a, b, by rw [c, List.length_append]; simp; omega⟩
theorem rPairs_W {row : List Nat} {rec : Rec} (hr : RW rec) (hp : RecPre rec) {Op : Nat → Prop} {mem : List Int64} : ∀ {n : Nat} {ks vs : List Int64} {l : List Int64 × List Int64} {s s1 : RS}, rPairs row rec mem n ks vs s = .inr (l, s1) → Wm Op s → (∀ v ∈ vs, vS s v) → (∀ k ∈ ks, isTx k ∧ ¬ k = 0) → ks.Nodup → (∀ k ∈ ks, ¬ k ∈ mem) → Wm Op s1 ∧ (∀ v ∈ l.2, vS s1 v) ∧ (∀ k ∈ l.1, isTx k ∧ ¬ k = 0) ∧ l.1.Nodup ∧ (∀ k ∈ l.1, ¬ k ∈ mem)
  | 0, ks, vs, l, s, s1, h, hs, hv, hk, hn, hm => by cases h; exact ⟨hs, hv, hk, hn, hm⟩
  | n + 1, ks, vs, l, s, s1, h, hs, hv, hk, hn, hm => by
    obtain ⟨q, hq, h2⟩ := rb_some (show rb (rStr row s) _ = _ from h)
    have h22 := (rStr_2 (t := q.1) (s1 := q.2) hq).1
    have ht := rStr_tx (t := q.1) (s1 := q.2) (fun t h => (hs.2.2.1 t h).1) hq
    have hq2 : Wm Op q.2 := hs.at2 h22 (rStr_X (t := q.1) (s1 := q.2) hq hs.2.2.1)
    have hv2 : ∀ v ∈ vs, vS q.2 v := fun v h => (hv v h).mono (Pre.of2 h22) hq2.2.2.2.2.2.1 hq2.2.2.2.2.2.2.1
    split at h2
    · cases h2; exact ⟨hq2, hv2, hk, hn, hm⟩
    · rename_i h0
      split at h2
      · cases h2
      · rename_i hno
        obtain ⟨z, hz, h3⟩ := rb_some h2
        obtain ⟨w1, w2⟩ := hr Op q.2 z.1 z.2 hz hq2
        have hpre := hp q.2 z.1 z.2 hz
        exact rPairs_W hr hp h3 w1 (all_push (fun v h => (hv2 v h).mono hpre w1.2.2.2.2.2.1 w1.2.2.2.2.2.2.1) w2) (all_push hk ⟨ht, h0⟩) (nd_push hn (fun z => hno (Or.inr (Or.inl z)))) (all_push hm (fun z => hno (Or.inr (Or.inr z))))
theorem newH_W {Op : Nat → Prop} {s : RS} {k : Nat} (hs : Wm Op s) (hl : (pH s).length < 40) : Wm (fun j => Op j ∨ j = (pH s).length) (newH k s) := by
  have hlen := newH_len k s
  refine ⟨hs.1, hs.2.1, hs.2.2.1, hs.2.2.2.1, fun i hi => ?_, hs.2.2.2.2.2.1, by rw [hlen]; omega, fun j x hx => ?_⟩
  · rw [hlen]
    rcases List.mem_append.mp (show i ∈ pL s ++ [(pH s).length] from hi) with h9 | h9
    · have := hs.2.2.2.2.1 i h9; omega
    · rw [List.mem_singleton.mp h9]; omega
  · rcases app_at (show (pH s ++ [_])[j]? = some x from hx) with ⟨q, h1⟩ | ⟨e, -⟩
    · rcases hs.2.2.2.2.2.2.2 j x h1 with h9 | h9
      · exact Or.inl (Or.inl h9)
      · exact Or.inr (h9.mono Pre.new hs.2.2.2.2.2.1 (by rw [hlen]; omega))
    · exact Or.inl (Or.inr e)
theorem setH_W {Op : Nat → Prop} {s : RS} {i : Nat} {x : Th} (hs : Wm (fun j => Op j ∨ j = i) s) (hx : tS s x) : Wm Op (setH i x s) := by
  have hlen : (pH (setH i x s)).length = (pH s).length := List.length_set
  have hm : ∀ {y : Th}, tS s y → tS (setH i x s) y := fun {y} hy => by
    obtain ⟨a, b, c, e⟩ := hy
    refine ⟨a, fun v hv => ?_, fun v hv => ?_, e⟩
    · show isV _ (pH (setH i x s)).length v; rw [hlen]; exact b v hv
    · show isV _ (pH (setH i x s)).length v; rw [hlen]; exact c v hv
  refine ⟨hs.1, hs.2.1, hs.2.2.1, hs.2.2.2.1, fun j hj => by rw [hlen]; exact hs.2.2.2.2.1 j hj, hs.2.2.2.2.2.1, by rw [hlen]; exact hs.2.2.2.2.2.2.1, fun j y hy => ?_⟩
  rcases set_at (show ((pH s).set i x)[j]? = some y from hy) with ⟨q, h1⟩ | ⟨rfl, rfl, -⟩
  · rcases hs.2.2.2.2.2.2.2 j y h1 with h9 | h9
    · exact Or.inl (h9.elim id (fun e => absurd e q))
    · exact Or.inr (hm h9)
  · exact Or.inr (hm hx)
theorem lN_lt2 {i n : Nat} (h : i < n) (hn : n ≤ 40) : lN i < lN n := by
  rw [Int64.lt_iff_toInt_lt, toInt_small (x := lN i) (by rw [uN_lN (by omega)]; omega), toInt_small (x := lN n) (by rw [uN_lN (by omega)]; omega), uN_lN (by omega), uN_lN (by omega)]
  omega
theorem isV_wd {w n i : Nat} (h : i < w) (hw : w ≤ 40) : isV w n (16 * lN i + 5) := by
  have e : ∀ x : Fin 40, uN (16 * lN x.val + 5) % 16 = 5 ∧ sh4 (16 * lN x.val + 5) = lN x.val ∧ ¬ lN x.val < 0 := by decide +kernel
  obtain ⟨h1, h2, h3⟩ := e ⟨i, by omega⟩
  dsimp only at h1 h2 h3
  rw [isV_5 h1, h2]
  exact ⟨h3, lN_lt2 h hw⟩
theorem isV_sm {w n k : Nat} (h : k ≤ 3) : isV w n (lN k) := by
  have e : ∀ x : Fin 4, uN (lN x.val) % 16 = x.val ∧ sh4 (lN x.val) = 0 := by decide +kernel
  obtain ⟨h1, h2⟩ := e ⟨k, by omega⟩
  dsimp only at h1 h2
  exact (isV_O (by omega) (by omega) (by omega) (by omega)).mpr ⟨by omega, h2⟩
theorem isV_th {w n i : Nat} (h : i < n) (hn : n ≤ 40) : isV w n (16 * lN i + 7) := by
  have e : ∀ x : Fin 40, uN (16 * lN x.val + 7) % 16 = 7 ∧ sh4 (16 * lN x.val + 7) = lN x.val ∧ ¬ lN x.val < 0 := by decide +kernel
  obtain ⟨h1, h2, h3⟩ := e ⟨i, by omega⟩
  dsimp only at h1 h2 h3
  rw [isV_7 h1, h2]
  exact ⟨h3, lN_lt2 h hn⟩
theorem rBy_W {row : List Nat} (hrow : ∀ b ∈ row, b < 256) : ∀ {n : Nat} {acc l : List Int64} {s s1 : RS}, rBy row n acc s = .inr (l, s1) → (∀ v ∈ acc, ∃ b, b < 256 ∧ v = 16 * lN b + 4) → ∀ v ∈ l, ∃ b, b < 256 ∧ v = 16 * lN b + 4
  | 0, acc, l, s, s1, h, ha => by cases h; exact ha
  | n + 1, acc, l, s, s1, h, ha => by
    obtain ⟨q, hq, h2⟩ := rb_some (show rb (rByte row s) _ = _ from h)
    exact rBy_W hrow h2 (all_push ha ⟨q.1, hrow _ (at_mem (rByte_inr (b := q.1) (s1 := q.2) hq).2), rfl⟩)
theorem sh4_int (v : Int64) : (sh4 v).toInt = v.toInt / 16 := by
  have hs : ((nI 4).toInt64 &&& 63 : Int64) = 4 := by decide +kernel
  unfold sh4
  rw [hs]
  have h1 : (v >>> (4 : Int64)).toBitVec = v.toBitVec.sshiftRight' ((4 : Int64).toBitVec.smod 64) := rfl
  have h2 : ((4 : Int64).toBitVec.smod 64) = 4#64 := by decide +kernel
  show (v >>> (4 : Int64)).toBitVec.toInt = v.toBitVec.toInt / 16
  rw [h1, h2, BitVec.sshiftRight', BitVec.toInt_sshiftRight, show (4#64).toNat = 4 from rfl, Int.shiftRight_eq_div_pow]
  rfl
theorem v16 {v k : Int64} {kn : Nat} (hk : k.toInt = kn) (hkn : kn < 16) (hv : -576460752303423488 ≤ v.toInt ∧ v.toInt < 576460752303423488) : uN (16 * v + k) % 16 = kn ∧ sh4 (16 * v + k) = v := by
  have e16 : (16 : Int64).toInt = 16 := by decide +kernel
  have e1 : (16 * v + k).toInt = 16 * v.toInt + kn := by
    rw [Int64.toInt_add, Int64.toInt_mul, hk, e16, Int.bmod_eq_of_le (n := 16 * v.toInt) (by omega) (by omega), Int.bmod_eq_of_le (by omega) (by omega)]
  refine ⟨?_, Int64.toInt_inj.mp (by rw [sh4_int, e1]; omega)⟩
  have h2 := uN_int (16 * v + k)
  rw [e1] at h2
  split at h2 <;> omega
theorem tx_lt : ∀ {n u : Nat}, txN n u → u < 256 ^ n
  | 0, u, h => by have : u = 0 := h; simp; omega
  | n + 1, u, h => by
    rcases h with h | ⟨h1, h2⟩
    · rw [h]; exact Nat.pow_pos (by decide)
    · have := tx_lt h2
      rw [Nat.pow_succ]
      omega
theorem isV_tx {w n : Nat} {t : Int64} (h : isTx t) : isV w n (16 * t + 6) := by
  have h1 := tx_lt h
  have h2 : (256 : Nat) ^ 7 = 72057594037927936 := by decide
  rw [h2] at h1
  have h3 : t.toInt = (uN t : Int) := toInt_small (by omega)
  obtain ⟨a, b⟩ := v16 (v := t) (k := 6) (kn := 6) (by decide +kernel) (by decide) (by omega)
  rw [isV_6 a, b]; exact h
theorem isV_vI {w m n : Nat} (h : n < 536870912) : isV w m (vI n) := by
  have e : ∃ x : Int32, (-268435456 ≤ x.toInt ∧ x.toInt < 268435456) ∧ vI n = 16 * x.toInt64 + 4 := by
    unfold vI
    by_cases h1 : n < 268435456
    · rw [if_pos h1]
      exact ⟨nI n, by rw [show (nI n).toInt = (n : Int) from nI_toInt (by omega)]; omega, rfl⟩
    · rw [if_neg h1]
      refine ⟨nI n - nI 536870912, ?_, rfl⟩
      have h2 : (nI n).toInt = (n : Int) := nI_toInt (by omega)
      have h3 : (nI 536870912).toInt = 536870912 := by decide +kernel
      rw [Int32.toInt_sub, h2, h3, Int.bmod_eq_of_le (by omega) (by omega)]
      omega
  obtain ⟨x, hx, e⟩ := e
  have h1 : x.toInt64.toInt = x.toInt := Int32.toInt_toInt64 x
  obtain ⟨a, b⟩ := v16 (v := x.toInt64) (k := 4) (kn := 4) (by decide +kernel) (by decide) (by omega)
  rw [e, isV_4 a, b, Int64.lt_iff_toInt_lt, Int64.lt_iff_toInt_lt, h1, show (-268435456 : Int64).toInt = -268435456 by decide +kernel, show (268435456 : Int64).toInt = 268435456 by decide +kernel]
  omega
theorem rBody_W {row : List Nat} {al : List Int64} (hrow : ∀ b ∈ row, b < 256) (hal : ∀ n ∈ al, isTx n ∧ ¬ n = 0) {rec : Rec} (hr : RW rec) (hp : RecPre rec) {Op : Nat → Prop} {k n np i : Nat} (hk : k = 8 ∨ k = 9 ∨ k = 10 ∨ k = 12) {s s1 : RS} (h : rBody row al rec k n np i s = .inr s1) (hs : Wm (fun j => Op j ∨ j = i) s) : Wm Op s1 := by
  unfold rBody at h
  rcases hk with rfl | rfl | rfl | rfl
  · rw [if_pos rfl] at h
    unfold rDate at h
    split at h
    · cases h
    · obtain ⟨q, hq, h2⟩ := rb_some h
      cases h2
      have e := rEightF_2 (v := q.1) (s1 := q.2) hq
      refine setH_W (hs.at2 (by rw [e]) (by rw [show pX q.2 = pX s from congrArg Prod.fst e]; exact hs.2.2.1)) ⟨Or.inl rfl, (fun v h => by cases h), (fun v h => by cases h), (fun v h => by cases h), (fun h => absurd h (show ¬ (8 : Nat) = 10 by decide)), (fun h => absurd h (show ¬ (8 : Nat) = 12 by decide)), (fun h => absurd rfl h), fun _ => rfl, fun _ => rfl, List.nodup_nil⟩
  · rw [if_neg (by decide), if_neg (by decide), if_pos rfl] at h
    unfold rArr at h
    split at h
    · cases h
    · obtain ⟨q, hq, h2⟩ := rb_some h
      obtain ⟨z, hz, h3⟩ := rb_some h2
      cases h3
      obtain ⟨a1, a2, a3, a4, a5⟩ := rPairs_W hr hp (l := q.1) (s1 := q.2) hq hs (fun v h => by cases h) (fun v h => by cases h) List.nodup_nil (fun v h => by cases h)
      obtain ⟨b1, b2, b3⟩ := rItems_W hr hp (l := z.1) (s1 := z.2) hz a1 (fun v h => by cases h)
      have hpre := rItems_pre hp (l := z.1) (s1 := z.2) hz
      exact setH_W b1 ⟨Or.inr (Or.inl rfl), b2, fun v hv => (a2 v hv).mono hpre b1.2.2.2.2.2.1 b1.2.2.2.2.2.2.1, a3, (fun h => absurd h (show ¬ (9 : Nat) = 10 by decide)), (fun h => absurd h (show ¬ (9 : Nat) = 12 by decide)), fun _ => rfl, (fun h => h.elim (fun h => absurd h (show ¬ (9 : Nat) = 8 by decide)) (fun h => absurd h (show ¬ (9 : Nat) = 12 by decide))), (fun h => absurd h (show ¬ (9 : Nat) = 8 by decide)), a4⟩
  · rw [if_neg (by decide), if_neg (by decide), if_neg (by decide)] at h
    unfold rObj at h
    obtain ⟨q, hq, h2⟩ := rb_some h
    obtain ⟨z, hz, h3⟩ := rb_some h2
    have a1 := rTr_W hal (t := q.1) (s1 := q.2) hq hs
    have hlt := (rTr_pre (t := q.1) (s1 := q.2) hq hs.2.2.2.1).2
    obtain ⟨y, hy⟩ : ∃ y, (pT q.2)[q.1]? = some y := ⟨_, List.getElem?_eq_getElem hlt⟩
    have etr : trAt q.2 q.1 = y := by unfold trAt; rw [hy]; rfl
    rw [etr] at hz h3
    obtain ⟨b1, b2, b3⟩ := rItems_W hr hp (l := z.1) (s1 := z.2) hz a1 (fun v h => by cases h)
    have hpre := rItems_pre hp (l := z.1) (s1 := z.2) hz
    have hlen : z.1.length = (rM y).length := by rw [b3]; simp
    split at h3
    · rename_i hdy
      obtain ⟨w, hw, h4⟩ := rb_some h3
      cases h4
      obtain ⟨c1, c2, c3, c4, c5⟩ := rPairs_W hr hp (l := w.1) (s1 := w.2) hw b1 (fun v h => by cases h) (fun v h => by cases h) List.nodup_nil (fun v h => by cases h)
      have hpre2 := rPairs_pre hp (l := w.1) (s1 := w.2) hw
      exact setH_W c1 ⟨Or.inr (Or.inr (Or.inl rfl)), fun v hv => (b2 v hv).mono hpre2 c1.2.2.2.2.2.1 c1.2.2.2.2.2.2.1, c2, c3, fun _ => ⟨y, (hpre.tr hpre2).Tat hy, hlen, fun z => absurd hdy (by rw [z]; decide), c5⟩, (fun h => absurd h (show ¬ (10 : Nat) = 12 by decide)), fun _ => rfl, (fun h => h.elim (fun h => absurd h (show ¬ (10 : Nat) = 8 by decide)) (fun h => absurd h (show ¬ (10 : Nat) = 12 by decide))), (fun h => absurd h (show ¬ (10 : Nat) = 8 by decide)), c4⟩
    · cases h3
      exact setH_W b1 ⟨Or.inr (Or.inr (Or.inl rfl)), b2, (fun v h => by cases h), (fun v h => by cases h), fun _ => ⟨y, hpre.Tat hy, hlen, fun _ => rfl, (fun v h => by cases h)⟩, (fun h => absurd h (show ¬ (10 : Nat) = 12 by decide)), fun _ => rfl, fun _ => rfl, (fun h => absurd h (show ¬ (10 : Nat) = 8 by decide)), List.nodup_nil⟩
  · rw [if_neg (by decide), if_pos rfl] at h
    unfold rBytes at h
    split at h
    · cases h
    · obtain ⟨q, hq, h2⟩ := rb_some h
      cases h2
      have e := rBy_2 (l := q.1) (s1 := q.2) hq
      have hv := rBy_W hrow (l := q.1) (s1 := q.2) hq (fun v h => by cases h)
      exact setH_W (hs.at2 (by rw [e]) (by rw [show pX q.2 = pX s from congrArg Prod.fst e]; exact hs.2.2.1)) ⟨Or.inr (Or.inr (Or.inr rfl)), fun v h => by obtain ⟨b, h1, h2⟩ := hv v h; exact isV_by h1 h2, (fun v h => by cases h), (fun v h => by cases h), (fun h => absurd h (show ¬ (12 : Nat) = 10 by decide)), fun _ => hv, fun _ => rfl, fun _ => rfl, (fun h => absurd h (show ¬ (12 : Nat) = 8 by decide)), List.nodup_nil⟩
theorem rBody_len {row : List Nat} {al : List Int64} {rec : Rec} (hr : RecPre rec) {k n np i : Nat} {s s1 : RS} (h : rBody row al rec k n np i (newH k s) = .inr s1) : (pH s).length < (pH s1).length := by
  have e0 := newH_len k s
  unfold rBody at h
  split at h
  · unfold rDate at h
    split at h
    · cases h
    · obtain ⟨q, hq, h2⟩ := rb_some h
      cases h2
      have e := rEightF_2 (v := q.1) (s1 := q.2) hq
      show _ < ((pH q.2).set _ _).length
      rw [List.length_set, show pH q.2 = pH (newH k s) by unfold pH; rw [e]]
      omega
  · split at h
    · unfold rBytes at h
      split at h
      · cases h
      · obtain ⟨q, hq, h2⟩ := rb_some h
        cases h2
        have e := rBy_2 (l := q.1) (s1 := q.2) hq
        show _ < ((pH q.2).set _ _).length
        rw [List.length_set, show pH q.2 = pH (newH k s) by unfold pH; rw [e]]
        omega
    · split at h
      · unfold rArr at h
        split at h
        · cases h
        · obtain ⟨q, hq, h2⟩ := rb_some h
          obtain ⟨z, hz, h3⟩ := rb_some h2
          cases h3
          have h5 := (rPairs_pre hr (l := q.1) (s1 := q.2) hq).2.2.2
          have h6 := (rItems_pre hr (l := z.1) (s1 := z.2) hz).2.2.2
          show _ < ((pH z.2).set _ _).length
          rw [List.length_set]
          omega
      · unfold rObj at h
        obtain ⟨q, hq, h2⟩ := rb_some h
        obtain ⟨z, hz, h3⟩ := rb_some h2
        have h5 := (rTr_preP (t := q.1) (s1 := q.2) hq).2.2.2
        have h6 := (rItems_pre hr (l := z.1) (s1 := z.2) hz).2.2.2
        split at h3
        · obtain ⟨y, hy, h4⟩ := rb_some h3
          cases h4
          have h7 := (rPairs_pre hr (l := y.1) (s1 := y.2) hy).2.2.2
          show _ < ((pH y.2).set _ _).length
          rw [List.length_set]
          omega
        · cases h3
          show _ < ((pH z.2).set _ _).length
          rw [List.length_set]
          omega
theorem rvS_W {row : List Nat} {al : List Int64} (hrow : ∀ b ∈ row, b < 256) (hal : ∀ n ∈ al, isTx n ∧ ¬ n = 0) {rec : Option Rec} (hr : ∀ r, rec = some r → RW r ∧ RecPre r) : RW (rvS row al rec) := by
  intro Op s v s1 h hs
  obtain ⟨q, hq, h2⟩ := rb_some (show rb (rByte row s) _ = _ from h)
  have e0 := (rByte_inr (b := q.1) (s1 := q.2) hq).1
  have hs2 : Wm Op q.2 := hs.at2 (by rw [e0]) (by rw [e0]; exact hs.2.2.1)
  unfold rv1 at h2
  split at h2
  · obtain ⟨z, hz, h3⟩ := rb_some (show rb (rNum row q.2) _ = _ from h2)
    cases h3
    have e := (rNumF_2 (n := z.1) (s1 := z.2) hz).1
    exact ⟨hs2.at2 (by rw [e]) (by rw [show pX z.2 = pX q.2 from congrArg Prod.fst e]; exact hs2.2.2.1), isV_vI (rNum_lt hrow hz)⟩
  · split at h2
    · unfold rWide at h2
      split at h2
      · cases h2
      · rename_i h40
        obtain ⟨z, hz, h3⟩ := rb_some h2
        cases h3
        have e := rEightF_2 (v := z.1) (s1 := z.2) hz
        have hz2 : Wm Op z.2 := hs2.at2 (by rw [e]) (by rw [show pX z.2 = pX q.2 from congrArg Prod.fst e]; exact hs2.2.2.1)
        have ew : (pW z.2).length = (pW q.2).length := by unfold pW; rw [e]
        have hl : (pW (addW z.1 z.2)).length = (pW z.2).length + 1 := by show (pW z.2 ++ [z.1]).length = _; simp
        have h9 := hs2.2.2.2.2.2.1
        refine ⟨⟨hz2.1, hz2.2.1, hz2.2.2.1, hz2.2.2.2.1, hz2.2.2.2.2.1, by rw [hl]; omega, hz2.2.2.2.2.2.2.1, fun j x hx => ?_⟩, ?_⟩
        · rcases hz2.2.2.2.2.2.2.2 j x hx with h8 | h8
          · exact Or.inl h8
          · exact Or.inr (h8.mono pre_addW (by rw [hl]; omega) hz2.2.2.2.2.2.2.1)
        · show isV (pW (addW z.1 z.2)).length _ _
          rw [hl]
          exact isV_wd (by omega) (by omega)
    · split at h2
      · obtain ⟨z, hz, h3⟩ := rb_some h2
        cases h3
        exact ⟨hs2.at2 (rStr_2 (t := z.1) (s1 := z.2) hz).1 (rStr_X (t := z.1) (s1 := z.2) hz hs2.2.2.1), isV_tx (rStr_tx (t := z.1) (s1 := z.2) (fun t h => (hs2.2.2.1 t h).1) hz)⟩
      · split at h2
        · rename_i hk
          obtain ⟨z, hz, h3⟩ := rb_some (show rb (rNum row q.2) _ = _ from h2)
          have e := (rNumF_2 (n := z.1) (s1 := z.2) hz).1
          have hz2 : Wm Op z.2 := hs2.at2 (by rw [e]) (by rw [show pX z.2 = pX q.2 from congrArg Prod.fst e]; exact hs2.2.2.1)
          unfold rTh1 at h3
          split at h3
          · unfold rKnown at h3
            cases hj : (pL z.2)[z.1 / 2]? with
            | none => rw [hj] at h3; cases h3
            | some i =>
              rw [hj] at h3
              dsimp only at h3
              split at h3
              · cases h3
                exact ⟨hz2, isV_th (hz2.2.2.2.2.1 i (at_mem hj)) hz2.2.2.2.2.2.2.1⟩
              · cases h3
          · split at h3
            · cases h3
            · rename_i h40
              cases rec with
              | none => cases h3
              | some rec =>
                obtain ⟨w, hw, h4⟩ := rb_some (show rb (rBody row al rec q.1 z.1 q.2.1 (pH z.2).length (newH q.1 z.2)) _ = _ from h3)
                cases h4
                have hlt : (pH z.2).length < 40 := by have := hz2.2.2.2.2.2.2.1; omega
                have h5 := rBody_W hrow hal (hr rec rfl).1 (hr rec rfl).2 hk hw (newH_W hz2 hlt)
                have hlen : (pH z.2).length < (pH s1).length := rBody_len (hr rec rfl).2 hw
                exact ⟨h5, isV_th hlen h5.2.2.2.2.2.2.1⟩
        · split at h2
          · cases h2
          · cases h2; exact ⟨hs2, isV_sm (by omega)⟩
theorem rVal_W {row : List Nat} {al : List Int64} (hrow : ∀ b ∈ row, b < 256) (hal : ∀ n ∈ al, isTx n ∧ ¬ n = 0) : ∀ dl : Nat, RW (rVal row al dl)
  | 0 => rvS_W hrow hal (rec := none) (fun r h => by cases h)
  | dl + 1 => rvS_W hrow hal (rec := some (rVal row al dl)) (fun r h => by cases h; exact ⟨rVal_W hrow hal dl, rVal_pre dl⟩)
theorem wf_dec {A : Ab} (hwf : wfA A) (hz : szA A) {v : Int64} {s : RS} (hr : rVal (aR A) (aA A) 12 (rs0 A) = .inr (v, s)) : wfA (aD A s) := by
  have h0 : Wm (fun _ => False) (rs0 A) := ⟨hwf.1, hwf.2.1, (fun t h => by cases h), (fun t h => by cases h), (fun t h => by cases h), hz.1, hz.2.2.1, fun j x hx => Or.inr (hwf.2.2.1 x (at_mem hx))⟩
  obtain ⟨h1, -⟩ := rVal_W hwf.2.2.2.2.2 hwf.2.2.2.1 12 _ _ _ _ hr h0
  refine ⟨h1.1, h1.2.1, fun x hx => ?_, hwf.2.2.2⟩
  obtain ⟨j, hj, e⟩ := List.mem_iff_getElem.mp (show x ∈ pH s from hx)
  exact (h1.2.2.2.2.2.2.2 j x (by rw [List.getElem?_eq_getElem hj, e])).elim (fun z => z.elim) id
theorem op_decode {G : Gd} {A : Ab} (hG : Gok G) (hwf : wfA A) (hz : szA A) : ∃ A', wfA A' ∧ ((∃ x, OpR G mX8_decode mX9_decode [] A (some (.long x)) A') ∨ ∃ x, OpX G mX8_decode mX9_decode [] A IAE (some (.long x)) 1 A') := by
  cases hr : rVal (aR A) (aA A) 12 (rs0 A) with
  | inl f => exact ⟨setF A (nI f), wf_flt hwf, Or.inr ⟨0, fun M hR => c_decodeF hG (by decide) hwf hR hr, fun M hR => c_mdecodeF hG (by decide) hwf hR hr⟩⟩
  | inr q => exact ⟨aD A q.2, wf_dec hwf hz (v := q.1) (s := q.2) hr, Or.inl ⟨q.1, fun M hR => c_decodeS hG (by decide) hwf hR (v := q.1) (s1 := q.2) hr, fun M hR => c_mdecodeS hG (by decide) hwf hR (v := q.1) (s1 := q.2) hr⟩⟩
