def szA (A : Ab) : Prop := (aW A).length ≤ 40 ∧ (aT A).length ≤ 12 ∧ (aH A).length ≤ 40 ∧ (aA A).length ≤ 6 ∧ (aR A).length ≤ 600
theorem RC.sz {A : Ab} {M : Mm} (h : RC A M) : szA A := h.1.2.2.2.2.2.2
def blc (b : Int64) : Nat → List Int64
  | 0 => []
  | k + 1 => blc b k ++ [16 * ((b >>> ((nI (8 * k)).toInt64 &&& 63)) &&& 255) + (nI 4).toInt64]
theorem blc_len (b : Int64) : ∀ m : Nat, (blc b m).length = m
  | 0 => rfl
  | m + 1 => by show (blc b m ++ [_]).length = _; rw [List.length_append, blc_len b m]; rfl
theorem n4 : (nI 4).toInt64 = 4 := by decide +kernel
theorem n5 : (nI 5).toInt64 = 5 := by decide +kernel
theorem n7 : (nI 7).toInt64 = 7 := by decide +kernel
theorem b_sh (b : Int64) {k : Nat} (hk : k < 8) : ((b >>> ((nI (8 * k)).toInt64 &&& 63)) &&& 255) = lN (uN b / 2 ^ (8 * k) % 256) := by
  apply uN_inj
  rw [uN_lN (by omega), uN_sbyte b (by omega)]
theorem blc_at (b : Int64) : ∀ {m k : Nat} {v : Int64}, m ≤ 8 → (blc b m)[k]? = some v → ∃ c, c < 256 ∧ v = 16 * lN c + 4 ∧ uN b / 2 ^ (8 * k) % 256 = uN (sh4 v)
  | 0, k, v, _, h => by cases h
  | m + 1, k, v, hm, h => by
    rcases app_at (show (blc b m ++ [_])[k]? = some v from h) with ⟨q, h1⟩ | ⟨e1, e2⟩
    · exact blc_at b (by omega) h1
    · rw [blc_len] at e1
      subst e1
      rw [b_sh b (by omega), n4] at e2
      exact ⟨uN b / 2 ^ (8 * k) % 256, by omega, e2, by rw [e2, by16 (by omega)]⟩
theorem isV_0 {w n : Nat} : isV w n 0 := (isV_O (by decide +kernel) (by decide +kernel) (by decide +kernel) (by decide +kernel)).mpr ⟨by decide +kernel, by decide +kernel⟩
theorem isV_by {w n b : Nat} {v : Int64} (hb : b < 256) (e : v = 16 * lN b + 4) : isV w n v := by
  have h4 : uN v % 16 = 4 := by rw [e]; exact by16k hb
  have e2 : ∀ x : Fin 256, ¬ sh4 (16 * lN x.val + 4) < -268435456 ∧ sh4 (16 * lN x.val + 4) < 268435456 := by decide +kernel
  rw [isV_4 h4, e]
  exact e2 ⟨b, hb⟩
section O2
variable {G : Gd} {A : Ab}
theorem op_wide (hG : Gok G) (hwf : wfA A) (hz : szA A) (b : Int64) : ∃ A', wfA A' ∧ ((∃ x, OpR G mX8_wide mX9_wide [.long b] A (some (.long x)) A') ∨ ∃ x, OpX G mX8_wide mX9_wide [.long b] A ISE (some (.long x)) 1 A') := by
  by_cases h : (aW A).length = 40
  · exact ⟨A, hwf, Or.inr ⟨0, fun M hR => Ct.e (c_wideX hG (by decide) b (hR.2.1.trans (by rw [h]))) (pc_rf hR), fun M hR => Ct.e (c_mwideX hG b (hR.2.1.trans (by rw [h]))) (pm_t hR 1)⟩⟩
  · have hl : (aW A).length < 40 := by have := hz.1; omega
    refine ⟨addWd A b, wf_wd hwf hl hz.2.2.1, Or.inl ⟨16 * lN (aW A).length + 5, fun M hR => ?_, fun M hR => Ct.e (c_mwide hG (by decide) b hR.2.1 hl) (rm_aW hR hl)⟩⟩
    have h := c_wide (d := 64) hG (by decide) b hR.2.1 hl
    rw [n5] at h
    exact Ct.e h (rc_aW hR hl)
/-- a new thing of the class -/
theorem pt_new {M : Mm} {n k : Nat} : Pt k (-1) 0 [] [] [] n (ui (ui (ui (ui (ul (ui (ui M (8, n) 3 (nI k)) (8, n) 4 (-1)) (8, n) 5 0) (9, n) 1 (nI 0)) (11, n) 1 (nI 0)) (13, n) 1 (nI 0)) (1, 0) 5 (nI (n + 1))) := by
  refine ⟨?_, ?_, ?_, ⟨?_, LI_nil _⟩, ⟨?_, LI_nil _⟩, ⟨?_, LI_nil _⟩⟩ <;> simp [ui, ul]
theorem eq_new {M : Mm} {n k : Nat} : EqF (fun q j => ¬ (8 ≤ q.1 ∧ q.1 ≤ 14 ∧ q.2 = n) ∧ ¬ (q.1 = 1 ∧ j = 5)) M (ui (ui (ui (ui (ul (ui (ui M (8, n) 3 (nI k)) (8, n) 4 (-1)) (8, n) 5 0) (9, n) 1 (nI 0)) (11, n) 1 (nI 0)) (13, n) 1 (nI 0)) (1, 0) 5 (nI (n + 1))) :=
  ((((((EqF.rf.ui (by simp)).ui (by simp)).ul (by simp)).ui (by simp)).ui (by simp)).ui (by simp)).ui (by simp)
theorem em_new {M : Mm} {n : Nat} {kd ct tr : Int32} {b : Int64} : EqF (fun q j => ¬ thc n q j ∧ ¬ (q.1 = 40 ∧ (j = 0 ∨ j = 8))) M (ui (ul (ul (ul (ul (ul (ul (ul (ul (ui (ui (ui (ul (ui (ui M (40, 0) 0 (nI 0)) (46, 0) n kd) (47, 0) n b) (48, 0) n ct) (49, 0) n tr) (51, 0) n (nI 0)) (50, 0) ((8 * n) + 0) 0) (50, 0) ((8 * n) + 1) 0) (50, 0) ((8 * n) + 2) 0) (50, 0) ((8 * n) + 3) 0) (50, 0) ((8 * n) + 4) 0) (50, 0) ((8 * n) + 5) 0) (50, 0) ((8 * n) + 6) 0) (50, 0) ((8 * n) + 7) 0) (40, 0) 8 (nI (n + 1))) :=
  ((((((((((((((EqF.rf.ui (by simp)).ui (by simp [thc])).ul (by simp [thc])).ui (by simp [thc])).ui (by simp [thc])).ui (by simp [thc])).ul (by simp [thc])).ul (by simp [thc])).ul (by simp [thc])).ul (by simp [thc])).ul (by simp [thc])).ul (by simp [thc])).ul (by simp [thc])).ul (by simp [thc])).ui (by simp)
theorem rm_new {M : Mm} {x : Th} {kd ct tr : Int32} {b : Int64} (hR : RM A M) (hl : (aH A).length < 40) (hk : kd = nI (tK x)) (hc : ct = nI (tL x).length) (ht : tr = trv x) (hY : tY x = []) (hV : tV x = []) (hi : ¬ tK x = 12 → ∀ (k : Nat) (v : Int64), (tL x)[k]? = some v → v = 0) (h8 : tK x = 8 → b = tD x) (h12 : tK x = 12 → ∀ (k : Nat) (v : Int64), (tL x)[k]? = some v → uN b / 2 ^ (8 * k) % 256 = uN (sh4 v)) (hL : (tL x).length ≤ 8) (h16 : tK x < 16) :
    PMo M (addTh A x) 0 (ui (ul (ul (ul (ul (ul (ul (ul (ul (ui (ui (ui (ul (ui (ui M (40, 0) 0 (nI 0)) (46, 0) (aH A).length kd) (47, 0) (aH A).length b) (48, 0) (aH A).length ct) (49, 0) (aH A).length tr) (51, 0) (aH A).length (nI 0)) (50, 0) ((8 * (aH A).length) + 0) 0) (50, 0) ((8 * (aH A).length) + 1) 0) (50, 0) ((8 * (aH A).length) + 2) 0) (50, 0) ((8 * (aH A).length) + 3) 0) (50, 0) ((8 * (aH A).length) + 4) 0) (50, 0) ((8 * (aH A).length) + 5) 0) (50, 0) ((8 * (aH A).length) + 6) 0) (50, 0) ((8 * (aH A).length) + 7) 0) (40, 0) 8 (nI ((aH A).length + 1))) := by
  subst hk; subst hc; subst ht
  refine rm_aH hR hl em_new (by simp [ui]) (by simp [ui, ul]) ⟨by simp [ui, ul], by simp [ui, ul], by simp [ui, ul], by rw [hY]; simp [ui, ul], by rw [hY]; exact LI_nil _, by rw [hV]; exact LI_nil _, fun hk k v hv => ?_, fun hk => by rw [← h8 hk]; simp [ui, ul], fun hk k v hv => ?_, hL, by rw [hY]; exact Nat.zero_le _, by rw [hY, hV], h16⟩
  · rw [hi hk k v hv]
    have hkl := at_lt hv
    rcases (show k = 0 ∨ k = 1 ∨ k = 2 ∨ k = 3 ∨ k = 4 ∨ k = 5 ∨ k = 6 ∨ k = 7 by omega) with rfl | rfl | rfl | rfl | rfl | rfl | rfl | rfl <;> simp [ui, ul]
  · rw [← h12 hk k v hv]; simp [ui, ul]
theorem op_date (hG : Gok G) (hwf : wfA A) (hz : szA A) (b : Int64) : ∃ A', wfA A' ∧ ((∃ x, OpR G mX8_date mX9_date [.long b] A (some (.long x)) A') ∨ ∃ x, OpX G mX8_date mX9_date [.long b] A ISE (some (.long x)) 1 A') := by
  by_cases h : (aH A).length = 40
  · exact ⟨A, hwf, Or.inr ⟨0, fun M hR => Ct.e (c_dateX hG (by decide) b (hR.2.2.2.1.trans (by rw [h]))) (pc_rf hR), fun M hR => Ct.e (c_mdateX hG b (hR.2.2.2.1.trans (by rw [h]))) (pm_t hR 1)⟩⟩
  · have hl : (aH A).length < 40 := by have := hz.2.2.1; omega
    refine ⟨addTh A (8, b, 0, [], [], []), wf_th hwf hl hz.1 ⟨Or.inl rfl, (fun v h => by cases h), (fun v h => by cases h), (fun v h => by cases h), (fun h => absurd h (show ¬ (8 : Nat) = 10 by decide)), (fun h => absurd h (show ¬ (8 : Nat) = 12 by decide)), (fun h => absurd rfl h), fun _ => rfl, fun _ => rfl, List.nodup_nil⟩, Or.inl ⟨16 * lN (aH A).length + 7, fun M hR => ?_, fun M hR => Ct.e (c_mdate hG (by decide) b hR.2.2.2.1 hl) (rm_new hR hl rfl rfl rfl rfl rfl (fun _ k v h => by cases h) (fun _ => rfl) (fun h => absurd h (show ¬ (8 : Nat) = 12 by decide)) (Nat.zero_le _) (show (8 : Nat) < 16 by decide))⟩⟩
    have h := c_date (d := 64) hG (by decide) b hR.2.2.2.1 hl
    rw [n7] at h
    have hp := pt_new (M := M) (n := (aH A).length) (k := 8)
    exact Ct.e h (rc_aH hR hl (eq_new.ul (by simp)) (by simp [ui, ul]) ⟨by simp [ui, ul, tK], by simp [ui, ul, trv, tK], by simp [ul, tD], ⟨by simp [ui, ul, tL], LI_nil _⟩, ⟨by simp [ui, ul, tY], LI_nil _⟩, ⟨by simp [ui, ul, tV], LI_nil _⟩, Nat.zero_le _, Nat.zero_le _, rfl, show (8 : Nat) < 16 by decide⟩)
theorem op_array (hG : Gok G) (hwf : wfA A) (hz : szA A) : ∃ A', wfA A' ∧ ((∃ x, OpR G mX8_array mX9_array [] A (some (.long x)) A') ∨ ∃ x, OpX G mX8_array mX9_array [] A ISE (some (.long x)) 1 A') := by
  by_cases h : (aH A).length = 40
  · exact ⟨A, hwf, Or.inr ⟨0, fun M hR => Ct.e (c_arrayX hG (by decide) (hR.2.2.2.1.trans (by rw [h]))) (pc_rf hR), fun M hR => Ct.e (c_marrayX hG (hR.2.2.2.1.trans (by rw [h]))) (pm_t hR 1)⟩⟩
  · have hl : (aH A).length < 40 := by have := hz.2.2.1; omega
    refine ⟨addTh A (9, 0, 0, [], [], []), wf_th hwf hl hz.1 ⟨Or.inr (Or.inl rfl), (fun v h => by cases h), (fun v h => by cases h), (fun v h => by cases h), (fun h => absurd h (show ¬ (9 : Nat) = 10 by decide)), (fun h => absurd h (show ¬ (9 : Nat) = 12 by decide)), fun _ => rfl, fun _ => rfl, fun _ => rfl, List.nodup_nil⟩, Or.inl ⟨16 * lN (aH A).length + 7, fun M hR => ?_, fun M hR => Ct.e (c_marray hG (by decide) hR.2.2.2.1 hl) (rm_new hR hl rfl rfl rfl rfl rfl (fun _ k v h => by cases h) (fun h => absurd h (show ¬ (9 : Nat) = 8 by decide)) (fun h => absurd h (show ¬ (9 : Nat) = 12 by decide)) (Nat.zero_le _) (show (9 : Nat) < 16 by decide))⟩⟩
    have h := c_array (d := 64) hG (by decide) hR.2.2.2.1 hl
    rw [n7] at h
    exact Ct.e h (rc_aH hR hl eq_new (by simp [ui]) (pt_new.th rfl (Nat.zero_le _) (Nat.zero_le _) rfl (by decide)))
/-- bytes of the class -/
theorem ct_bytes (hG : Gok G) {M : Mm} (b : Int64) {n m : Nat} (hn : M.1 (1, 0) 5 = nI n) (hn2 : n < 40) (hm : m ≤ 8) : ∃ M', Ct G mX8_bytes 64 [.ref (ga G (0, 0)), .long b, .int (nI m)] M (.inl (some (.long (16 * lN n + 7)))) M' 0 ∧ Pt 12 (-1) 0 (blc b m) [] [] n M' ∧ EqF (fun q j => ¬ (8 ≤ q.1 ∧ q.1 ≤ 14 ∧ q.2 = n) ∧ ¬ (q.1 = 1 ∧ j = 5)) M M' ∧ M'.1 (1, 0) 5 = nI (n + 1) := by
  have hp := pt_new (M := M) (n := n) (k := 12)
  have hS := eq_new (M := M) (n := n) (k := 12)
  rcases (show m = 0 ∨ m = 1 ∨ m = 2 ∨ m = 3 ∨ m = 4 ∨ m = 5 ∨ m = 6 ∨ m = 7 ∨ m = 8 by omega) with rfl | rfl | rfl | rfl | rfl | rfl | rfl | rfl | rfl
  · exact ⟨_, by have h := c_bytes0 (d := 64) hG (by decide) b hn hn2; rw [n7] at h; exact h, hp, hS, by simp [ui, ul]⟩
  · exact ⟨_, by have h := c_bytes1 (d := 64) hG (by decide) b hn hn2; rw [n7] at h; exact h, (hp.aL (e := 16 * ((b >>> ((nI 0).toInt64 &&& 63)) &&& 255) + (nI 4).toInt64)), ((hS.ul (by simp)).ui (by simp)), by simp [ui, ul]⟩
  · exact ⟨_, by have h := c_bytes2 (d := 64) hG (by decide) b hn hn2; rw [n7] at h; exact h, ((hp.aL (e := 16 * ((b >>> ((nI 0).toInt64 &&& 63)) &&& 255) + (nI 4).toInt64)).aL (e := 16 * ((b >>> ((nI 8).toInt64 &&& 63)) &&& 255) + (nI 4).toInt64)), ((((hS.ul (by simp)).ui (by simp)).ul (by simp)).ui (by simp)), by simp [ui, ul]⟩
  · exact ⟨_, by have h := c_bytes3 (d := 64) hG (by decide) b hn hn2; rw [n7] at h; exact h, (((hp.aL (e := 16 * ((b >>> ((nI 0).toInt64 &&& 63)) &&& 255) + (nI 4).toInt64)).aL (e := 16 * ((b >>> ((nI 8).toInt64 &&& 63)) &&& 255) + (nI 4).toInt64)).aL (e := 16 * ((b >>> ((nI 16).toInt64 &&& 63)) &&& 255) + (nI 4).toInt64)), ((((((hS.ul (by simp)).ui (by simp)).ul (by simp)).ui (by simp)).ul (by simp)).ui (by simp)), by simp [ui, ul]⟩
  · exact ⟨_, by have h := c_bytes4 (d := 64) hG (by decide) b hn hn2; rw [n7] at h; exact h, ((((hp.aL (e := 16 * ((b >>> ((nI 0).toInt64 &&& 63)) &&& 255) + (nI 4).toInt64)).aL (e := 16 * ((b >>> ((nI 8).toInt64 &&& 63)) &&& 255) + (nI 4).toInt64)).aL (e := 16 * ((b >>> ((nI 16).toInt64 &&& 63)) &&& 255) + (nI 4).toInt64)).aL (e := 16 * ((b >>> ((nI 24).toInt64 &&& 63)) &&& 255) + (nI 4).toInt64)), ((((((((hS.ul (by simp)).ui (by simp)).ul (by simp)).ui (by simp)).ul (by simp)).ui (by simp)).ul (by simp)).ui (by simp)), by simp [ui, ul]⟩
  · exact ⟨_, by have h := c_bytes5 (d := 64) hG (by decide) b hn hn2; rw [n7] at h; exact h, (((((hp.aL (e := 16 * ((b >>> ((nI 0).toInt64 &&& 63)) &&& 255) + (nI 4).toInt64)).aL (e := 16 * ((b >>> ((nI 8).toInt64 &&& 63)) &&& 255) + (nI 4).toInt64)).aL (e := 16 * ((b >>> ((nI 16).toInt64 &&& 63)) &&& 255) + (nI 4).toInt64)).aL (e := 16 * ((b >>> ((nI 24).toInt64 &&& 63)) &&& 255) + (nI 4).toInt64)).aL (e := 16 * ((b >>> ((nI 32).toInt64 &&& 63)) &&& 255) + (nI 4).toInt64)), ((((((((((hS.ul (by simp)).ui (by simp)).ul (by simp)).ui (by simp)).ul (by simp)).ui (by simp)).ul (by simp)).ui (by simp)).ul (by simp)).ui (by simp)), by simp [ui, ul]⟩
  · exact ⟨_, by have h := c_bytes6 (d := 64) hG (by decide) b hn hn2; rw [n7] at h; exact h, ((((((hp.aL (e := 16 * ((b >>> ((nI 0).toInt64 &&& 63)) &&& 255) + (nI 4).toInt64)).aL (e := 16 * ((b >>> ((nI 8).toInt64 &&& 63)) &&& 255) + (nI 4).toInt64)).aL (e := 16 * ((b >>> ((nI 16).toInt64 &&& 63)) &&& 255) + (nI 4).toInt64)).aL (e := 16 * ((b >>> ((nI 24).toInt64 &&& 63)) &&& 255) + (nI 4).toInt64)).aL (e := 16 * ((b >>> ((nI 32).toInt64 &&& 63)) &&& 255) + (nI 4).toInt64)).aL (e := 16 * ((b >>> ((nI 40).toInt64 &&& 63)) &&& 255) + (nI 4).toInt64)), ((((((((((((hS.ul (by simp)).ui (by simp)).ul (by simp)).ui (by simp)).ul (by simp)).ui (by simp)).ul (by simp)).ui (by simp)).ul (by simp)).ui (by simp)).ul (by simp)).ui (by simp)), by simp [ui, ul]⟩
  · exact ⟨_, by have h := c_bytes7 (d := 64) hG (by decide) b hn hn2; rw [n7] at h; exact h, (((((((hp.aL (e := 16 * ((b >>> ((nI 0).toInt64 &&& 63)) &&& 255) + (nI 4).toInt64)).aL (e := 16 * ((b >>> ((nI 8).toInt64 &&& 63)) &&& 255) + (nI 4).toInt64)).aL (e := 16 * ((b >>> ((nI 16).toInt64 &&& 63)) &&& 255) + (nI 4).toInt64)).aL (e := 16 * ((b >>> ((nI 24).toInt64 &&& 63)) &&& 255) + (nI 4).toInt64)).aL (e := 16 * ((b >>> ((nI 32).toInt64 &&& 63)) &&& 255) + (nI 4).toInt64)).aL (e := 16 * ((b >>> ((nI 40).toInt64 &&& 63)) &&& 255) + (nI 4).toInt64)).aL (e := 16 * ((b >>> ((nI 48).toInt64 &&& 63)) &&& 255) + (nI 4).toInt64)), ((((((((((((((hS.ul (by simp)).ui (by simp)).ul (by simp)).ui (by simp)).ul (by simp)).ui (by simp)).ul (by simp)).ui (by simp)).ul (by simp)).ui (by simp)).ul (by simp)).ui (by simp)).ul (by simp)).ui (by simp)), by simp [ui, ul]⟩
  · exact ⟨_, by have h := c_bytes8 (d := 64) hG (by decide) b hn hn2; rw [n7] at h; exact h, ((((((((hp.aL (e := 16 * ((b >>> ((nI 0).toInt64 &&& 63)) &&& 255) + (nI 4).toInt64)).aL (e := 16 * ((b >>> ((nI 8).toInt64 &&& 63)) &&& 255) + (nI 4).toInt64)).aL (e := 16 * ((b >>> ((nI 16).toInt64 &&& 63)) &&& 255) + (nI 4).toInt64)).aL (e := 16 * ((b >>> ((nI 24).toInt64 &&& 63)) &&& 255) + (nI 4).toInt64)).aL (e := 16 * ((b >>> ((nI 32).toInt64 &&& 63)) &&& 255) + (nI 4).toInt64)).aL (e := 16 * ((b >>> ((nI 40).toInt64 &&& 63)) &&& 255) + (nI 4).toInt64)).aL (e := 16 * ((b >>> ((nI 48).toInt64 &&& 63)) &&& 255) + (nI 4).toInt64)).aL (e := 16 * ((b >>> ((nI 56).toInt64 &&& 63)) &&& 255) + (nI 4).toInt64)), ((((((((((((((((hS.ul (by simp)).ui (by simp)).ul (by simp)).ui (by simp)).ul (by simp)).ui (by simp)).ul (by simp)).ui (by simp)).ul (by simp)).ui (by simp)).ul (by simp)).ui (by simp)).ul (by simp)).ui (by simp)).ul (by simp)).ui (by simp)), by simp [ui, ul]⟩
theorem op_bytes (hG : Gok G) (hwf : wfA A) (hz : szA A) (b : Int64) (m : Int32) : ∃ A', wfA A' ∧ ((∃ x, OpR G mX8_bytes mX9_bytes [.long b, .int m] A (some (.long x)) A') ∨ (∃ x, OpX G mX8_bytes mX9_bytes [.long b, .int m] A IAE (some (.long x)) 1 A') ∨ ∃ x, OpX G mX8_bytes mX9_bytes [.long b, .int m] A ISE (some (.long x)) 2 A') := by
  rcases i_cases m with hm | ⟨m, hm, rfl⟩
  · exact ⟨A, hwf, Or.inr (Or.inl ⟨0, fun M hR => Ct.e (c_bytesN hG (by decide) b hm) (pc_rf hR), fun M hR => Ct.e (c_mbytesN hG b hm) (pm_t hR 1)⟩)⟩
  · by_cases h8 : m ≤ 8
    · by_cases h : (aH A).length = 40
      · exact ⟨A, hwf, Or.inr (Or.inr ⟨0, fun M hR => Ct.e (c_bytesX hG (by decide) b h8 (hR.2.2.2.1.trans (by rw [h]))) (pc_rf hR), fun M hR => Ct.e (c_mbytesX hG b h8 (hR.2.2.2.1.trans (by rw [h]))) (pm_t hR 2)⟩)⟩
      · have hl : (aH A).length < 40 := by have := hz.2.2.1; omega
        have hlen := blc_len b m
        have hw : (aH (addTh A (12, 0, 0, blc b m, [], []))).length = (aH A).length + 1 := by show (aH A ++ [_]).length = _; simp
        have hv : ∀ v ∈ blc b m, ∃ c, c < 256 ∧ v = 16 * lN c + 4 := fun v hv => by
          obtain ⟨k, hk, e⟩ := List.mem_iff_getElem.mp hv
          obtain ⟨c, h1, h2, h3⟩ := blc_at b h8 (show (blc b m)[k]? = some v by rw [List.getElem?_eq_getElem hk, e])
          exact ⟨c, h1, h2⟩
        refine ⟨addTh A (12, 0, 0, blc b m, [], []), wf_th hwf hl hz.1 ⟨Or.inr (Or.inr (Or.inr rfl)), fun v h => ?_, (fun v h => by cases h), (fun v h => by cases h), (fun h => absurd h (show ¬ (12 : Nat) = 10 by decide)), fun _ v h => hv v h, fun _ => rfl, fun _ => rfl, (fun h => absurd h (show ¬ (12 : Nat) = 8 by decide)), List.nodup_nil⟩, Or.inl ⟨16 * lN (aH A).length + 7, fun M hR => ?_, fun M hR => Ct.e (c_mbytes hG (by decide) b h8 hR.2.2.2.1 hl) (rm_new hR hl rfl (by rw [show (tL ((12, 0, 0, blc b m, [], []) : Th)).length = m from hlen]) rfl rfl rfl (fun h => absurd rfl h) (fun h => absurd h (show ¬ (12 : Nat) = 8 by decide)) (fun _ k v h => by obtain ⟨c, h1, h2, h3⟩ := blc_at b h8 h; exact h3) (by show (blc b m).length ≤ 8; omega) (show (12 : Nat) < 16 by decide))⟩⟩
        · obtain ⟨c, h1, h2⟩ := hv v h
          exact isV_by h1 h2
        · obtain ⟨M', h1, h2, h3, h4⟩ := ct_bytes hG b hR.2.2.2.1 hl h8
          exact Ct.e h1 (rc_aH hR hl h3 h4 (h2.th rfl (by omega) (Nat.zero_le _) rfl (by decide)))
    · exact ⟨A, hwf, Or.inr (Or.inl ⟨0, fun M hR => Ct.e (c_bytesO hG (by decide) b (by omega) hm) (pc_rf hR), fun M hR => Ct.e (c_mbytesO hG b (by omega) hm) (pm_t hR 1)⟩)⟩
theorem ct_object (hG : Gok G) {M : Mm} {n tn t m : Nat} (hn : M.1 (1, 0) 5 = nI n) (hn2 : n < 40) (htn : M.1 (1, 0) 4 = nI tn) (htn2 : tn ≤ 12) (ht : t < tn) (hm : M.1 (6, t) 1 = nI m) (hm3 : m ≤ 3) : ∃ M', Ct G mX8_object 64 [.ref (ga G (0, 0)), .int (nI t)] M (.inl (some (.long (16 * lN n + 7)))) M' 0 ∧ Pt 10 (nI t) 0 (List.replicate m 0) [] [] n M' ∧ EqF (fun q j => ¬ (8 ≤ q.1 ∧ q.1 ≤ 14 ∧ q.2 = n) ∧ ¬ (q.1 = 1 ∧ j = 5)) M M' ∧ M'.1 (1, 0) 5 = nI (n + 1) := by
  have hp0 := pt_new (M := M) (n := n) (k := 10)
  have hS := (eq_new (M := M) (n := n) (k := 10)).ui (k := (8, n)) (j := 4) (x := nI t) (by simp)
  have hp : Pt 10 (nI t) 0 [] [] [] n (ui (ui (ui (ui (ui (ul (ui (ui M (8, n) 3 (nI 10)) (8, n) 4 (-1)) (8, n) 5 0) (9, n) 1 (nI 0)) (11, n) 1 (nI 0)) (13, n) 1 (nI 0)) (1, 0) 5 (nI (n + 1))) (8, n) 4 (nI t)) := by
    refine ⟨?_, ?_, ?_, ⟨?_, LI_nil _⟩, ⟨?_, LI_nil _⟩, ⟨?_, LI_nil _⟩⟩ <;> simp [ui, ul]
  rcases (show m = 0 ∨ m = 1 ∨ m = 2 ∨ m = 3 by omega) with rfl | rfl | rfl | rfl
  · exact ⟨_, by have h := c_object0 (d := 64) hG (by decide) hn hn2 htn htn2 ht hm; rw [n7] at h; exact h, hp, hS, by simp [ui, ul]⟩
  · exact ⟨_, by have h := c_object1 (d := 64) hG (by decide) hn hn2 htn htn2 ht hm; rw [n7] at h; exact h, (hp.aL (e := 0)), ((hS.ul (by simp)).ui (by simp)), by simp [ui, ul]⟩
  · exact ⟨_, by have h := c_object2 (d := 64) hG (by decide) hn hn2 htn htn2 ht hm; rw [n7] at h; exact h, ((hp.aL (e := 0)).aL (e := 0)), ((((hS.ul (by simp)).ui (by simp)).ul (by simp)).ui (by simp)), by simp [ui, ul]⟩
  · exact ⟨_, by have h := c_object3 (d := 64) hG (by decide) hn hn2 htn htn2 ht hm; rw [n7] at h; exact h, (((hp.aL (e := 0)).aL (e := 0)).aL (e := 0)), ((((((hS.ul (by simp)).ui (by simp)).ul (by simp)).ui (by simp)).ul (by simp)).ui (by simp)), by simp [ui, ul]⟩
theorem rep0 {m k : Nat} {v : Int64} (h : (List.replicate m (0 : Int64))[k]? = some v) : v = 0 := by
  have := at_mem h
  exact (List.mem_replicate.mp this).2
theorem op_object (hG : Gok G) (hwf : wfA A) (hz : szA A) (t : Int32) : ∃ A', wfA A' ∧ ((∃ x, OpR G mX8_object mX9_object [.int t] A (some (.long x)) A') ∨ (∃ x, OpX G mX8_object mX9_object [.int t] A IAE (some (.long x)) 1 A') ∨ ∃ x, OpX G mX8_object mX9_object [.int t] A ISE (some (.long x)) 2 A') := by
  rcases i_cases t with hm | ⟨t, hm, rfl⟩
  · exact ⟨A, hwf, Or.inr (Or.inl ⟨0, fun M hR => Ct.e (c_objectN hG (by decide) hm) (pc_rf hR), fun M hR => Ct.e (c_mobjectN hG hm) (pm_t hR 1)⟩)⟩
  · by_cases ht : t < (aT A).length
    · by_cases h : (aH A).length = 40
      · exact ⟨A, hwf, Or.inr (Or.inr ⟨0, fun M hR => Ct.e (c_objectX hG (by decide) (hR.2.2.2.1.trans (by rw [h])) hR.2.2.1 hz.2.1 ht) (pc_rf hR), fun M hR => Ct.e (c_mobjectX hG (hR.2.2.2.1.trans (by rw [h])) hR.2.2.1 hz.2.1 ht) (pm_t hR 2)⟩)⟩
      · have hl : (aH A).length < 40 := by have := hz.2.2.1; omega
        obtain ⟨y, hy⟩ : ∃ y, (aT A)[t]? = some y := ⟨_, List.getElem?_eq_getElem ht⟩
        have hy3 : (rM y).length ≤ 3 := (hwf.1 y (at_mem hy)).2.1
        refine ⟨addTh A (10, 0, t, List.replicate (rM y).length 0, [], []), wf_th hwf hl hz.1 ⟨Or.inr (Or.inr (Or.inl rfl)), fun v h => ?_, (fun v h => by cases h), (fun v h => by cases h), fun _ => ⟨y, hy, List.length_replicate, fun _ => rfl, (fun k h => by cases h)⟩, (fun h => absurd h (show ¬ (10 : Nat) = 12 by decide)), fun _ => rfl, fun _ => rfl, (fun h => absurd h (show ¬ (10 : Nat) = 8 by decide)), List.nodup_nil⟩, Or.inl ⟨16 * lN (aH A).length + 7, fun M hR => ?_, fun M hR => Ct.e (c_mobject hG (by decide) hR.2.2.2.1 hl hR.2.2.1 hz.2.1 ht (hR.1.2.1 t y hy).2.2.1) (rm_new hR hl rfl (by rw [show (tL ((10, 0, t, List.replicate (rM y).length 0, [], []) : Th)).length = (rM y).length from List.length_replicate]) rfl rfl rfl (fun _ k v h => rep0 h) (fun h => absurd h (show ¬ (10 : Nat) = 8 by decide)) (fun h => absurd h (show ¬ (10 : Nat) = 12 by decide)) (by show (List.replicate (rM y).length (0 : Int64)).length ≤ 8; rw [List.length_replicate]; omega) (show (10 : Nat) < 16 by decide))⟩⟩
        · rw [(List.mem_replicate.mp h).2]
          exact isV_0
        · obtain ⟨M', h1, h2, h3, h4⟩ := ct_object hG hR.2.2.2.1 hl hR.2.2.1 hz.2.1 ht (hR.1.2.1 t y hy).2.2.1.1 hy3
          exact Ct.e h1 (rc_aH hR hl h3 h4 (h2.th rfl (by rw [List.length_replicate]; omega) (Nat.zero_le _) rfl (by decide)))
    · exact ⟨A, hwf, Or.inr (Or.inl ⟨0, fun M hR => Ct.e (c_objectO hG (by decide) hR.2.2.1 hz.2.1 (by omega) hm) (pc_rf hR), fun M hR => Ct.e (c_mobjectO hG hR.2.2.1 hz.2.1 (by omega) hm) (pm_t hR 1)⟩)⟩
end O2
