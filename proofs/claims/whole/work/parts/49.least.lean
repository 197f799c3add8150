/-! ===== layer 2: the least cuts, one by one ===== -/
def jb_lq (N : jb_N) (H X : Nat) : Bool := decide (1 ≤ X) && ((jb_t N || !X.testBit 0) && decide (jb_cu N X (2 ^ jb_n N - 1) = H))
def jb_lc (N : jb_N) (H X : Nat) : Nat := jn_ct (jb_lq N H) X
def jb_sq (N : jb_N) (H s : Nat) : Bool := decide (1 ≤ s) && decide (jb_cu N (jp_X N s) (2 ^ jb_n N - 1) = H)
def jb_sc (N : jb_N) (H s : Nat) : Nat := jn_ct (jb_sq N H) s
theorem jn_ct_lt {f : Nat → Bool} {x y : Nat} (h : x < y) (hf : f x = true) : jn_ct f x < jn_ct f y := by
  obtain ⟨k, rfl⟩ := Nat.le.dest (show x + 1 ≤ y from h)
  rw [jn_ct_app, ← jn_ct_p hf]
  omega
theorem jn_ct_inj {f : Nat → Bool} {x y : Nat} (hx : f x = true) (hy : f y = true) (h : jn_ct f x = jn_ct f y) : x = y := by
  rcases Nat.lt_trichotomy x y with k | k | k
  · have := jn_ct_lt k hx
    omega
  · exact k
  · have := jn_ct_lt k hy
    omega
section
variable {N : jb_N}
theorem jb_lc_even (ht : jb_t N = false) (H : Nat) : ∀ s, jb_lc N H (s * 2) = jb_sc N H s := by
  intro s
  induction s with
  | zero => rfl
  | succ s ih =>
    unfold jb_lc jb_sc at *
    rw [show (s + 1) * 2 = s * 2 + 1 + 1 by omega]
    have e1 : jb_lq N H (s * 2 + 1) = false := by
      unfold jb_lq
      rw [ht, show (s * 2 + 1).testBit 0 = true by rw [Nat.testBit_zero]; simp]
      simp
    have e2 : jb_lq N H (s * 2) = jb_sq N H s := by
      unfold jb_lq jb_sq jp_X jp_sh
      rw [ht, show (s * 2).testBit 0 = false by rw [Nat.testBit_zero]; simp]
      have : decide (1 ≤ s * 2) = decide (1 ≤ s) := by
        by_cases k : 1 ≤ s
        · simp [k]; omega
        · simp [k]; omega
      rw [this]
      rfl
    simp only [jn_ct, ih, e1, e2]
    simp
theorem jb_lq_sq {H s : Nat} : jb_lq N H (jp_X N s) = jb_sq N H s := by
  unfold jb_lq jb_sq jp_X jp_sh
  cases ht : jb_t N
  · have : decide (1 ≤ s * 2 ^ 1) = decide (1 ≤ s) := by
      by_cases k : 1 ≤ s
      · simp [k]; omega
      · simp [k]; omega
    simp only [cond_false]
    rw [this, show Nat.testBit (s * 2 ^ 1) 0 = false by rw [Nat.testBit_zero]; simp]
    rfl
  · simp
theorem jb_lc_sc {H s : Nat} : jb_lc N H (jp_X N s) = jb_sc N H s := by
  cases ht : jb_t N
  · have := jb_lc_even ht H s
    unfold jp_X jp_sh
    rw [ht]
    exact this
  · unfold jb_lc jb_sc
    have e : jp_X N s = s := by
      unfold jp_X jp_sh
      rw [ht]
      simp
    rw [e]
    refine jn_ct_congr _ (fun i _ => ?_)
    have e2 : jp_X N i = i := by
      unfold jp_X jp_sh
      rw [ht]
      simp
    rw [← jb_lq_sq, e2]
theorem jb_lc_end {H : Nat} : jb_lc N H (2 ^ jb_p N - 1) = jb_sc N H (jp_sd N) := by
  cases ht : jb_t N
  · have e : jp_sd N = 2 ^ jb_p N / 2 := by
      unfold jp_sd
      rw [ht]
      rfl
    rw [e, ← jb_lc_even ht]
    by_cases hp : jb_p N = 0
    · rw [hp]
    · have hpe : 2 ^ jb_p N = 2 * 2 ^ (jb_p N - 1) := by
        rw [show jb_p N = (jb_p N - 1) + 1 by omega, Nat.pow_succ, Nat.mul_comm, Nat.add_sub_cancel]
      have h0 := Nat.two_pow_pos (jb_p N - 1)
      rw [show 2 ^ jb_p N / 2 * 2 = (2 ^ jb_p N - 1) + 1 by omega]
      have e1 : jb_lq N H (2 ^ jb_p N - 1) = false := by
        unfold jb_lq
        rw [ht, show Nat.testBit (2 ^ jb_p N - 1) 0 = true by rw [Nat.testBit_zero]; simp; omega]
        simp
      show jn_ct _ _ = jn_ct _ _
      simp only [jn_ct, e1]
      simp
  · have e : jp_sd N = 2 ^ jb_p N - 1 := by
      unfold jp_sd
      rw [ht]
      rfl
    rw [e, ← jb_lc_sc]
    have e2 : jp_X N (2 ^ jb_p N - 1) = 2 ^ jb_p N - 1 := by
      unfold jp_X jp_sh
      rw [ht]
      simp
    rw [e2]
theorem jb_lq_side {H X : Nat} (h : jb_lq N H X = true) (hX : X < 2 ^ jb_p N - 1) : ∃ s, s < jp_sd N ∧ X = jp_X N s := by
  unfold jb_lq at h
  simp only [Bool.and_eq_true, decide_eq_true_eq] at h
  unfold jp_X jp_sh jp_sd
  cases ht : jb_t N
  · rw [ht] at h
    have h0 : X % 2 = 0 := by
      have := h.2.1
      rw [Nat.testBit_zero] at this
      simp at this
      omega
    simp only [cond_false]
    refine ⟨X / 2, ?_, by omega⟩
    have hp : jb_p N ≠ 0 := fun e => by
      rw [e] at hX
      omega
    have hpe : 2 ^ jb_p N = 2 * 2 ^ (jb_p N - 1) := by
      rw [show jb_p N = (jb_p N - 1) + 1 by omega, Nat.pow_succ, Nat.mul_comm, Nat.add_sub_cancel]
    omega
  · simp only [cond_true]
    exact ⟨X, hX, by simp⟩
end
section
variable {d : Nat} {h : jx_H} {N : jb_N}
theorem dm_manyX (w : jb_wf N) (P : jp_P h N) {H : Nat} (hH : H ≤ 1000) : DM (d + 2) 46 [vr 14 0, vi (nI H)] h = some ([vi (nI (jb_sc N H (jp_sd N)))], h) := by
  obtain ⟨⟨p0, p1, p2, p3, p4, p5, p6⟩, pT⟩ := P
  have hn := w.2.1
  have hp := w.1
  have h2 := jn_pow8 hp
  have h20 := jn_pow20 hn
  have hsd := jp_sd_le (N := N)
  rw [d46, e46_0]
  by_cases hs0 : jp_sd N = 0
  · rw [e46_4, p5, hs0]
    simp (disch := omega) only [jx_bI_s, jx_bL_s, jx_bV_s, eq_self, true_or, or_true, jx_if_t, jx_if_f, jq_b0, jq_b1, jq_bb, jq_b01, jx_if_in, jx_if_lt, jx_if_nlt, jx_if_le, jx_if_nle, jq_eqp, jq_eqn, nI_clamp, nI_add, pk_sub, pk_mul, jn_and, jn_or, jn_xor, jq_andn, jq_shl1, jq_bit, jq_mn, jq_mx, cond_true, cond_false, jq_jt, jq_jf, jq_e1, jq_e2, jq_e3, jq_e4, Bool.not_true, Bool.not_false, jq_0, jq_1, jq_2, jq_3, jq_4, jq_5, jq_6, jq_8, jq_12, jq_16, jq_20, jq_21, jq_24, jq_30, jq_32, jq_60, jq_84, jq_1000, jq_2436, jq_20001]
    rfl
  have e1 : jb_sc N H 1 = 0 := by
    unfold jb_sc jb_sq
    simp [jn_ct]
  refine Eq.trans (?_ : _ = F46_4 (DM (d + 1)) (nI H) (nI (jb_sc N H 1)) (nI 1) h) ?_
  · rw [e1]
    rfl
  refine (jn_loop (fun i => F46_4 (DM (d + 1)) (nI H) (nI (jb_sc N H i)) (nI i) h) (show 1 ≤ jp_sd N by omega) (fun i hi1 hi => ?_)).trans ?_
  · show F46_4 _ _ _ _ _ = F46_4 _ _ _ _ _
    have hXi := jp_X_in hi1 hi
    have hcl := jp_cu_lt N (jp_X N i)
    have hci := jb_cu_le N (jp_X N i) (2 ^ jb_n N - 1)
    rw [e46_4, p5, p6, jp_side_sh hi hp]
    by_cases e : jb_cu N (jp_X N i) (2 ^ jb_n N - 1) = H
    · simp (disch := omega) only [jx_bI_s, jx_bL_s, jx_bV_s, eq_self, true_or, or_true, jx_if_t, jx_if_f, jq_b0, jq_b1, jq_bb, jq_b01, jx_if_in, jx_if_lt, jx_if_nlt, jx_if_le, jx_if_nle, jq_eqp, jq_eqn, nI_clamp, nI_add, pk_sub, pk_mul, jn_and, jn_or, jn_xor, jq_andn, jq_shl1, jq_bit, jq_mn, jq_mx, cond_true, cond_false, jq_jt, jq_jf, jq_e1, jq_e2, jq_e3, jq_e4, Bool.not_true, Bool.not_false, jq_0, jq_1, jq_2, jq_3, jq_4, jq_5, jq_6, jq_8, jq_12, jq_16, jq_20, jq_21, jq_24, jq_30, jq_32, jq_60, jq_84, jq_1000, jq_2436, jq_20001, (pT _ (show jp_X N i < 2 ^ jb_p N by omega)).2, dm_bc, jb_cu_all hn, e46_33]
      unfold jb_sc
      rw [jn_ct_p (by unfold jb_sq; simp [e, hi1])]
    · simp (disch := omega) only [jx_bI_s, jx_bL_s, jx_bV_s, eq_self, true_or, or_true, jx_if_t, jx_if_f, jq_b0, jq_b1, jq_bb, jq_b01, jx_if_in, jx_if_lt, jx_if_nlt, jx_if_le, jx_if_nle, jq_eqp, jq_eqn, nI_clamp, nI_add, pk_sub, pk_mul, jn_and, jn_or, jn_xor, jq_andn, jq_shl1, jq_bit, jq_mn, jq_mx, cond_true, cond_false, jq_jt, jq_jf, jq_e1, jq_e2, jq_e3, jq_e4, Bool.not_true, Bool.not_false, jq_0, jq_1, jq_2, jq_3, jq_4, jq_5, jq_6, jq_8, jq_12, jq_16, jq_20, jq_21, jq_24, jq_30, jq_32, jq_60, jq_84, jq_1000, jq_2436, jq_20001, (pT _ (show jp_X N i < 2 ^ jb_p N by omega)).2, dm_bc, jb_cu_all hn, e46_33]
      unfold jb_sc
      rw [show jn_ct (jb_sq N H) (i + 1) = jn_ct (jb_sq N H) i from (jn_ct_z (f := jb_sq N H) (by unfold jb_sq; simp [e])).symm]
  · show F46_4 _ _ _ _ _ = _
    rw [e46_4, p5, jx_if_nlt (Nat.le_refl _) (by omega)]
theorem dm_setX (w : jb_wf N) (P : jp_P h N) {H : Nat} (hH : H ≤ 1000) (i : Int32) : (∃ s, s < jp_sd N ∧ jb_sq N H s = true ∧ nI (jb_sc N H s) = i ∧ DM (d + 2) 47 [vr 14 0, vi (nI H), vi i] h = some ([vi (nI (jp_X N s))], h)) ∨ ((∀ s, s < jp_sd N → jb_sq N H s = true → nI (jb_sc N H s) ≠ i) ∧ DM (d + 2) 47 [vr 14 0, vi (nI H), vi i] h = some ([vi (nI 0)], h)) := by
  obtain ⟨⟨p0, p1, p2, p3, p4, p5, p6⟩, pT⟩ := P
  have hn := w.2.1
  have hp := w.1
  have h2 := jn_pow8 hp
  have h20 := jn_pow20 hn
  have hsd := jp_sd_le (N := N)
  have fin : ∀ s c, jp_sd N ≤ s → s ≤ 256 → (∀ s', s' < s → s' < jp_sd N → jb_sq N H s' = true → nI (jb_sc N H s') ≠ i) → (∃ s, s < jp_sd N ∧ jb_sq N H s = true ∧ nI (jb_sc N H s) = i ∧ F47_5 (DM (d + 1)) (nI H) i c (nI s) h = some ([vi (nI (jp_X N s))], h)) ∨ ((∀ s, s < jp_sd N → jb_sq N H s = true → nI (jb_sc N H s) ≠ i) ∧ F47_5 (DM (d + 1)) (nI H) i c (nI s) h = some ([vi (nI 0)], h)) := by
    intro s c h1 h256 hs
    refine Or.inr ⟨fun s' a b => hs s' (by omega) a b, ?_⟩
    rw [e47_5, p5]
    simp (disch := omega) only [jx_bI_s, jx_bL_s, jx_bV_s, eq_self, true_or, or_true, jx_if_t, jx_if_f, jq_b0, jq_b1, jq_bb, jq_b01, jx_if_in, jx_if_lt, jx_if_nlt, jx_if_le, jx_if_nle, jq_eqp, jq_eqn, nI_clamp, nI_add, pk_sub, pk_mul, jn_and, jn_or, jn_xor, jq_andn, jq_shl1, jq_bit, jq_mn, jq_mx, cond_true, cond_false, jq_jt, jq_jf, jq_e1, jq_e2, jq_e3, jq_e4, Bool.not_true, Bool.not_false, jq_0, jq_1, jq_2, jq_3, jq_4, jq_5, jq_6, jq_8, jq_12, jq_16, jq_20, jq_21, jq_24, jq_30, jq_32, jq_60, jq_84, jq_1000, jq_2436, jq_20001]
  have loop : ∀ k s, jp_sd N ≤ s + k → s ≤ 256 → 1 ≤ s → (∀ s', s' < s → s' < jp_sd N → jb_sq N H s' = true → nI (jb_sc N H s') ≠ i) → (∃ s', s' < jp_sd N ∧ jb_sq N H s' = true ∧ nI (jb_sc N H s') = i ∧ F47_5 (DM (d + 1)) (nI H) i (nI (jb_sc N H s)) (nI s) h = some ([vi (nI (jp_X N s'))], h)) ∨ ((∀ s', s' < jp_sd N → jb_sq N H s' = true → nI (jb_sc N H s') ≠ i) ∧ F47_5 (DM (d + 1)) (nI H) i (nI (jb_sc N H s)) (nI s) h = some ([vi (nI 0)], h)) := by
    intro k
    induction k with
    | zero =>
      intro s h1 h256 h3 hs
      refine Or.inr ⟨fun s' a b => hs s' (by omega) a b, ?_⟩
      rw [e47_5, p5]
      simp (disch := omega) only [jx_bI_s, jx_bL_s, jx_bV_s, eq_self, true_or, or_true, jx_if_t, jx_if_f, jq_b0, jq_b1, jq_bb, jq_b01, jx_if_in, jx_if_lt, jx_if_nlt, jx_if_le, jx_if_nle, jq_eqp, jq_eqn, nI_clamp, nI_add, pk_sub, pk_mul, jn_and, jn_or, jn_xor, jq_andn, jq_shl1, jq_bit, jq_mn, jq_mx, cond_true, cond_false, jq_jt, jq_jf, jq_e1, jq_e2, jq_e3, jq_e4, Bool.not_true, Bool.not_false, jq_0, jq_1, jq_2, jq_3, jq_4, jq_5, jq_6, jq_8, jq_12, jq_16, jq_20, jq_21, jq_24, jq_30, jq_32, jq_60, jq_84, jq_1000, jq_2436, jq_20001]
    | succ k ih =>
      intro s h1 h256 h3 hs
      by_cases hlt : s < jp_sd N
      · have hXi := jp_X_in h3 hlt
        have hcl := jp_cu_lt N (jp_X N s)
        have hci := jb_cu_le N (jp_X N s) (2 ^ jb_n N - 1)
        rw [e47_5, p5, p6, jp_side_sh hlt hp]
        by_cases e : jb_cu N (jp_X N s) (2 ^ jb_n N - 1) = H
        · have hq : jb_sq N H s = true := by unfold jb_sq; simp [e, h3]
          by_cases ei : nI (jb_sc N H s) = i
          · refine Or.inl ⟨s, hlt, hq, ei, ?_⟩
            simp (disch := omega) only [jx_bI_s, jx_bL_s, jx_bV_s, eq_self, true_or, or_true, jx_if_t, jx_if_f, jq_b0, jq_b1, jq_bb, jq_b01, jx_if_in, jx_if_lt, jx_if_nlt, jx_if_le, jx_if_nle, jq_eqp, jq_eqn, nI_clamp, nI_add, pk_sub, pk_mul, jn_and, jn_or, jn_xor, jq_andn, jq_shl1, jq_bit, jq_mn, jq_mx, cond_true, cond_false, jq_jt, jq_jf, jq_e1, jq_e2, jq_e3, jq_e4, Bool.not_true, Bool.not_false, jq_0, jq_1, jq_2, jq_3, jq_4, jq_5, jq_6, jq_8, jq_12, jq_16, jq_20, jq_21, jq_24, jq_30, jq_32, jq_60, jq_84, jq_1000, jq_2436, jq_20001, e47_23, (pT _ (show jp_X N s < 2 ^ jb_p N by omega)).2, dm_bc, jb_cu_all hn, jx_ifp ei]
          · have hc : jb_sc N H s + 1 = jb_sc N H (s + 1) := jn_ct_p hq
            rcases ih (s + 1) (by omega) (by omega) (by omega) (fun s' a b c => by
              by_cases e2 : s' = s
              · rw [e2]; exact ei
              · exact hs s' (by omega) b c) with ⟨s', a, b, c, dd⟩ | ⟨a, b⟩
            · refine Or.inl ⟨s', a, b, c, ?_⟩
              simp (disch := omega) only [jx_bI_s, jx_bL_s, jx_bV_s, eq_self, true_or, or_true, jx_if_t, jx_if_f, jq_b0, jq_b1, jq_bb, jq_b01, jx_if_in, jx_if_lt, jx_if_nlt, jx_if_le, jx_if_nle, jq_eqp, jq_eqn, nI_clamp, nI_add, pk_sub, pk_mul, jn_and, jn_or, jn_xor, jq_andn, jq_shl1, jq_bit, jq_mn, jq_mx, cond_true, cond_false, jq_jt, jq_jf, jq_e1, jq_e2, jq_e3, jq_e4, Bool.not_true, Bool.not_false, jq_0, jq_1, jq_2, jq_3, jq_4, jq_5, jq_6, jq_8, jq_12, jq_16, jq_20, jq_21, jq_24, jq_30, jq_32, jq_60, jq_84, jq_1000, jq_2436, jq_20001, e47_23, (pT _ (show jp_X N s < 2 ^ jb_p N by omega)).2, dm_bc, jb_cu_all hn, jx_ifn ei, e47_48, hc]
              exact dd
            · refine Or.inr ⟨a, ?_⟩
              simp (disch := omega) only [jx_bI_s, jx_bL_s, jx_bV_s, eq_self, true_or, or_true, jx_if_t, jx_if_f, jq_b0, jq_b1, jq_bb, jq_b01, jx_if_in, jx_if_lt, jx_if_nlt, jx_if_le, jx_if_nle, jq_eqp, jq_eqn, nI_clamp, nI_add, pk_sub, pk_mul, jn_and, jn_or, jn_xor, jq_andn, jq_shl1, jq_bit, jq_mn, jq_mx, cond_true, cond_false, jq_jt, jq_jf, jq_e1, jq_e2, jq_e3, jq_e4, Bool.not_true, Bool.not_false, jq_0, jq_1, jq_2, jq_3, jq_4, jq_5, jq_6, jq_8, jq_12, jq_16, jq_20, jq_21, jq_24, jq_30, jq_32, jq_60, jq_84, jq_1000, jq_2436, jq_20001, e47_23, (pT _ (show jp_X N s < 2 ^ jb_p N by omega)).2, dm_bc, jb_cu_all hn, jx_ifn ei, e47_48, hc]
              exact b
        · have hq : jb_sq N H s = false := by unfold jb_sq; simp [e]
          have hc : jb_sc N H (s + 1) = jb_sc N H s := (jn_ct_z hq).symm
          rcases ih (s + 1) (by omega) (by omega) (by omega) (fun s' a b c => by
            by_cases e2 : s' = s
            · rw [e2, hq] at c; cases c
            · exact hs s' (by omega) b c) with ⟨s', a, b, c, dd⟩ | ⟨a, b⟩
          · refine Or.inl ⟨s', a, b, c, ?_⟩
            simp (disch := omega) only [jx_bI_s, jx_bL_s, jx_bV_s, eq_self, true_or, or_true, jx_if_t, jx_if_f, jq_b0, jq_b1, jq_bb, jq_b01, jx_if_in, jx_if_lt, jx_if_nlt, jx_if_le, jx_if_nle, jq_eqp, jq_eqn, nI_clamp, nI_add, pk_sub, pk_mul, jn_and, jn_or, jn_xor, jq_andn, jq_shl1, jq_bit, jq_mn, jq_mx, cond_true, cond_false, jq_jt, jq_jf, jq_e1, jq_e2, jq_e3, jq_e4, Bool.not_true, Bool.not_false, jq_0, jq_1, jq_2, jq_3, jq_4, jq_5, jq_6, jq_8, jq_12, jq_16, jq_20, jq_21, jq_24, jq_30, jq_32, jq_60, jq_84, jq_1000, jq_2436, jq_20001, e47_23, (pT _ (show jp_X N s < 2 ^ jb_p N by omega)).2, dm_bc, jb_cu_all hn, e47_48]
            rw [hc] at dd
            exact dd
          · refine Or.inr ⟨a, ?_⟩
            simp (disch := omega) only [jx_bI_s, jx_bL_s, jx_bV_s, eq_self, true_or, or_true, jx_if_t, jx_if_f, jq_b0, jq_b1, jq_bb, jq_b01, jx_if_in, jx_if_lt, jx_if_nlt, jx_if_le, jx_if_nle, jq_eqp, jq_eqn, nI_clamp, nI_add, pk_sub, pk_mul, jn_and, jn_or, jn_xor, jq_andn, jq_shl1, jq_bit, jq_mn, jq_mx, cond_true, cond_false, jq_jt, jq_jf, jq_e1, jq_e2, jq_e3, jq_e4, Bool.not_true, Bool.not_false, jq_0, jq_1, jq_2, jq_3, jq_4, jq_5, jq_6, jq_8, jq_12, jq_16, jq_20, jq_21, jq_24, jq_30, jq_32, jq_60, jq_84, jq_1000, jq_2436, jq_20001, e47_23, (pT _ (show jp_X N s < 2 ^ jb_p N by omega)).2, dm_bc, jb_cu_all hn, e47_48]
            rw [hc] at b
            exact b
      · refine Or.inr ⟨fun s' a b => hs s' (by omega) a b, ?_⟩
        rw [e47_5, p5]
        simp (disch := omega) only [jx_bI_s, jx_bL_s, jx_bV_s, eq_self, true_or, or_true, jx_if_t, jx_if_f, jq_b0, jq_b1, jq_bb, jq_b01, jx_if_in, jx_if_lt, jx_if_nlt, jx_if_le, jx_if_nle, jq_eqp, jq_eqn, nI_clamp, nI_add, pk_sub, pk_mul, jn_and, jn_or, jn_xor, jq_andn, jq_shl1, jq_bit, jq_mn, jq_mx, cond_true, cond_false, jq_jt, jq_jf, jq_e1, jq_e2, jq_e3, jq_e4, Bool.not_true, Bool.not_false, jq_0, jq_1, jq_2, jq_3, jq_4, jq_5, jq_6, jq_8, jq_12, jq_16, jq_20, jq_21, jq_24, jq_30, jq_32, jq_60, jq_84, jq_1000, jq_2436, jq_20001]
  rw [d47, e47_0]
  have e1 : jb_sc N H 1 = 0 := by
    unfold jb_sc jb_sq
    simp [jn_ct]
  have := loop (jp_sd N) 1 (by omega) (by omega) (by omega) (fun s' a b c => by
    have : s' = 0 := by omega
    subst this
    unfold jb_sq at c
    simp at c)
  rw [e1] at this
  exact this
/-- what the reference does behind the last set -/
theorem dm_leastM (w : jb_wf N) (m : jb_M h N) {H : Nat} (hH : H ≤ 1000) (i : Int32) : (∃ X, X < 2 ^ jb_p N - 1 ∧ jb_lq N H X = true ∧ nI (jb_lc N H X) = i ∧ F143_10 (DM (d + 3)) i (nI H) (nI 0) (nI 1) h = some ([vi (nI X)], h)) ∨ ((∀ X, X < 2 ^ jb_p N - 1 → jb_lq N H X = true → nI (jb_lc N H X) ≠ i) ∧ F143_10 (DM (d + 3)) i (nI H) (nI 0) (nI 1) h = jx_if (i = -1) (F143_85 (DM (d + 3)) (nI (jb_lc N H (2 ^ jb_p N - 1))) h) (jx_bI (DM (d + 3) 111 [vr 30 0, vi (-6)] h) fun y3 h3 => F143_85 (DM (d + 3)) y3 h3)) := by
  have hn := w.2.1
  have hp := w.1
  have h2 := jn_pow8 hp
  have h20 := jn_pow20 hn
  have i20 := Nat.two_pow_pos (jb_n N)
  have loop : ∀ k X, 2 ^ jb_p N - 1 ≤ X + k → 1 ≤ X → X ≤ 256 → (X ≤ 2 ^ jb_p N - 1 ∨ jb_lc N H X = jb_lc N H (2 ^ jb_p N - 1)) → (∀ Y, Y < X → Y < 2 ^ jb_p N - 1 → jb_lq N H Y = true → nI (jb_lc N H Y) ≠ i) → (∃ Y, Y < 2 ^ jb_p N - 1 ∧ jb_lq N H Y = true ∧ nI (jb_lc N H Y) = i ∧ F143_10 (DM (d + 3)) i (nI H) (nI (jb_lc N H X)) (nI X) h = some ([vi (nI Y)], h)) ∨ ((∀ Y, Y < 2 ^ jb_p N - 1 → jb_lq N H Y = true → nI (jb_lc N H Y) ≠ i) ∧ F143_10 (DM (d + 3)) i (nI H) (nI (jb_lc N H X)) (nI X) h = jx_if (i = -1) (F143_85 (DM (d + 3)) (nI (jb_lc N H (2 ^ jb_p N - 1))) h) (jx_bI (DM (d + 3) 111 [vr 30 0, vi (-6)] h) fun y3 h3 => F143_85 (DM (d + 3)) y3 h3)) := by
    intro k
    induction k with
    | zero =>
      intro X h1 h3 h256 hle hs
      refine Or.inr ⟨fun Y a b => hs Y (by omega) a b, ?_⟩
      have hc : jb_lc N H X = jb_lc N H (2 ^ jb_p N - 1) := hle.elim (fun c => by rw [show X = 2 ^ jb_p N - 1 by omega]) id
      rw [e143_10]
      simp (disch := omega) only [jx_bI_s, jx_bL_s, jx_bV_s, eq_self, true_or, or_true, jx_if_t, jx_if_f, jq_b0, jq_b1, jq_bb, jq_b01, jx_if_in, jx_if_lt, jx_if_nlt, jx_if_le, jx_if_nle, jq_eqp, jq_eqn, nI_clamp, nI_add, pk_sub, pk_mul, jn_and, jn_or, jn_xor, jq_andn, jq_shl1, jq_bit, jq_mn, jq_mx, cond_true, cond_false, jq_jt, jq_jf, jq_e1, jq_e2, jq_e3, jq_e4, Bool.not_true, Bool.not_false, jq_0, jq_2, jq_3, jq_4, jq_5, jq_8, jq_12, jq_16, jq_20, jq_21, jq_24, jq_30, jq_32, jq_60, jq_84, jq_1000, jq_2436, jq_20001, dm_all (n := jb_p N) (by omega) m.1, hc]
    | succ k ih =>
      intro X h1 h3 h256 hle hs
      by_cases hlt : X < 2 ^ jb_p N - 1
      · have hci := jb_cu_le N X (2 ^ jb_n N - 1)
        by_cases hq : jb_lq N H X = true
        · have hq2 := hq
          unfold jb_lq at hq2
          simp only [Bool.and_eq_true, decide_eq_true_eq, Bool.or_eq_true, Bool.not_eq_true'] at hq2
          obtain ⟨_, q1, q2⟩ := hq2
          have pre : ∀ r, F143_35 (DM (d + 3)) i (nI H) (nI (jb_lc N H X)) (nI X) h = r → F143_10 (DM (d + 3)) i (nI H) (nI (jb_lc N H X)) (nI X) h = r := by
            intro r hr
            rw [e143_10]
            cases ht : jb_t N
            · have q1 := q1.resolve_left (by rw [ht]; decide)
              simp (disch := omega) only [jx_bI_s, jx_bL_s, jx_bV_s, eq_self, true_or, or_true, jx_if_t, jx_if_f, jq_b0, jq_b1, jq_bb, jq_b01, jx_if_in, jx_if_lt, jx_if_nlt, jx_if_le, jx_if_nle, jq_eqp, jq_eqn, nI_clamp, nI_add, pk_sub, pk_mul, jn_and, jn_or, jn_xor, jq_andn, jq_shl1, jq_bit, jq_mn, jq_mx, cond_true, cond_false, jq_jt, jq_jf, jq_e1, jq_e2, jq_e3, jq_e4, Bool.not_true, Bool.not_false, jq_0, jq_1, jq_2, jq_3, jq_4, jq_5, jq_6, jq_8, jq_12, jq_16, jq_20, jq_21, jq_24, jq_30, jq_32, jq_60, jq_84, jq_1000, jq_2436, jq_20001, dm_all (n := jb_p N) (by omega) m.1, m.2.2.1, ht, dm_inN, q1]
              exact hr
            · simp (disch := omega) only [jx_bI_s, jx_bL_s, jx_bV_s, eq_self, true_or, or_true, jx_if_t, jx_if_f, jq_b0, jq_b1, jq_bb, jq_b01, jx_if_in, jx_if_lt, jx_if_nlt, jx_if_le, jx_if_nle, jq_eqp, jq_eqn, nI_clamp, nI_add, pk_sub, pk_mul, jn_and, jn_or, jn_xor, jq_andn, jq_shl1, jq_bit, jq_mn, jq_mx, cond_true, cond_false, jq_jt, jq_jf, jq_e1, jq_e2, jq_e3, jq_e4, Bool.not_true, Bool.not_false, jq_0, jq_1, jq_2, jq_3, jq_4, jq_5, jq_6, jq_8, jq_12, jq_16, jq_20, jq_21, jq_24, jq_30, jq_32, jq_60, jq_84, jq_1000, jq_2436, jq_20001, dm_all (n := jb_p N) (by omega) m.1, m.2.2.1, ht]
              exact hr
          by_cases ei : nI (jb_lc N H X) = i
          · refine Or.inl ⟨X, hlt, hq, ei, pre _ ?_⟩
            rw [e143_35]
            simp (disch := omega) only [jx_bI_s, jx_bL_s, jx_bV_s, eq_self, true_or, or_true, jx_if_t, jx_if_f, jq_b0, jq_b1, jq_bb, jq_b01, jx_if_in, jx_if_lt, jx_if_nlt, jx_if_le, jx_if_nle, jq_eqp, jq_eqn, nI_clamp, nI_add, pk_sub, pk_mul, jn_and, jn_or, jn_xor, jq_andn, jq_shl1, jq_bit, jq_mn, jq_mx, cond_true, cond_false, jq_jt, jq_jf, jq_e1, jq_e2, jq_e3, jq_e4, Bool.not_true, Bool.not_false, jq_0, jq_1, jq_2, jq_3, jq_4, jq_5, jq_6, jq_8, jq_12, jq_16, jq_20, jq_21, jq_24, jq_30, jq_32, jq_60, jq_84, jq_1000, jq_2436, jq_20001, dm_allR (n := jb_n N) (by omega) m.2.1, m.2.1, dm_cutN w m, jx_ifp ei]
          · have hc : jb_lc N H X + 1 = jb_lc N H (X + 1) := jn_ct_p hq
            rcases ih (X + 1) (by omega) (by omega) (by omega) (Or.inl (by omega)) (fun Y a b c => by
              by_cases e2 : Y = X
              · rw [e2]; exact ei
              · exact hs Y (by omega) b c) with ⟨Y, a, b, c, dd⟩ | ⟨a, b⟩
            · refine Or.inl ⟨Y, a, b, c, pre _ ?_⟩
              rw [e143_35]
              simp (disch := omega) only [jx_bI_s, jx_bL_s, jx_bV_s, eq_self, true_or, or_true, jx_if_t, jx_if_f, jq_b0, jq_b1, jq_bb, jq_b01, jx_if_in, jx_if_lt, jx_if_nlt, jx_if_le, jx_if_nle, jq_eqp, jq_eqn, nI_clamp, nI_add, pk_sub, pk_mul, jn_and, jn_or, jn_xor, jq_andn, jq_shl1, jq_bit, jq_mn, jq_mx, cond_true, cond_false, jq_jt, jq_jf, jq_e1, jq_e2, jq_e3, jq_e4, Bool.not_true, Bool.not_false, jq_0, jq_1, jq_2, jq_3, jq_4, jq_5, jq_6, jq_8, jq_12, jq_16, jq_20, jq_21, jq_24, jq_30, jq_32, jq_60, jq_84, jq_1000, jq_2436, jq_20001, dm_allR (n := jb_n N) (by omega) m.2.1, m.2.1, dm_cutN w m, jx_ifn ei, e143_64, hc]
              exact dd
            · refine Or.inr ⟨a, pre _ ?_⟩
              rw [e143_35]
              simp (disch := omega) only [jx_bI_s, jx_bL_s, jx_bV_s, eq_self, true_or, or_true, jx_if_t, jx_if_f, jq_b0, jq_b1, jq_bb, jq_b01, jx_if_in, jx_if_lt, jx_if_nlt, jx_if_le, jx_if_nle, jq_eqp, jq_eqn, nI_clamp, nI_add, pk_sub, pk_mul, jn_and, jn_or, jn_xor, jq_andn, jq_shl1, jq_bit, jq_mn, jq_mx, cond_true, cond_false, jq_jt, jq_jf, jq_e1, jq_e2, jq_e3, jq_e4, Bool.not_true, Bool.not_false, jq_0, jq_1, jq_2, jq_3, jq_4, jq_5, jq_8, jq_12, jq_16, jq_20, jq_21, jq_24, jq_30, jq_32, jq_60, jq_84, jq_1000, jq_2436, jq_20001, dm_allR (n := jb_n N) (by omega) m.2.1, m.2.1, dm_cutN w m, jx_ifn ei, e143_64, hc]
              exact b
        · have hq' : jb_lq N H X = false := by simpa using hq
          have hc : jb_lc N H (X + 1) = jb_lc N H X := (jn_ct_z hq').symm
          have pre : ∀ r, F143_64 (DM (d + 3)) i (nI H) (nI (jb_lc N H X)) (nI X) h = r → F143_10 (DM (d + 3)) i (nI H) (nI (jb_lc N H X)) (nI X) h = r := by
            intro r hr
            rw [e143_10]
            cases ht : jb_t N
            · cases hb : X.testBit 0
              · have q2 : jb_cu N X (2 ^ jb_n N - 1) ≠ H := fun e => by
                  unfold jb_lq at hq'
                  rw [ht, hb, e] at hq'
                  simp at hq'
                  omega
                simp (disch := omega) only [jx_bI_s, jx_bL_s, jx_bV_s, eq_self, true_or, or_true, jx_if_t, jx_if_f, jq_b0, jq_b1, jq_bb, jq_b01, jx_if_in, jx_if_lt, jx_if_nlt, jx_if_le, jx_if_nle, jq_eqp, jq_eqn, nI_clamp, nI_add, pk_sub, pk_mul, jn_and, jn_or, jn_xor, jq_andn, jq_shl1, jq_bit, jq_mn, jq_mx, cond_true, cond_false, jq_jt, jq_jf, jq_e1, jq_e2, jq_e3, jq_e4, Bool.not_true, Bool.not_false, jq_0, jq_1, jq_2, jq_3, jq_4, jq_5, jq_6, jq_8, jq_12, jq_16, jq_20, jq_21, jq_24, jq_30, jq_32, jq_60, jq_84, jq_1000, jq_2436, jq_20001, dm_all (n := jb_p N) (by omega) m.1, m.2.2.1, ht, dm_inN, hb, e143_35, dm_allR (n := jb_n N) (by omega) m.2.1, m.2.1, dm_cutN w m]
                exact hr
              · simp (disch := omega) only [jx_bI_s, jx_bL_s, jx_bV_s, eq_self, true_or, or_true, jx_if_t, jx_if_f, jq_b0, jq_b1, jq_bb, jq_b01, jx_if_in, jx_if_lt, jx_if_nlt, jx_if_le, jx_if_nle, jq_eqp, jq_eqn, nI_clamp, nI_add, pk_sub, pk_mul, jn_and, jn_or, jn_xor, jq_andn, jq_shl1, jq_bit, jq_mn, jq_mx, cond_true, cond_false, jq_jt, jq_jf, jq_e1, jq_e2, jq_e3, jq_e4, Bool.not_true, Bool.not_false, jq_0, jq_1, jq_2, jq_3, jq_4, jq_5, jq_6, jq_8, jq_12, jq_16, jq_20, jq_21, jq_24, jq_30, jq_32, jq_60, jq_84, jq_1000, jq_2436, jq_20001, dm_all (n := jb_p N) (by omega) m.1, m.2.2.1, ht, dm_inN, hb]
                exact hr
            · have q2 : jb_cu N X (2 ^ jb_n N - 1) ≠ H := fun e => by
                unfold jb_lq at hq'
                rw [ht, e] at hq'
                simp at hq'
                omega
              simp (disch := omega) only [jx_bI_s, jx_bL_s, jx_bV_s, eq_self, true_or, or_true, jx_if_t, jx_if_f, jq_b0, jq_b1, jq_bb, jq_b01, jx_if_in, jx_if_lt, jx_if_nlt, jx_if_le, jx_if_nle, jq_eqp, jq_eqn, nI_clamp, nI_add, pk_sub, pk_mul, jn_and, jn_or, jn_xor, jq_andn, jq_shl1, jq_bit, jq_mn, jq_mx, cond_true, cond_false, jq_jt, jq_jf, jq_e1, jq_e2, jq_e3, jq_e4, Bool.not_true, Bool.not_false, jq_0, jq_1, jq_2, jq_3, jq_4, jq_5, jq_6, jq_8, jq_12, jq_16, jq_20, jq_21, jq_24, jq_30, jq_32, jq_60, jq_84, jq_1000, jq_2436, jq_20001, dm_all (n := jb_p N) (by omega) m.1, m.2.2.1, ht, e143_35, dm_allR (n := jb_n N) (by omega) m.2.1, m.2.1, dm_cutN w m]
              exact hr
          rcases ih (X + 1) (by omega) (by omega) (by omega) (Or.inl (by omega)) (fun Y a b c => by
            by_cases e2 : Y = X
            · rw [e2, hq'] at c; cases c
            · exact hs Y (by omega) b c) with ⟨Y, a, b, c, dd⟩ | ⟨a, b⟩
          · refine Or.inl ⟨Y, a, b, c, pre _ ?_⟩
            rw [e143_64, ← hc, nI_1]
            exact dd
          · refine Or.inr ⟨a, pre _ ?_⟩
            rw [e143_64, ← hc, nI_1]
            exact b
      · refine Or.inr ⟨fun Y a b => hs Y (by omega) a b, ?_⟩
        have hc : jb_lc N H X = jb_lc N H (2 ^ jb_p N - 1) := hle.elim (fun c => by rw [show X = 2 ^ jb_p N - 1 by omega]) id
        rw [e143_10]
        simp (disch := omega) only [jx_bI_s, jx_bL_s, jx_bV_s, eq_self, true_or, or_true, jx_if_t, jx_if_f, jq_b0, jq_b1, jq_bb, jq_b01, jx_if_in, jx_if_lt, jx_if_nlt, jx_if_le, jx_if_nle, jq_eqp, jq_eqn, nI_clamp, nI_add, pk_sub, pk_mul, jn_and, jn_or, jn_xor, jq_andn, jq_shl1, jq_bit, jq_mn, jq_mx, cond_true, cond_false, jq_jt, jq_jf, jq_e1, jq_e2, jq_e3, jq_e4, Bool.not_true, Bool.not_false, jq_0, jq_2, jq_3, jq_4, jq_5, jq_8, jq_12, jq_16, jq_20, jq_21, jq_24, jq_30, jq_32, jq_60, jq_84, jq_1000, jq_2436, jq_20001, dm_all (n := jb_p N) (by omega) m.1, hc]
  have h0 : jb_lq N H 0 = false := by
    unfold jb_lq
    simp
  have e1 : jb_lc N H 1 = 0 := by
    unfold jb_lc
    simp [jn_ct, h0]
  have i8 := Nat.two_pow_pos (jb_p N)
  have := loop (2 ^ jb_p N) 1 (by omega) (by omega) (by omega) (by
    by_cases c : 1 ≤ 2 ^ jb_p N - 1
    · exact Or.inl c
    · right
      have : 2 ^ jb_p N - 1 = 0 := by omega
      rw [this, e1]
      rfl) (fun Y a b c => by
    have : Y = 0 := by omega
    subst this
    rw [h0] at c
    cases c)
  rw [e1] at this
  exact this
end
theorem jt_15 {d : Nat} {hx hm : jx_H} (I : jb_Inv hx hm) (i : Int32) : jl_g d 45 143 [vi i] hx hm := by
  obtain ⟨N, w, x, m, h', rd, I', x', P⟩ := I.rd d
  have hp := w.1
  have hn := w.2.1
  have h8 := jn_pow8 hp
  have h20 := jn_pow20 hn
  have hsd := jp_sd_le (N := N)
  have i20 := Nat.two_pow_pos (jb_n N)
  have hH : jb_hm N (2 ^ jb_n N - 1) (if jb_p N < 2 then 0 else 1000) ≤ 1000 := by
    refine Nat.le_trans (jn_mn_le0 _) ?_
    split <;> omega
  generalize hHe : jb_hm N (2 ^ jb_n N - 1) (if jb_p N < 2 then 0 else 1000) = H at hH
  have a1 : DM (d + 39) 44 [vr 14 0, vi (nI (2 ^ jb_n N - 1))] h' = some ([vi (nI H)], h') := by
    rw [← hHe]
    exact dm_holdRM (d := d + 37) w P (by omega)
  have a2 : DM (d + 39) 141 [vr 30 0] hm = some ([vi (nI H)], hm) := by
    rw [← hHe]
    exact dm_netHoldM (d := d + 35) w m
  have lcl : ∀ X, jb_lc N H X ≤ X := fun X => jn_ct_le _ _
  have M := dm_leastM (d := d + 36) w m hH i
  have mm : ∀ r, F143_10 (DM (d + 39)) i (nI H) (nI 0) (nI 1) hm = r → DM (d + 40) 143 [vr 30 0, vi i] hm = r := by
    intro r hr
    rw [d143, e143_0]
    simp (disch := omega) only [jx_bI_s, jx_bL_s, jx_bV_s, eq_self, true_or, or_true, jx_if_t, jx_if_f, jq_b0, jq_b1, jq_bb, jq_b01, jx_if_in, jx_if_lt, jx_if_nlt, jx_if_le, jx_if_nle, jq_eqp, jq_eqn, nI_clamp, nI_add, pk_sub, pk_mul, jn_and, jn_or, jn_xor, jq_andn, jq_shl1, jq_bit, jq_mn, jq_mx, cond_true, cond_false, jq_jt, jq_jf, jq_e1, jq_e2, jq_e3, jq_e4, Bool.not_true, Bool.not_false, jq_0, jq_1, jq_2, jq_3, jq_4, jq_5, jq_6, jq_8, jq_12, jq_16, jq_20, jq_21, jq_24, jq_30, jq_32, jq_60, jq_84, jq_1000, jq_2436, jq_20001, a2]
    exact hr
  by_cases e : i = -1
  · have hno : ∀ X, X < 2 ^ jb_p N - 1 → jb_lq N H X = true → nI (jb_lc N H X) ≠ i := fun X hX _ k => by
      have h3 := lcl X
      have := nI_pos (n := jb_lc N H X) (by omega)
      rw [k, e] at this
      exact this (by decide)
    rcases M with ⟨X, b1, b2, b3, b4⟩ | ⟨b1, b2⟩
    · exact absurd b3 (hno X b1 b2)
    · refine ⟨nI (jb_sc N H (jp_sd N)), h', hm, ?_, mm _ ?_, I'⟩
      · rw [d45, e45_0]
        simp (disch := omega) only [jx_bI_s, jx_bL_s, jx_bV_s, eq_self, true_or, or_true, jx_if_t, jx_if_f, jq_b0, jq_b1, jq_bb, jq_b01, jx_if_in, jx_if_lt, jx_if_nlt, jx_if_le, jx_if_nle, jq_eqp, jq_eqn, nI_clamp, nI_add, pk_sub, pk_mul, jn_and, jn_or, jn_xor, jq_andn, jq_shl1, jq_bit, jq_mn, jq_mx, cond_true, cond_false, jq_jt, jq_jf, jq_e1, jq_e2, jq_e3, jq_e4, Bool.not_true, Bool.not_false, jq_0, jq_1, jq_2, jq_3, jq_4, jq_5, jq_6, jq_8, jq_12, jq_16, jq_20, jq_21, jq_24, jq_30, jq_32, jq_60, jq_84, jq_1000, jq_2436, jq_20001, rd, P.1.2.2.2.2.1, a1, jx_ifp (show i = -nI 1 from e), dm_manyX w P hH]
      · rw [b2, jx_ifp e, e143_85, jb_lc_end]
  · rcases dm_setX (d := d + 37) w P hH i with ⟨s, s1, s2, s3, s4⟩ | ⟨s1, s2⟩
    · have hs1 : 1 ≤ s := by
        unfold jb_sq at s2
        simp only [Bool.and_eq_true, decide_eq_true_eq] at s2
        exact s2.1
      obtain ⟨x1, x2⟩ := jp_X_in hs1 s1
      rcases M with ⟨X, b1, b2, b3, b4⟩ | ⟨b1, b2⟩
      · have eX : X = jp_X N s := by
          refine jn_ct_inj b2 (by rw [jb_lq_sq]; exact s2) (jq_inj ?_ ?_ ?_)
          · have := lcl X
            show jb_lc N H X < _
            omega
          · have := lcl (jp_X N s)
            show jb_lc N H (jp_X N s) < _
            omega
          · show nI (jb_lc N H X) = nI (jb_lc N H (jp_X N s))
            rw [b3, jb_lc_sc, s3]
        refine ⟨nI (jp_X N s), h', hm, ?_, mm _ ?_, I'⟩
        · rw [d45, e45_0]
          simp (disch := omega) only [jx_bI_s, jx_bL_s, jx_bV_s, eq_self, true_or, or_true, jx_if_t, jx_if_f, jq_b0, jq_b1, jq_bb, jq_b01, jx_if_in, jx_if_lt, jx_if_nlt, jx_if_le, jx_if_nle, jq_eqp, jq_eqn, nI_clamp, nI_add, pk_sub, pk_mul, jn_and, jn_or, jn_xor, jq_andn, jq_shl1, jq_bit, jq_mn, jq_mx, cond_true, cond_false, jq_jt, jq_jf, jq_e1, jq_e2, jq_e3, jq_e4, Bool.not_true, Bool.not_false, jq_0, jq_1, jq_2, jq_3, jq_4, jq_5, jq_6, jq_8, jq_12, jq_16, jq_20, jq_21, jq_24, jq_30, jq_32, jq_60, jq_84, jq_1000, jq_2436, jq_20001, rd, P.1.2.2.2.2.1, a1, jx_ifn (show ¬ i = -nI 1 from e), s4, e45_64]
        · rw [b4, eX]
      · exact absurd (by rw [jb_lc_sc]; exact s3) (b1 (jp_X N s) x2 (by rw [jb_lq_sq]; exact s2))
    · rcases M with ⟨X, b1, b2, b3, b4⟩ | ⟨b1, b2⟩
      · obtain ⟨s, c1, rfl⟩ := jb_lq_side b2 b1
        rw [jb_lq_sq] at b2
        rw [jb_lc_sc] at b3
        exact absurd b3 (s1 s c1 b2)
      · refine ⟨-6, _, _, ?_, mm _ ?_, I'.fd⟩
        · rw [d45, e45_0]
          simp (disch := omega) only [jx_bI_s, jx_bL_s, jx_bV_s, eq_self, true_or, or_true, jx_if_t, jx_if_f, jq_b0, jq_b1, jq_bb, jq_b01, jx_if_in, jx_if_lt, jx_if_nlt, jx_if_le, jx_if_nle, jq_eqp, jq_eqn, nI_clamp, nI_add, pk_sub, pk_mul, jn_and, jn_or, jn_xor, jq_andn, jq_shl1, jq_bit, jq_mn, jq_mx, cond_true, cond_false, jq_jt, jq_jf, jq_e1, jq_e2, jq_e3, jq_e4, Bool.not_true, Bool.not_false, jq_0, jq_1, jq_2, jq_3, jq_4, jq_5, jq_6, jq_8, jq_12, jq_16, jq_20, jq_21, jq_24, jq_30, jq_32, jq_60, jq_84, jq_1000, jq_2436, jq_20001, rd, P.1.2.2.2.2.1, a1, jx_ifn (show ¬ i = -nI 1 from e), s2, dm_fx, e45_64]
        · rw [b2, jx_ifn e, dm_fm, jx_bI_s, e143_85]
