/-! ===== layer 2: trees of both ===== -/
section
variable {d : Nat} {N : jb_N}
theorem dm_80 {h0 : jx_H} (w : jb_wf N) (P : jp_P h0 N) (ht : jb_t N = false) : ∀ k S h, S + k = 2 ^ jb_p N → 0 < S → h.1 = h0.1 → (∀ X, 0 < X → X < S → h.2 24 0 X = lN (jr_tm N X)) → ∃ h', h'.1 = h0.1 ∧ (∀ X, 0 < X → X < 2 ^ jb_p N → h'.2 24 0 X = lN (jr_tm N X)) ∧ F80_11 (DM (d + 3)) (nI S) h = F80_11 (DM (d + 3)) (nI (2 ^ jb_p N)) h' := by
  have h8 := jn_pow8 w.1
  intro k
  induction k with
  | zero =>
    intro S h hk h0 e tab
    have : S = 2 ^ jb_p N := by omega
    subst this
    exact ⟨h, e, tab, rfl⟩
  | succ k ih =>
    intro S h hk h0 e tab
    have P' := jp_P26 P e
    have c1 := dm_81w (d := d) w P' ht h0 (by omega) tab
    obtain ⟨h', a1, a2, a3⟩ := ih (S + 1) (jx_sL h 24 0 S (lN (jr_tm N S))) (by omega) (by omega) (by rw [jx_sL1, e]) (fun X x1 x2 => by
      rw [jx_sL2]
      by_cases c : X = S
      · rw [if_pos c, c]
      · rw [if_neg c, tab X x1 (by omega)])
    refine ⟨h', a1, a2, ?_⟩
    rw [← a3, e80_11]
    simp (disch := omega) only [jx_bI_s, jx_bL_s, jx_bV_s, eq_self, true_or, or_true, jx_if_t, jx_if_f, jq_b0, jq_b1, jq_bb, jq_b01, jx_if_in, jx_if_lt, jx_if_nlt, jx_if_le, jx_if_nle, jq_eqp, jq_eqn, nI_clamp, nI_add, pk_sub, pk_mul, jn_and, jn_or, jn_xor, jq_andn, jq_shl1, jq_bit, jq_mn, jq_mx, cond_true, cond_false, jq_jt, jq_jf, jq_e1, jq_e2, jq_e3, jq_e4, Bool.not_true, Bool.not_false, jq_0, jq_1, jq_2, jq_3, jq_4, jq_5, jq_6, jq_8, jq_12, jq_16, jq_20, jq_21, jq_24, jq_30, jq_32, jq_60, jq_84, jq_1000, jq_2436, jq_20001, P'.1.2.2.2.1, c1]
theorem jr_all (w : jb_wf N) (hp2 : 2 ≤ jb_p N) (ht : jb_t N = false) : jr_c (jr_g N) (jb_n N) (jb_n N) (jb_p N - 1) 0 = jr_tm N (2 ^ jb_p N - 1) := by
  have full : ∀ x, x < jb_p N → (2 ^ jb_p N - 1).testBit x = true := fun x hx => by
    rw [Nat.testBit_two_pow_sub_one]
    simp [hx]
  have low : ∀ x, (2 ^ jb_p N - 1).testBit x = true → x < jb_p N := fun x hx => by
    rw [Nat.testBit_two_pow_sub_one] at hx
    simpa using hx
  have iS : ∀ r, r < jb_n N → jr_iS N (fun x => (2 ^ jb_p N - 1).testBit x) r = true := fun r hr => by
    have := w.2.2 r hr
    show ((2 ^ jb_p N - 1).testBit (jb_f N r) && (2 ^ jb_p N - 1).testBit (jb_s N r)) = true
    rw [full _ this.1, full _ this.2.1]
    rfl
  rw [jr_c_W _ _ _ _ 0 0 (by omega)]
  unfold jr_tm jr_tw
  rw [jr_W_set (U := fun r => decide (0 ≤ r)) (V := jr_iS N (fun x => (2 ^ jb_p N - 1).testBit x)) _ (fun r hr => by rw [iS r hr]; simp)]
  refine jr_W_congr _ (fun E _ => ?_)
  rw [Nat.zero_or]
  have k : jr_k N (fun r => E.testBit r) (jr_iS N (fun x => (2 ^ jb_p N - 1).testBit x)) = jn_ct (fun r => E.testBit r) (jb_n N) := jn_ct_congr _ (fun r hr => by
    rw [iS r hr, Bool.and_true])
  have sz : jn_ct (fun x => (2 ^ jb_p N - 1).testBit x) (jb_p N) = jb_p N := jn_ct_full _ full
  have jj : (∀ x, x < jb_p N → jb_rc N 0 E 0 x) ↔ jr_J N (fun x => (2 ^ jb_p N - 1).testBit x) (fun r => E.testBit r) := by
    constructor
    · intro g x y hx hy C cx ck
      have cl : ∀ D : Nat → Prop, (∀ r, r < jb_n N → E.testBit r = true → (D (jb_f N r) ↔ D (jb_s N r))) → jb_cl N 0 E D := fun D hD r hr he _ _ => ⟨(hD r hr he).1, fun _ => (hD r hr he).2⟩
      have ck' : ∀ r, r < jb_n N → E.testBit r = true → (C (jb_f N r) ↔ C (jb_s N r)) := fun r hr he => ck r hr he (full _ (w.2.2 r hr).1) (full _ (w.2.2 r hr).2.1)
      have c0 : C 0 := by
        apply Classical.byContradiction
        intro n0
        exact g x (low x hx) (fun z => ¬ C z) n0 (cl _ (fun r hr he => not_congr (ck' r hr he))) cx
      exact g y (low y hy) C c0 (cl _ ck')
    · intro j x hx C c0 cl
      exact j 0 x (full 0 (by omega)) (full x hx) C c0 (fun r hr he _ _ => by
        have := cl r hr he (Nat.zero_testBit _) (Nat.zero_testBit _)
        exact ⟨this.1, this.2 ht⟩)
  have e1 : jr_g N E = jr_i (jr_J N (fun x => (2 ^ jb_p N - 1).testBit x) (fun r => E.testBit r)) := jr_i_congr jj
  unfold jr_T
  rw [jr_i_and, k, sz, e1]
  by_cases c : jn_ct (fun r => E.testBit r) (jb_n N) = jb_p N - 1
  · rw [if_pos c, jr_i_t (show jn_ct (fun r => E.testBit r) (jb_n N) + 1 = jb_p N by omega), Nat.one_mul]
  · rw [if_neg c, jr_i_f (show ¬ jn_ct (fun r => E.testBit r) (jb_n N) + 1 = jb_p N by omega), Nat.zero_mul]
theorem dm_162 {h : jx_H} (w : jb_wf N) (m : jb_M h N) (hp2 : 2 ≤ jb_p N) : ∃ h', (∀ c, c ≠ 50 → h'.1 c = h.1 c) ∧ DM (d + 5) 162 [vr 30 0, vi (nI (jb_p N - 1))] h = some ([vl (lN (jr_c (jr_g N) (jb_n N) (jb_n N) (jb_p N - 1) 0))], h') := by
  have m1 : jb_M (jx_sI h 50 0 0 (nI 0)) N := jr_M50 m (fun c hc => jx_sk hc)
  obtain ⟨h', a1, a2, a3⟩ := jr_go (d := d) w (l := jb_p N - 1) (by omega) (jb_p N - 1) (jb_n N) 0 0 0 0 _ (by omega) (by omega) (by decide) m1 jx_ss
  refine ⟨h', fun c hc => by rw [a1 c hc, jx_sk hc], ?_⟩
  have z : (0 : Int64) + lN (jr_c (jr_g N) (jb_n N) (jb_n N) (jb_p N - 1) 0) = lN (jr_c (jr_g N) (jb_n N) (jb_n N) (jb_p N - 1) 0) := Int64.zero_add _
  rw [z] at a3
  rw [d162, e162_0, jx_ifp (show jx_in (0 : Int32) 12 from by decide)]
  refine Eq.trans a3 ?_
  rw [e162_53, jx_ifp (show nI 0 + (-1) < 0 from by decide), e162_19, jx_ifp (show nI 0 + (-1) < 0 from by decide)]
end
