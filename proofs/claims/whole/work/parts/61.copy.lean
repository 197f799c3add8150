/-! ===== layer 2: copy, lay ===== -/
def jb_hr (z : Nat) (f n : Int32) : Bool := !decide (f < 0) && (!decide (n < 0) && (decide (n ≤ nI z) && decide (f ≤ nI z - n)))
theorem jb_hr_t {z : Nat} (hz : z ≤ 24) {f n : Int32} (h : jb_hr z f n = true) : ∃ i k : Nat, f = nI i ∧ n = nI k ∧ i + k ≤ z := by
  unfold jb_hr at h
  simp only [Bool.and_eq_true, Bool.not_eq_true', decide_eq_false_iff_not, decide_eq_true_eq] at h
  obtain ⟨h1, h2, h3, h4⟩ := h
  obtain ⟨i, hi, rfl⟩ := nI_of h1
  obtain ⟨k, hk, rfl⟩ := nI_of h2
  have k1 := (nI_leI hk (by omega)).1 h3
  rw [pk_sub k1] at h4
  have k2 := (nI_leI hi (by omega)).1 h4
  exact ⟨i, k, rfl, rfl, by omega⟩
section
variable {d : Nat} {hx hm : jx_H}
theorem dm_hasRow {h : jx_H} {s z : Nat} (e : h.1 11 s 1 = nI z) (f n : Int32) : DM (d + 1) 33 [vr 11 s, vi f, vi n] h = some ([vi (jn_b (jb_hr z f n))], h) := by
  rw [d33, e33_0, e]
  unfold jb_hr
  by_cases c1 : f < 0
  · rw [jx_ifp c1, decide_eq_true c1]
    simp (disch := omega) only [jx_bI_s, jx_bL_s, jx_bV_s, eq_self, true_or, or_true, jx_if_t, jx_if_f, jq_b0, jq_b1, jq_bb, jq_b01, jx_if_in, jx_if_lt, jx_if_nlt, jx_if_le, jx_if_nle, jq_eqp, jq_eqn, nI_clamp, nI_add, pk_sub, pk_mul, jn_and, jn_or, jn_xor, jq_andn, jq_shl1, jq_bit, jq_mn, jq_mx, cond_true, cond_false, jq_jt, jq_jf, jq_e1, jq_e2, jq_e3, jq_e4, Bool.not_true, Bool.not_false, jq_0, jq_1, jq_2, jq_3, jq_4, jq_5, jq_6, jq_8, jq_12, jq_16, jq_20, jq_21, jq_24, jq_30, jq_32, jq_60, jq_84, jq_1000, jq_2436, jq_20001, e33_30, e33_31, Bool.false_and]
  rw [jx_ifn c1]
  by_cases c2 : n < 0
  · rw [jx_ifp c2, decide_eq_true c2]
    simp (disch := omega) only [jx_bI_s, jx_bL_s, jx_bV_s, eq_self, true_or, or_true, jx_if_t, jx_if_f, jq_b0, jq_b1, jq_bb, jq_b01, jx_if_in, jx_if_lt, jx_if_nlt, jx_if_le, jx_if_nle, jq_eqp, jq_eqn, nI_clamp, nI_add, pk_sub, pk_mul, jn_and, jn_or, jn_xor, jq_andn, jq_shl1, jq_bit, jq_mn, jq_mx, cond_true, cond_false, jq_jt, jq_jf, jq_e1, jq_e2, jq_e3, jq_e4, Bool.not_true, Bool.not_false, jq_0, jq_1, jq_2, jq_3, jq_4, jq_5, jq_6, jq_8, jq_12, jq_16, jq_20, jq_21, jq_24, jq_30, jq_32, jq_60, jq_84, jq_1000, jq_2436, jq_20001, e33_30, e33_31, Bool.false_and, Bool.and_false]
  rw [jx_ifn c2]
  by_cases c3 : n ≤ nI z
  · rw [jx_ifp c3]
    by_cases c4 : f ≤ nI z - n
    · rw [jx_ifp c4, decide_eq_false c1, decide_eq_false c2, decide_eq_true c3, decide_eq_true c4]
      simp (disch := omega) only [jx_bI_s, jx_bL_s, jx_bV_s, eq_self, true_or, or_true, jx_if_t, jx_if_f, jq_b0, jq_b1, jq_bb, jq_b01, jx_if_in, jx_if_lt, jx_if_nlt, jx_if_le, jx_if_nle, jq_eqp, jq_eqn, nI_clamp, nI_add, pk_sub, pk_mul, jn_and, jn_or, jn_xor, jq_andn, jq_shl1, jq_bit, jq_mn, jq_mx, cond_true, cond_false, jq_jt, jq_jf, jq_e1, jq_e2, jq_e3, jq_e4, Bool.not_true, Bool.not_false, jq_0, jq_1, jq_2, jq_3, jq_4, jq_5, jq_6, jq_8, jq_12, jq_16, jq_20, jq_21, jq_24, jq_30, jq_32, jq_60, jq_84, jq_1000, jq_2436, jq_20001, e33_31]
      rfl
    · rw [jx_ifn c4, decide_eq_false c1, decide_eq_false c2, decide_eq_true c3, decide_eq_false c4]
      simp (disch := omega) only [jx_bI_s, jx_bL_s, jx_bV_s, eq_self, true_or, or_true, jx_if_t, jx_if_f, jq_b0, jq_b1, jq_bb, jq_b01, jx_if_in, jx_if_lt, jx_if_nlt, jx_if_le, jx_if_nle, jq_eqp, jq_eqn, nI_clamp, nI_add, pk_sub, pk_mul, jn_and, jn_or, jn_xor, jq_andn, jq_shl1, jq_bit, jq_mn, jq_mx, cond_true, cond_false, jq_jt, jq_jf, jq_e1, jq_e2, jq_e3, jq_e4, Bool.not_true, Bool.not_false, jq_0, jq_1, jq_2, jq_3, jq_4, jq_5, jq_6, jq_8, jq_12, jq_16, jq_20, jq_21, jq_24, jq_30, jq_32, jq_60, jq_84, jq_1000, jq_2436, jq_20001, e33_30, e33_31]
      rfl
  · rw [jx_ifn c3, decide_eq_false c1, decide_eq_false c2, decide_eq_false c3]
    simp (disch := omega) only [jx_bI_s, jx_bL_s, jx_bV_s, eq_self, true_or, or_true, jx_if_t, jx_if_f, jq_b0, jq_b1, jq_bb, jq_b01, jx_if_in, jx_if_lt, jx_if_nlt, jx_if_le, jx_if_nle, jq_eqp, jq_eqn, nI_clamp, nI_add, pk_sub, pk_mul, jn_and, jn_or, jn_xor, jq_andn, jq_shl1, jq_bit, jq_mn, jq_mx, cond_true, cond_false, jq_jt, jq_jf, jq_e1, jq_e2, jq_e3, jq_e4, Bool.not_true, Bool.not_false, jq_0, jq_1, jq_2, jq_3, jq_4, jq_5, jq_6, jq_8, jq_12, jq_16, jq_20, jq_21, jq_24, jq_30, jq_32, jq_60, jq_84, jq_1000, jq_2436, jq_20001, e33_30, e33_31]
    rfl
theorem dm_hasPart {h : jx_H} {s z : Nat} (hs : s < 4) (e : h.1 42 0 s = nI z) (f n : Int32) : DM (d + 1) 131 [vr 30 0, vi (nI s), vi f, vi n] h = some ([vi (jn_b (jb_hr z f n))], h) := by
  rw [d131, e131_0, nI_clamp (by omega), e, jx_if_in hs (by decide), jx_if_in hs (by decide)]
  unfold jb_hr
  by_cases c1 : f < 0
  · rw [jx_ifp c1, decide_eq_true c1]
    simp (disch := omega) only [jx_bI_s, jx_bL_s, jx_bV_s, eq_self, true_or, or_true, jx_if_t, jx_if_f, jq_b0, jq_b1, jq_bb, jq_b01, jx_if_in, jx_if_lt, jx_if_nlt, jx_if_le, jx_if_nle, jq_eqp, jq_eqn, nI_clamp, nI_add, pk_sub, pk_mul, jn_and, jn_or, jn_xor, jq_andn, jq_shl1, jq_bit, jq_mn, jq_mx, cond_true, cond_false, jq_jt, jq_jf, jq_e1, jq_e2, jq_e3, jq_e4, Bool.not_true, Bool.not_false, jq_0, jq_1, jq_2, jq_3, jq_4, jq_5, jq_6, jq_8, jq_12, jq_16, jq_20, jq_21, jq_24, jq_30, jq_32, jq_60, jq_84, jq_1000, jq_2436, jq_20001, e131_34, e131_35, Bool.false_and]
  rw [jx_ifn c1]
  by_cases c2 : n < 0
  · rw [jx_ifp c2, decide_eq_true c2]
    simp (disch := omega) only [jx_bI_s, jx_bL_s, jx_bV_s, eq_self, true_or, or_true, jx_if_t, jx_if_f, jq_b0, jq_b1, jq_bb, jq_b01, jx_if_in, jx_if_lt, jx_if_nlt, jx_if_le, jx_if_nle, jq_eqp, jq_eqn, nI_clamp, nI_add, pk_sub, pk_mul, jn_and, jn_or, jn_xor, jq_andn, jq_shl1, jq_bit, jq_mn, jq_mx, cond_true, cond_false, jq_jt, jq_jf, jq_e1, jq_e2, jq_e3, jq_e4, Bool.not_true, Bool.not_false, jq_0, jq_1, jq_2, jq_3, jq_4, jq_5, jq_6, jq_8, jq_12, jq_16, jq_20, jq_21, jq_24, jq_30, jq_32, jq_60, jq_84, jq_1000, jq_2436, jq_20001, e131_34, e131_35, Bool.false_and, Bool.and_false]
  rw [jx_ifn c2]
  by_cases c3 : n ≤ nI z
  · rw [jx_ifp c3]
    by_cases c4 : f ≤ nI z - n
    · rw [jx_ifp c4, decide_eq_false c1, decide_eq_false c2, decide_eq_true c3, decide_eq_true c4]
      simp (disch := omega) only [jx_bI_s, jx_bL_s, jx_bV_s, eq_self, true_or, or_true, jx_if_t, jx_if_f, jq_b0, jq_b1, jq_bb, jq_b01, jx_if_in, jx_if_lt, jx_if_nlt, jx_if_le, jx_if_nle, jq_eqp, jq_eqn, nI_clamp, nI_add, pk_sub, pk_mul, jn_and, jn_or, jn_xor, jq_andn, jq_shl1, jq_bit, jq_mn, jq_mx, cond_true, cond_false, jq_jt, jq_jf, jq_e1, jq_e2, jq_e3, jq_e4, Bool.not_true, Bool.not_false, jq_0, jq_1, jq_2, jq_3, jq_4, jq_5, jq_6, jq_8, jq_12, jq_16, jq_20, jq_21, jq_24, jq_30, jq_32, jq_60, jq_84, jq_1000, jq_2436, jq_20001, e131_35]
      rfl
    · rw [jx_ifn c4, decide_eq_false c1, decide_eq_false c2, decide_eq_true c3, decide_eq_false c4]
      simp (disch := omega) only [jx_bI_s, jx_bL_s, jx_bV_s, eq_self, true_or, or_true, jx_if_t, jx_if_f, jq_b0, jq_b1, jq_bb, jq_b01, jx_if_in, jx_if_lt, jx_if_nlt, jx_if_le, jx_if_nle, jq_eqp, jq_eqn, nI_clamp, nI_add, pk_sub, pk_mul, jn_and, jn_or, jn_xor, jq_andn, jq_shl1, jq_bit, jq_mn, jq_mx, cond_true, cond_false, jq_jt, jq_jf, jq_e1, jq_e2, jq_e3, jq_e4, Bool.not_true, Bool.not_false, jq_0, jq_1, jq_2, jq_3, jq_4, jq_5, jq_6, jq_8, jq_12, jq_16, jq_20, jq_21, jq_24, jq_30, jq_32, jq_60, jq_84, jq_1000, jq_2436, jq_20001, e131_34, e131_35]
      rfl
  · rw [jx_ifn c3, decide_eq_false c1, decide_eq_false c2, decide_eq_false c3]
    simp (disch := omega) only [jx_bI_s, jx_bL_s, jx_bV_s, eq_self, true_or, or_true, jx_if_t, jx_if_f, jq_b0, jq_b1, jq_bb, jq_b01, jx_if_in, jx_if_lt, jx_if_nlt, jx_if_le, jx_if_nle, jq_eqp, jq_eqn, nI_clamp, nI_add, pk_sub, pk_mul, jn_and, jn_or, jn_xor, jq_andn, jq_shl1, jq_bit, jq_mn, jq_mx, cond_true, cond_false, jq_jt, jq_jf, jq_e1, jq_e2, jq_e3, jq_e4, Bool.not_true, Bool.not_false, jq_0, jq_1, jq_2, jq_3, jq_4, jq_5, jq_6, jq_8, jq_12, jq_16, jq_20, jq_21, jq_24, jq_30, jq_32, jq_60, jq_84, jq_1000, jq_2436, jq_20001, e131_34, e131_35]
    rfl
theorem dm_carry {h0 : jx_H} {s f t u n : Nat} (hs : s < 4) (hf : f + n ≤ 24) : ∀ (k i : Nat) (h : jx_H), i + k = n → (∀ c, c ≠ 47 → h.1 c = h0.1 c) → (∀ q, q < i → h.1 47 0 q = h0.1 43 0 (24 * s + f + q)) → ∃ h', F130_99 (DM d) (nI s) (nI f) (nI t) (nI u) (nI n) (nI i) h = F130_136 (DM d) (nI t) (nI u) (nI n) (nI 0) h' ∧ (∀ c, c ≠ 47 → h'.1 c = h0.1 c) ∧ ∀ q, q < n → h'.1 47 0 q = h0.1 43 0 (24 * s + f + q) := by
  intro k
  induction k with
  | zero =>
    intro i h hi g g2
    refine ⟨h, ?_, g, fun q hq => g2 q (by omega)⟩
    rw [e130_99]
    simp (disch := omega) only [jx_bI_s, jx_bL_s, jx_bV_s, eq_self, true_or, or_true, jx_if_t, jx_if_f, jq_b0, jq_b1, jq_bb, jq_b01, jx_if_in, jx_if_lt, jx_if_nlt, jx_if_le, jx_if_nle, jq_eqp, jq_eqn, nI_clamp, nI_add, pk_sub, pk_mul, jn_and, jn_or, jn_xor, jq_andn, jq_shl1, jq_bit, jq_mn, jq_mx, cond_true, cond_false, jq_jt, jq_jf, jq_e1, jq_e2, jq_e3, jq_e4, Bool.not_true, Bool.not_false, jq_0, jq_1, jq_2, jq_3, jq_4, jq_5, jq_6, jq_8, jq_12, jq_16, jq_20, jq_21, jq_24, jq_30, jq_32, jq_60, jq_84, jq_1000, jq_2436, jq_20001]
  | succ k ih =>
    intro i h hi g g2
    obtain ⟨h', a1, a2, a3⟩ := ih (i + 1) (jx_sI h 47 0 i (h.1 43 0 (24 * s + f + i))) (by omega) (fun c hc => by rw [jx_sk hc]; exact g c hc) (fun q hq => by
      rw [jx_sv]
      by_cases e : q = i
      · rw [if_pos e, e, g 43 (by decide)]
      · rw [if_neg e]; exact g2 q (by omega))
    refine ⟨h', ?_, a2, a3⟩
    rw [e130_99]
    simp (disch := omega) only [jx_bI_s, jx_bL_s, jx_bV_s, eq_self, true_or, or_true, jx_if_t, jx_if_f, jq_b0, jq_b1, jq_bb, jq_b01, jx_if_in, jx_if_lt, jx_if_nlt, jx_if_le, jx_if_nle, jq_eqp, jq_eqn, nI_clamp, nI_add, pk_sub, pk_mul, jn_and, jn_or, jn_xor, jq_andn, jq_shl1, jq_bit, jq_mn, jq_mx, cond_true, cond_false, jq_jt, jq_jf, jq_e1, jq_e2, jq_e3, jq_e4, Bool.not_true, Bool.not_false, jq_0, jq_1, jq_2, jq_3, jq_4, jq_5, jq_6, jq_8, jq_12, jq_16, jq_20, jq_21, jq_24, jq_30, jq_32, jq_60, jq_84, jq_1000, jq_2436, jq_20001]
    exact a1
theorem dm_carry2 {h0 : jx_H} {t u n : Nat} (ht : t < 4) (hu : u + n ≤ 24) : ∀ (k i : Nat) (h : jx_H), i + k = n → (∀ c, c ≠ 43 → h.1 c = h0.1 c) → (∀ q, h.1 43 0 q = if 24 * t + u ≤ q ∧ q < 24 * t + u + i then h0.1 47 0 (q - (24 * t + u)) else h0.1 43 0 q) → ∃ h', F130_136 (DM d) (nI t) (nI u) (nI n) (nI i) h = some ([vi (nI n)], h') ∧ (∀ c, c ≠ 43 → h'.1 c = h0.1 c) ∧ ∀ q, h'.1 43 0 q = if 24 * t + u ≤ q ∧ q < 24 * t + u + n then h0.1 47 0 (q - (24 * t + u)) else h0.1 43 0 q := by
  intro k
  induction k with
  | zero =>
    intro i h hi g g2
    have e : i = n := by omega
    subst e
    refine ⟨h, ?_, g, g2⟩
    rw [e130_136]
    simp (disch := omega) only [jx_bI_s, jx_bL_s, jx_bV_s, eq_self, true_or, or_true, jx_if_t, jx_if_f, jq_b0, jq_b1, jq_bb, jq_b01, jx_if_in, jx_if_lt, jx_if_nlt, jx_if_le, jx_if_nle, jq_eqp, jq_eqn, nI_clamp, nI_add, pk_sub, pk_mul, jn_and, jn_or, jn_xor, jq_andn, jq_shl1, jq_bit, jq_mn, jq_mx, cond_true, cond_false, jq_jt, jq_jf, jq_e1, jq_e2, jq_e3, jq_e4, Bool.not_true, Bool.not_false, jq_0, jq_1, jq_2, jq_3, jq_4, jq_5, jq_6, jq_8, jq_12, jq_16, jq_20, jq_21, jq_24, jq_30, jq_32, jq_60, jq_84, jq_1000, jq_2436, jq_20001]
  | succ k ih =>
    intro i h hi g g2
    obtain ⟨h', a1, a2, a3⟩ := ih (i + 1) (jx_sI h 43 0 (24 * t + u + i) (h.1 47 0 i)) (by omega) (fun c hc => by rw [jx_sk hc]; exact g c hc) (fun q => by
      rw [jx_sv, g2 q, g 47 (by decide)]
      by_cases e : q = 24 * t + u + i
      · rw [if_pos e, if_pos (by omega), e]
        exact congrArg (h0.1 47 0) (by omega)
      · rw [if_neg e]
        by_cases c : 24 * t + u ≤ q ∧ q < 24 * t + u + i
        · rw [if_pos c, if_pos (by omega)]
        · rw [if_neg c, if_neg (by omega)])
    refine ⟨h', ?_, a2, a3⟩
    rw [e130_136]
    simp (disch := omega) only [jx_bI_s, jx_bL_s, jx_bV_s, eq_self, true_or, or_true, jx_if_t, jx_if_f, jq_b0, jq_b1, jq_bb, jq_b01, jx_if_in, jx_if_lt, jx_if_nlt, jx_if_le, jx_if_nle, jq_eqp, jq_eqn, nI_clamp, nI_add, pk_sub, pk_mul, jn_and, jn_or, jn_xor, jq_andn, jq_shl1, jq_bit, jq_mn, jq_mx, cond_true, cond_false, jq_jt, jq_jf, jq_e1, jq_e2, jq_e3, jq_e4, Bool.not_true, Bool.not_false, jq_0, jq_1, jq_2, jq_3, jq_4, jq_5, jq_6, jq_8, jq_12, jq_16, jq_20, jq_21, jq_24, jq_30, jq_32, jq_60, jq_84, jq_1000, jq_2436, jq_20001]
    exact a1
theorem jt_10 (I : jb_Inv hx hm) (a f b u n : Int32) : jl_g d 32 130 [vi a, vi f, vi b, vi u, vi n] hx hm := by
  cases ha : jb_ip 4 a
  · refine ⟨-1, _, _, ?_, ?_, I.fd⟩
    · rw [d32, e32_0]
      simp (disch := omega) only [jx_bI_s, jx_bL_s, jx_bV_s, eq_self, true_or, or_true, jx_if_t, jx_if_f, jq_b0, jq_b1, jq_bb, jq_b01, jx_if_in, jx_if_lt, jx_if_nlt, jx_if_le, jx_if_nle, jq_eqp, jq_eqn, nI_clamp, nI_add, pk_sub, pk_mul, jn_and, jn_or, jn_xor, jq_andn, jq_shl1, jq_bit, jq_mn, jq_mx, cond_true, cond_false, jq_jt, jq_jf, jq_e1, jq_e2, jq_e3, jq_e4, Bool.not_true, Bool.not_false, jq_0, jq_1, jq_2, jq_3, jq_4, jq_5, jq_6, jq_8, jq_12, jq_16, jq_20, jq_21, jq_24, jq_30, jq_32, jq_60, jq_84, jq_1000, jq_2436, jq_20001, dm_noSheet a, ha, e32_14, dm_fx]
    · rw [d130, e130_0]
      simp (disch := omega) only [jx_bI_s, jx_bL_s, jx_bV_s, eq_self, true_or, or_true, jx_if_t, jx_if_f, jq_b0, jq_b1, jq_bb, jq_b01, jx_if_in, jx_if_lt, jx_if_nlt, jx_if_le, jx_if_nle, jq_eqp, jq_eqn, nI_clamp, nI_add, pk_sub, pk_mul, jn_and, jn_or, jn_xor, jq_andn, jq_shl1, jq_bit, jq_mn, jq_mx, cond_true, cond_false, jq_jt, jq_jf, jq_e1, jq_e2, jq_e3, jq_e4, Bool.not_true, Bool.not_false, jq_0, jq_1, jq_2, jq_3, jq_4, jq_5, jq_6, jq_8, jq_12, jq_16, jq_20, jq_21, jq_24, jq_30, jq_32, jq_60, jq_84, jq_1000, jq_2436, jq_20001, dm_isSheet a, ha, e130_14, dm_fm]
  cases hb : jb_ip 4 b
  · refine ⟨-1, _, _, ?_, ?_, I.fd⟩
    · rw [d32, e32_0]
      simp (disch := omega) only [jx_bI_s, jx_bL_s, jx_bV_s, eq_self, true_or, or_true, jx_if_t, jx_if_f, jq_b0, jq_b1, jq_bb, jq_b01, jx_if_in, jx_if_lt, jx_if_nlt, jx_if_le, jx_if_nle, jq_eqp, jq_eqn, nI_clamp, nI_add, pk_sub, pk_mul, jn_and, jn_or, jn_xor, jq_andn, jq_shl1, jq_bit, jq_mn, jq_mx, cond_true, cond_false, jq_jt, jq_jf, jq_e1, jq_e2, jq_e3, jq_e4, Bool.not_true, Bool.not_false, jq_0, jq_1, jq_2, jq_3, jq_4, jq_5, jq_6, jq_8, jq_12, jq_16, jq_20, jq_21, jq_24, jq_30, jq_32, jq_60, jq_84, jq_1000, jq_2436, jq_20001, dm_noSheet a, dm_noSheet b, ha, hb, e32_14, dm_fx]
    · rw [d130, e130_0]
      simp (disch := omega) only [jx_bI_s, jx_bL_s, jx_bV_s, eq_self, true_or, or_true, jx_if_t, jx_if_f, jq_b0, jq_b1, jq_bb, jq_b01, jx_if_in, jx_if_lt, jx_if_nlt, jx_if_le, jx_if_nle, jq_eqp, jq_eqn, nI_clamp, nI_add, pk_sub, pk_mul, jn_and, jn_or, jn_xor, jq_andn, jq_shl1, jq_bit, jq_mn, jq_mx, cond_true, cond_false, jq_jt, jq_jf, jq_e1, jq_e2, jq_e3, jq_e4, Bool.not_true, Bool.not_false, jq_0, jq_1, jq_2, jq_3, jq_4, jq_5, jq_6, jq_8, jq_12, jq_16, jq_20, jq_21, jq_24, jq_30, jq_32, jq_60, jq_84, jq_1000, jq_2436, jq_20001, dm_isSheet a, dm_isSheet b, ha, hb, e130_14, dm_fm]
  obtain ⟨s, hs, rfl⟩ := jb_ip_t (by omega) ha
  obtain ⟨t, ht, rfl⟩ := jb_ip_t (by omega) hb
  obtain ⟨z, hz, hbs, s3, s4, s5, s6⟩ := I.2.2.2.1 s hs
  obtain ⟨y, hy, hbt, t3, t4, t5, t6⟩ := I.2.2.2.1 t ht
  have m1 := dm_miss (d := d + 38) s hx rfl hbs
  have m2 := dm_miss (d := d + 38) t hx rfl hbt
  by_cases c1 : hx.1 11 s 0 = 0
  · rw [decide_eq_true c1] at m1
    rw [c1] at s3
    refine ⟨-2, _, _, ?_, ?_, I.fd⟩
    · rw [d32, e32_0]
      simp (disch := omega) only [jx_bI_s, jx_bL_s, jx_bV_s, eq_self, true_or, or_true, jx_if_t, jx_if_f, jq_b0, jq_b1, jq_bb, jq_b01, jx_if_in, jx_if_lt, jx_if_nlt, jx_if_le, jx_if_nle, jq_eqp, jq_eqn, nI_clamp, nI_add, pk_sub, pk_mul, jn_and, jn_or, jn_xor, jq_andn, jq_shl1, jq_bit, jq_mn, jq_mx, cond_true, cond_false, jq_jt, jq_jf, jq_e1, jq_e2, jq_e3, jq_e4, Bool.not_true, Bool.not_false, jq_0, jq_1, jq_2, jq_3, jq_4, jq_5, jq_6, jq_8, jq_12, jq_16, jq_20, jq_21, jq_24, jq_30, jq_32, jq_60, jq_84, jq_1000, jq_2436, jq_20001, dm_noSheet _, ha, hb, Nat.zero_add, m1, e32_52, dm_fx]
    · rw [d130, e130_0]
      simp (disch := omega) only [jx_bI_s, jx_bL_s, jx_bV_s, eq_self, true_or, or_true, jx_if_t, jx_if_f, jq_b0, jq_b1, jq_bb, jq_b01, jx_if_in, jx_if_lt, jx_if_nlt, jx_if_le, jx_if_nle, jq_eqp, jq_eqn, nI_clamp, nI_add, pk_sub, pk_mul, jn_and, jn_or, jn_xor, jq_andn, jq_shl1, jq_bit, jq_mn, jq_mx, cond_true, cond_false, jq_jt, jq_jf, jq_e1, jq_e2, jq_e3, jq_e4, Bool.not_true, Bool.not_false, jq_0, jq_1, jq_2, jq_3, jq_4, jq_5, jq_6, jq_8, jq_12, jq_16, jq_20, jq_21, jq_24, jq_30, jq_32, jq_60, jq_84, jq_1000, jq_2436, jq_20001, dm_isSheet _, ha, hb, s3, e130_38, dm_fm]
  rw [decide_eq_false c1] at m1
  have n1 : ¬ hm.1 41 0 s = nI 0 := by rw [s3]; exact c1
  by_cases c2 : hx.1 11 t 0 = 0
  · rw [decide_eq_true c2] at m2
    rw [c2] at t3
    refine ⟨-2, _, _, ?_, ?_, I.fd⟩
    · rw [d32, e32_0]
      simp (disch := omega) only [jx_bI_s, jx_bL_s, jx_bV_s, eq_self, true_or, or_true, jx_if_t, jx_if_f, jq_b0, jq_b1, jq_bb, jq_b01, jx_if_in, jx_if_lt, jx_if_nlt, jx_if_le, jx_if_nle, jq_eqp, jq_eqn, nI_clamp, nI_add, pk_sub, pk_mul, jn_and, jn_or, jn_xor, jq_andn, jq_shl1, jq_bit, jq_mn, jq_mx, cond_true, cond_false, jq_jt, jq_jf, jq_e1, jq_e2, jq_e3, jq_e4, Bool.not_true, Bool.not_false, jq_0, jq_1, jq_2, jq_3, jq_4, jq_5, jq_6, jq_8, jq_12, jq_16, jq_20, jq_21, jq_24, jq_30, jq_32, jq_60, jq_84, jq_1000, jq_2436, jq_20001, dm_noSheet _, ha, hb, Nat.zero_add, m1, m2, e32_52, dm_fx]
    · rw [d130, e130_0]
      simp (disch := omega) only [jx_bI_s, jx_bL_s, jx_bV_s, eq_self, true_or, or_true, jx_if_t, jx_if_f, jq_b0, jq_b1, jq_bb, jq_b01, jx_if_in, jx_if_lt, jx_if_nlt, jx_if_le, jx_if_nle, jq_eqp, jq_eqn, nI_clamp, nI_add, pk_sub, pk_mul, jn_and, jn_or, jn_xor, jq_andn, jq_shl1, jq_bit, jq_mn, jq_mx, cond_true, cond_false, jq_jt, jq_jf, jq_e1, jq_e2, jq_e3, jq_e4, Bool.not_true, Bool.not_false, jq_0, jq_1, jq_2, jq_3, jq_4, jq_5, jq_6, jq_8, jq_12, jq_16, jq_20, jq_21, jq_24, jq_30, jq_32, jq_60, jq_84, jq_1000, jq_2436, jq_20001, dm_isSheet _, ha, hb, jx_ifn n1, t3, e130_38, dm_fm]
  rw [decide_eq_false c2] at m2
  have n2 : ¬ hm.1 41 0 t = nI 0 := by rw [t3]; exact c2
  by_cases c3 : hx.1 11 s 0 = hx.1 11 t 0
  · have n3 : hm.1 41 0 s = hm.1 41 0 t := by rw [s3, t3]; exact c3
    cases r1 : jb_hr z f n
    · refine ⟨-1, _, _, ?_, ?_, I.fd⟩
      · rw [d32, e32_0]
        simp (disch := omega) only [jx_bI_s, jx_bL_s, jx_bV_s, eq_self, true_or, or_true, jx_if_t, jx_if_f, jq_b0, jq_b1, jq_bb, jq_b01, jx_if_in, jx_if_lt, jx_if_nlt, jx_if_le, jx_if_nle, jq_eqp, jq_eqn, nI_clamp, nI_add, pk_sub, pk_mul, jn_and, jn_or, jn_xor, jq_andn, jq_shl1, jq_bit, jq_mn, jq_mx, cond_true, cond_false, jq_jt, jq_jf, jq_e1, jq_e2, jq_e3, jq_e4, Bool.not_true, Bool.not_false, jq_0, jq_1, jq_2, jq_3, jq_4, jq_5, jq_6, jq_8, jq_12, jq_16, jq_20, jq_21, jq_24, jq_30, jq_32, jq_60, jq_84, jq_1000, jq_2436, jq_20001, dm_noSheet _, ha, hb, Nat.zero_add, m1, m2, jx_ifp c3, dm_hasRow s4, r1, e32_102, dm_fx]
      · rw [d130, e130_0]
        simp (disch := omega) only [jx_bI_s, jx_bL_s, jx_bV_s, eq_self, true_or, or_true, jx_if_t, jx_if_f, jq_b0, jq_b1, jq_bb, jq_b01, jx_if_in, jx_if_lt, jx_if_nlt, jx_if_le, jx_if_nle, jq_eqp, jq_eqn, nI_clamp, nI_add, pk_sub, pk_mul, jn_and, jn_or, jn_xor, jq_andn, jq_shl1, jq_bit, jq_mn, jq_mx, cond_true, cond_false, jq_jt, jq_jf, jq_e1, jq_e2, jq_e3, jq_e4, Bool.not_true, Bool.not_false, jq_0, jq_1, jq_2, jq_3, jq_4, jq_5, jq_6, jq_8, jq_12, jq_16, jq_20, jq_21, jq_24, jq_30, jq_32, jq_60, jq_84, jq_1000, jq_2436, jq_20001, dm_isSheet _, ha, hb, jx_ifn n1, jx_ifn n2, jx_ifp n3, dm_hasPart hs s5, r1, e130_90, dm_fm]
    cases r2 : jb_hr y u n
    · refine ⟨-1, _, _, ?_, ?_, I.fd⟩
      · rw [d32, e32_0]
        simp (disch := omega) only [jx_bI_s, jx_bL_s, jx_bV_s, eq_self, true_or, or_true, jx_if_t, jx_if_f, jq_b0, jq_b1, jq_bb, jq_b01, jx_if_in, jx_if_lt, jx_if_nlt, jx_if_le, jx_if_nle, jq_eqp, jq_eqn, nI_clamp, nI_add, pk_sub, pk_mul, jn_and, jn_or, jn_xor, jq_andn, jq_shl1, jq_bit, jq_mn, jq_mx, cond_true, cond_false, jq_jt, jq_jf, jq_e1, jq_e2, jq_e3, jq_e4, Bool.not_true, Bool.not_false, jq_0, jq_1, jq_2, jq_3, jq_4, jq_5, jq_6, jq_8, jq_12, jq_16, jq_20, jq_21, jq_24, jq_30, jq_32, jq_60, jq_84, jq_1000, jq_2436, jq_20001, dm_noSheet _, ha, hb, Nat.zero_add, m1, m2, jx_ifp c3, dm_hasRow s4, dm_hasRow t4, r1, r2, e32_102, dm_fx]
      · rw [d130, e130_0]
        simp (disch := omega) only [jx_bI_s, jx_bL_s, jx_bV_s, eq_self, true_or, or_true, jx_if_t, jx_if_f, jq_b0, jq_b1, jq_bb, jq_b01, jx_if_in, jx_if_lt, jx_if_nlt, jx_if_le, jx_if_nle, jq_eqp, jq_eqn, nI_clamp, nI_add, pk_sub, pk_mul, jn_and, jn_or, jn_xor, jq_andn, jq_shl1, jq_bit, jq_mn, jq_mx, cond_true, cond_false, jq_jt, jq_jf, jq_e1, jq_e2, jq_e3, jq_e4, Bool.not_true, Bool.not_false, jq_0, jq_1, jq_2, jq_3, jq_4, jq_5, jq_6, jq_8, jq_12, jq_16, jq_20, jq_21, jq_24, jq_30, jq_32, jq_60, jq_84, jq_1000, jq_2436, jq_20001, dm_isSheet _, ha, hb, jx_ifn n1, jx_ifn n2, jx_ifp n3, dm_hasPart hs s5, dm_hasPart ht t5, r1, r2, e130_90, dm_fm]
    obtain ⟨i, k, rfl, rfl, hik⟩ := jb_hr_t hz r1
    obtain ⟨j, k', rfl, ek, hjk⟩ := jb_hr_t hy r2
    have ek : k = k' := jq_inj (by
      obtain ⟨_, _, _, e2, e3⟩ := jb_hr_t hz r1
      omega) (by omega) ek
    subst ek
    obtain ⟨g1, a1, a2, a3⟩ := dm_carry (d := d + 39) (h0 := hm) (s := s) (f := i) (t := t) (u := j) (n := k) hs (by omega) k 0 hm (by omega) (fun _ _ => rfl) (fun q hq => by omega)
    obtain ⟨g2, b1, b2, b3⟩ := dm_carry2 (d := d + 39) (h0 := g1) (t := t) (u := j) (n := k) ht (by omega) k 0 g1 (by omega) (fun _ _ => rfl) (fun q => by rw [if_neg (by omega)])
    have cond : (nI 0 ≤ nI i ∧ nI 0 ≤ nI j ∧ nI 0 ≤ nI k ∧ i + k ≤ 24 ∧ j + k ≤ 24) := ⟨nI_pos' (by omega), nI_pos' (by omega), nI_pos' (by omega), by omega, by omega⟩
    refine ⟨nI k, jx_cp hx 12 s 12 t i j k, g2, ?_, ?_, ?_⟩
    · rw [d32, e32_0]
      simp (disch := omega) only [jx_bI_s, jx_bL_s, jx_bV_s, eq_self, true_or, or_true, jx_if_t, jx_if_f, jq_b0, jq_b1, jq_bb, jq_b01, jx_if_in, jx_if_lt, jx_if_nlt, jx_if_le, jx_if_nle, jq_eqp, jq_eqn, nI_clamp, nI_add, pk_sub, pk_mul, jn_and, jn_or, jn_xor, jq_andn, jq_shl1, jq_bit, jq_mn, jq_mx, cond_true, cond_false, jq_jt, jq_jf, jq_e1, jq_e2, jq_e3, jq_e4, Bool.not_true, Bool.not_false, jq_0, jq_1, jq_2, jq_3, jq_4, jq_5, jq_6, jq_8, jq_12, jq_16, jq_20, jq_21, jq_24, jq_30, jq_32, jq_60, jq_84, jq_1000, jq_2436, jq_20001, dm_noSheet _, ha, hb, Nat.zero_add, m1, m2, jx_ifp c3, dm_hasRow s4, dm_hasRow t4, r1, r2, jx_ifp cond]
    · rw [d130, e130_0]
      simp (disch := omega) only [jx_bI_s, jx_bL_s, jx_bV_s, eq_self, true_or, or_true, jx_if_t, jx_if_f, jq_b0, jq_b1, jq_bb, jq_b01, jx_if_in, jx_if_lt, jx_if_nlt, jx_if_le, jx_if_nle, jq_eqp, jq_eqn, nI_clamp, nI_add, pk_sub, pk_mul, jn_and, jn_or, jn_xor, jq_andn, jq_shl1, jq_bit, jq_mn, jq_mx, cond_true, cond_false, jq_jt, jq_jf, jq_e1, jq_e2, jq_e3, jq_e4, Bool.not_true, Bool.not_false, jq_0, jq_1, jq_2, jq_3, jq_4, jq_5, jq_6, jq_8, jq_12, jq_16, jq_20, jq_21, jq_24, jq_30, jq_32, jq_60, jq_84, jq_1000, jq_2436, jq_20001, dm_isSheet _, ha, hb, jx_ifn n1, jx_ifn n2, jx_ifp n3, dm_hasPart hs s5, dm_hasPart ht t5, r1, r2]
      exact a1.trans b1
    · have gc : ∀ c, c ≠ 43 → c ≠ 47 → g2.1 c = hm.1 c := fun c h1 h2 => by rw [b2 c h1, a2 c h2]
      refine I.shc (s := t) (fun c p hc => ?_) (fun c h1 h2 h3 h4 => gc c h3 h4) (fun q hq => ⟨by rw [gc 41 (by decide) (by decide)], by rw [gc 42 (by decide) (by decide)]⟩) (fun q hq => ?_) ⟨y, hy, ?_, ?_, ?_, ?_, fun p hp => ?_⟩
      · by_cases e : c = 12
        · rw [jx_cbk (by omega)]
        · rw [jx_ck e]
      · rw [b3 q, if_neg (by omega), a2 43 (by decide)]
      · rw [jx_ck (by decide)]; exact hbt
      · rw [jx_ck (by decide), gc 41 (by decide) (by decide)]; exact t3
      · rw [jx_ck (by decide)]; exact t4
      · rw [gc 42 (by decide) (by decide)]; exact t5
      · have e1 : (jx_cp hx 12 s 12 t i j k).1 12 t p = if j ≤ p ∧ p < j + k then hx.1 12 s (i + (p - j)) else hx.1 12 t p := by
          by_cases c : j ≤ p ∧ p < j + k
          · rw [if_pos c]
            exact if_pos ⟨rfl, rfl, c.1, c.2⟩
          · rw [if_neg c]
            exact if_neg (fun q => c ⟨q.2.2.1, q.2.2.2⟩)
        rw [e1, b3]
        by_cases c : j ≤ p ∧ p < j + k
        · rw [if_pos c, if_pos (by omega), a3 _ (by omega)]
          have := s6 (i + (p - j)) (by omega)
          rw [show 24 * s + i + (24 * t + p - (24 * t + j)) = 24 * s + (i + (p - j)) by omega]
          exact this
        · rw [if_neg c, if_neg (by omega), a2 43 (by decide)]
          exact t6 p hp
  · have n3 : ¬ hm.1 41 0 s = hm.1 41 0 t := by rw [s3, t3]; exact c3
    refine ⟨-4, _, _, ?_, ?_, I.fd⟩
    · rw [d32, e32_0]
      simp (disch := omega) only [jx_bI_s, jx_bL_s, jx_bV_s, eq_self, true_or, or_true, jx_if_t, jx_if_f, jq_b0, jq_b1, jq_bb, jq_b01, jx_if_in, jx_if_lt, jx_if_nlt, jx_if_le, jx_if_nle, jq_eqp, jq_eqn, nI_clamp, nI_add, pk_sub, pk_mul, jn_and, jn_or, jn_xor, jq_andn, jq_shl1, jq_bit, jq_mn, jq_mx, cond_true, cond_false, jq_jt, jq_jf, jq_e1, jq_e2, jq_e3, jq_e4, Bool.not_true, Bool.not_false, jq_0, jq_1, jq_2, jq_3, jq_4, jq_5, jq_6, jq_8, jq_12, jq_16, jq_20, jq_21, jq_24, jq_30, jq_32, jq_60, jq_84, jq_1000, jq_2436, jq_20001, dm_noSheet _, ha, hb, Nat.zero_add, m1, m2, jx_ifn c3, dm_fx]
    · rw [d130, e130_0]
      simp (disch := omega) only [jx_bI_s, jx_bL_s, jx_bV_s, eq_self, true_or, or_true, jx_if_t, jx_if_f, jq_b0, jq_b1, jq_bb, jq_b01, jx_if_in, jx_if_lt, jx_if_nlt, jx_if_le, jx_if_nle, jq_eqp, jq_eqn, nI_clamp, nI_add, pk_sub, pk_mul, jn_and, jn_or, jn_xor, jq_andn, jq_shl1, jq_bit, jq_mn, jq_mx, cond_true, cond_false, jq_jt, jq_jf, jq_e1, jq_e2, jq_e3, jq_e4, Bool.not_true, Bool.not_false, jq_0, jq_1, jq_2, jq_3, jq_4, jq_5, jq_6, jq_8, jq_12, jq_16, jq_20, jq_21, jq_24, jq_30, jq_32, jq_60, jq_84, jq_1000, jq_2436, jq_20001, dm_isSheet _, ha, hb, jx_ifn n1, jx_ifn n2, jx_ifn n3, dm_fm]
end
/-! pairs of posts -/
section
variable {d : Nat}
theorem dm_pairsa {h : jx_H} {p NN : Nat}  (hx0 : h.1 1 0 0 = nI p) (hN : 2 * NN ≤ 60) {V : Nat → Int32} (hV : ∀ q, q < 2 * NN → h.1 13 0 q = V q) : ((∃ q, q < 2 * NN ∧ jb_ip p (V q) = false) ∧ DM (d + 3) 36 [vr 0 0, vr 13 0, vi (nI NN)] h = some ([vi (-1)], h)) ∨ ((∀ q, q < 2 * NN → jb_ip p (V q) = true) ∧ (∃ i, i < NN ∧ V (2 * i) = V (2 * i + 1)) ∧ DM (d + 3) 36 [vr 0 0, vr 13 0, vi (nI NN)] h = some ([vi (-3)], h)) ∨ ((∀ q, q < 2 * NN → jb_ip p (V q) = true) ∧ (∀ i, i < NN → V (2 * i) ≠ V (2 * i + 1)) ∧ DM (d + 3) 36 [vr 0 0, vr 13 0, vi (nI NN)] h = some ([vi (nI 0)], h)) := by
  have n13 : ¬ (-3 : Int32) = -1 := by decide
  have n30 : ¬ (-3 : Int32) = 0 := by decide
  have n01 : ¬ nI 0 = -1 := by decide
  have loop : ∀ (k i : Nat) (x : Int32), i + k = NN → (∀ q, q < 2 * i → jb_ip p (V q) = true) → ((x = nI 0 ∧ ∀ j, j < i → V (2 * j) ≠ V (2 * j + 1)) ∨ (x = -3 ∧ ∃ j, j < i ∧ V (2 * j) = V (2 * j + 1))) → ((∃ q, q < 2 * NN ∧ jb_ip p (V q) = false) ∧ F36a_5 (DM (d + 2)) (nI NN) x (nI i) h = some ([vi (-1)], h)) ∨ ((∀ q, q < 2 * NN → jb_ip p (V q) = true) ∧ (∃ i, i < NN ∧ V (2 * i) = V (2 * i + 1)) ∧ F36a_5 (DM (d + 2)) (nI NN) x (nI i) h = some ([vi (-3)], h)) ∨ ((∀ q, q < 2 * NN → jb_ip p (V q) = true) ∧ (∀ i, i < NN → V (2 * i) ≠ V (2 * i + 1)) ∧ F36a_5 (DM (d + 2)) (nI NN) x (nI i) h = some ([vi (nI 0)], h)) := by
    intro k
    induction k with
    | zero =>
      intro i x hi h1 h2
      have e : i = NN := by omega
      subst e
      have e5 : F36a_5 (DM (d + 2)) (nI i) x (nI i) h = some ([vi x], h) := by
        rw [e36a_5, jx_if_nlt (Nat.le_refl _) (by omega)]
      rw [e5]
      rcases h2 with ⟨rfl, h2⟩ | ⟨rfl, h2⟩
      · exact Or.inr (Or.inr ⟨h1, h2, rfl⟩)
      · exact Or.inr (Or.inl ⟨h1, h2, rfl⟩)
    | succ k ih =>
      intro i x hi h1 h2
      have v1 := hV (2 * i) (by omega)
      have v2 := hV (2 * i + 1) (by omega)
      have st : F36a_5 (DM (d + 2)) (nI NN) x (nI i) h = jx_bI (DM (d + 2) 11 [vr 0 0, vi (V (2 * i)), vi (V (2 * i + 1))] h) (fun y1 h1 => (jx_if (y1 = ((-1) : Int32)) (some ([vi ((-1) : Int32)], h1)) ((jx_if (y1 = 0) (F36a_47 (DM (d + 2)) (nI NN) x (nI i) h1) (F36a_47 (DM (d + 2)) (nI NN) y1 (nI i) h1))))) := by
        rw [e36a_5]
        rw [show (2 : Int32) = nI 2 from rfl, show (1 : Int32) = nI 1 from rfl, pk_mul, nI_add, jx_if_lt (by omega) (by omega), jx_if_in (by omega) (by omega), jx_if_in (by omega) (by omega), nI_clamp (by omega), nI_clamp (by omega), v1, v2]
      rw [st]
      by_cases c1 : jb_ip p (V (2 * i)) = true
      · by_cases c2 : jb_ip p (V (2 * i + 1)) = true
        · have h1' : ∀ q, q < 2 * (i + 1) → jb_ip p (V q) = true := fun q hq => by
            by_cases e : q = 2 * i
            · rw [e]; exact c1
            · by_cases e2 : q = 2 * i + 1
              · rw [e2]; exact c2
              · exact h1 q (by omega)
          by_cases c3 : V (2 * i) = V (2 * i + 1)
          · rw [dm_two1 hx0 c1 c2 c3, jx_bI_s, jx_ifn n13, jx_ifn n30, e36a_47, nI_1]
            exact ih (i + 1) (-3) (by omega) h1' (Or.inr ⟨rfl, i, by omega, c3⟩)
          · rw [dm_two2 hx0 c1 c2 c3, jx_bI_s, jx_ifn n01, jx_ifp (show nI 0 = 0 from rfl), e36a_47, nI_1]
            refine ih (i + 1) x (by omega) h1' (h2.imp (fun h => ⟨h.1, fun j hj => ?_⟩) (fun ⟨h, j, hj, e⟩ => ⟨h, j, by omega, e⟩))
            by_cases e : j = i
            · rw [e]; exact c3
            · exact h.2 j (by omega)
        · have c2 : jb_ip p (V (2 * i + 1)) = false := by simpa using c2
          rw [dm_two0 _ hx0 (Or.inr c2), jx_bI_s, jx_ifp rfl]
          exact Or.inl ⟨⟨2 * i + 1, by omega, c2⟩, rfl⟩
      · have c1 : jb_ip p (V (2 * i)) = false := by simpa using c1
        rw [dm_two0 _ hx0 (Or.inl c1), jx_bI_s, jx_ifp rfl]
        exact Or.inl ⟨⟨2 * i, by omega, c1⟩, rfl⟩
  rw [d36a, e36a_0]
  exact loop NN 0 (nI 0) (by omega) (fun q hq => by omega) (Or.inl ⟨rfl, fun j hj => by omega⟩)
theorem dm_pairsb {h : jx_H} {p NN : Nat} {i1 : Nat} (hx0 : h.1 1 0 0 = nI p) (hN : 2 * NN ≤ 24) {V : Nat → Int32} (hV : ∀ q, q < 2 * NN → h.1 12 i1 q = V q) : ((∃ q, q < 2 * NN ∧ jb_ip p (V q) = false) ∧ DM (d + 3) 36 [vr 0 0, vr 12 i1, vi (nI NN)] h = some ([vi (-1)], h)) ∨ ((∀ q, q < 2 * NN → jb_ip p (V q) = true) ∧ (∃ i, i < NN ∧ V (2 * i) = V (2 * i + 1)) ∧ DM (d + 3) 36 [vr 0 0, vr 12 i1, vi (nI NN)] h = some ([vi (-3)], h)) ∨ ((∀ q, q < 2 * NN → jb_ip p (V q) = true) ∧ (∀ i, i < NN → V (2 * i) ≠ V (2 * i + 1)) ∧ DM (d + 3) 36 [vr 0 0, vr 12 i1, vi (nI NN)] h = some ([vi (nI 0)], h)) := by
  have n13 : ¬ (-3 : Int32) = -1 := by decide
  have n30 : ¬ (-3 : Int32) = 0 := by decide
  have n01 : ¬ nI 0 = -1 := by decide
  have loop : ∀ (k i : Nat) (x : Int32), i + k = NN → (∀ q, q < 2 * i → jb_ip p (V q) = true) → ((x = nI 0 ∧ ∀ j, j < i → V (2 * j) ≠ V (2 * j + 1)) ∨ (x = -3 ∧ ∃ j, j < i ∧ V (2 * j) = V (2 * j + 1))) → ((∃ q, q < 2 * NN ∧ jb_ip p (V q) = false) ∧ F36b_5 (DM (d + 2)) i1 (nI NN) x (nI i) h = some ([vi (-1)], h)) ∨ ((∀ q, q < 2 * NN → jb_ip p (V q) = true) ∧ (∃ i, i < NN ∧ V (2 * i) = V (2 * i + 1)) ∧ F36b_5 (DM (d + 2)) i1 (nI NN) x (nI i) h = some ([vi (-3)], h)) ∨ ((∀ q, q < 2 * NN → jb_ip p (V q) = true) ∧ (∀ i, i < NN → V (2 * i) ≠ V (2 * i + 1)) ∧ F36b_5 (DM (d + 2)) i1 (nI NN) x (nI i) h = some ([vi (nI 0)], h)) := by
    intro k
    induction k with
    | zero =>
      intro i x hi h1 h2
      have e : i = NN := by omega
      subst e
      have e5 : F36b_5 (DM (d + 2)) i1 (nI i) x (nI i) h = some ([vi x], h) := by
        rw [e36b_5, jx_if_nlt (Nat.le_refl _) (by omega)]
      rw [e5]
      rcases h2 with ⟨rfl, h2⟩ | ⟨rfl, h2⟩
      · exact Or.inr (Or.inr ⟨h1, h2, rfl⟩)
      · exact Or.inr (Or.inl ⟨h1, h2, rfl⟩)
    | succ k ih =>
      intro i x hi h1 h2
      have v1 := hV (2 * i) (by omega)
      have v2 := hV (2 * i + 1) (by omega)
      have st : F36b_5 (DM (d + 2)) i1 (nI NN) x (nI i) h = jx_bI (DM (d + 2) 11 [vr 0 0, vi (V (2 * i)), vi (V (2 * i + 1))] h) (fun y1 h1 => (jx_if (y1 = ((-1) : Int32)) (some ([vi ((-1) : Int32)], h1)) ((jx_if (y1 = 0) (F36b_47 (DM (d + 2)) i1 (nI NN) x (nI i) h1) (F36b_47 (DM (d + 2)) i1 (nI NN) y1 (nI i) h1))))) := by
        rw [e36b_5]
        rw [show (2 : Int32) = nI 2 from rfl, show (1 : Int32) = nI 1 from rfl, pk_mul, nI_add, jx_if_lt (by omega) (by omega), jx_if_in (by omega) (by omega), jx_if_in (by omega) (by omega), nI_clamp (by omega), nI_clamp (by omega), v1, v2]
      rw [st]
      by_cases c1 : jb_ip p (V (2 * i)) = true
      · by_cases c2 : jb_ip p (V (2 * i + 1)) = true
        · have h1' : ∀ q, q < 2 * (i + 1) → jb_ip p (V q) = true := fun q hq => by
            by_cases e : q = 2 * i
            · rw [e]; exact c1
            · by_cases e2 : q = 2 * i + 1
              · rw [e2]; exact c2
              · exact h1 q (by omega)
          by_cases c3 : V (2 * i) = V (2 * i + 1)
          · rw [dm_two1 hx0 c1 c2 c3, jx_bI_s, jx_ifn n13, jx_ifn n30, e36b_47, nI_1]
            exact ih (i + 1) (-3) (by omega) h1' (Or.inr ⟨rfl, i, by omega, c3⟩)
          · rw [dm_two2 hx0 c1 c2 c3, jx_bI_s, jx_ifn n01, jx_ifp (show nI 0 = 0 from rfl), e36b_47, nI_1]
            refine ih (i + 1) x (by omega) h1' (h2.imp (fun h => ⟨h.1, fun j hj => ?_⟩) (fun ⟨h, j, hj, e⟩ => ⟨h, j, by omega, e⟩))
            by_cases e : j = i
            · rw [e]; exact c3
            · exact h.2 j (by omega)
        · have c2 : jb_ip p (V (2 * i + 1)) = false := by simpa using c2
          rw [dm_two0 _ hx0 (Or.inr c2), jx_bI_s, jx_ifp rfl]
          exact Or.inl ⟨⟨2 * i + 1, by omega, c2⟩, rfl⟩
      · have c1 : jb_ip p (V (2 * i)) = false := by simpa using c1
        rw [dm_two0 _ hx0 (Or.inl c1), jx_bI_s, jx_ifp rfl]
        exact Or.inl ⟨⟨2 * i, by omega, c1⟩, rfl⟩
  rw [d36b, e36b_0]
  exact loop NN 0 (nI 0) (by omega) (fun q hq => by omega) (Or.inl ⟨rfl, fun j hj => by omega⟩)
end
