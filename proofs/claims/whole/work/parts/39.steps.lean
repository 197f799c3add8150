/-! ===== layer 2: findings, and the first questions ===== -/
def jb_ip (p : Nat) (a : Int32) : Bool := !decide (a < 0) && decide (a < nI p)
theorem jb_ip_t {p : Nat} (hp : p < 2 ^ 31) {a : Int32} (h : jb_ip p a = true) : ∃ j, j < p ∧ a = nI j := by
  unfold jb_ip at h
  simp only [Bool.and_eq_true, Bool.not_eq_true', decide_eq_false_iff_not, decide_eq_true_eq] at h
  rcases pk_ix a hp with k | k | k
  · exact absurd k h.1
  · have h1 := Int32.lt_iff_toInt_lt.1 h.2
    have h2 := Int32.le_iff_toInt_le.1 k
    omega
  · exact k
theorem jb_ip_n {p j : Nat} (hp : p < 2 ^ 31) (hj : j < p) : jb_ip p (nI j) = true := by
  unfold jb_ip
  simp only [Bool.and_eq_true, Bool.not_eq_true', decide_eq_false_iff_not, decide_eq_true_eq]
  exact ⟨nI_pos (by omega), nI_lt hj hp⟩
theorem jb_ip_c {p : Nat} {a : Int32} {X Y : Option jx_R} : jx_if (a < 0) Y (jx_if (a < nI p) X Y) = bif jb_ip p a then X else Y := by
  unfold jb_ip
  by_cases h1 : a < 0
  · rw [jx_ifp h1]
    simp [h1]
  · rw [jx_ifn h1]
    by_cases h2 : a < nI p
    · rw [jx_ifp h2]
      simp [h1, h2]
    · rw [jx_ifn h2]
      simp [h1, h2]
section
variable {d : Nat} {h : jx_H} {p : Nat}
theorem dm_noPost (a : Int32) (hp : h.1 1 0 0 = nI p) : DM (d + 1) 12 [vr 0 0, vi a] h = some ([vi (jn_b (!jb_ip p a))], h) := by
  rw [d12, e12_0, hp, jb_ip_c, e12_15, e12_20, e12_20]
  cases jb_ip p a
  · simp (disch := omega) only [jx_bI_s, jx_bL_s, jx_bV_s, eq_self, true_or, or_true, jx_if_t, jx_if_f, jq_b0, jq_b1, jq_bb, jq_b01, jx_if_in, jx_if_lt, jx_if_nlt, jx_if_le, jx_if_nle, jq_eqp, jq_eqn, nI_clamp, nI_add, pk_sub, pk_mul, jn_and, jn_or, jn_xor, jq_andn, jq_shl1, jq_bit, jq_mn, jq_mx, cond_true, cond_false, jq_jt, jq_jf, jq_e1, jq_e2, jq_e3, jq_e4, Bool.not_true, Bool.not_false, jq_0, jq_1, jq_2, jq_3, jq_4, jq_5, jq_6, jq_8, jq_12, jq_16, jq_20, jq_21, jq_24, jq_30, jq_32, jq_60, jq_84, jq_1000, jq_2436, jq_20001]
  · simp (disch := omega) only [jx_bI_s, jx_bL_s, jx_bV_s, eq_self, true_or, or_true, jx_if_t, jx_if_f, jq_b0, jq_b1, jq_bb, jq_b01, jx_if_in, jx_if_lt, jx_if_nlt, jx_if_le, jx_if_nle, jq_eqp, jq_eqn, nI_clamp, nI_add, pk_sub, pk_mul, jn_and, jn_or, jn_xor, jq_andn, jq_shl1, jq_bit, jq_mn, jq_mx, cond_true, cond_false, jq_jt, jq_jf, jq_e1, jq_e2, jq_e3, jq_e4, Bool.not_true, Bool.not_false, jq_0, jq_1, jq_2, jq_3, jq_4, jq_5, jq_6, jq_8, jq_12, jq_16, jq_20, jq_21, jq_24, jq_30, jq_32, jq_60, jq_84, jq_1000, jq_2436, jq_20001]
theorem dm_noRoad (a : Int32) (hp : h.1 1 0 1 = nI p) : DM (d + 1) 15 [vr 0 0, vi a] h = some ([vi (jn_b (!jb_ip p a))], h) := by
  rw [d15, e15_0, hp, jb_ip_c, e15_15, e15_20, e15_20]
  cases jb_ip p a
  · simp (disch := omega) only [jx_bI_s, jx_bL_s, jx_bV_s, eq_self, true_or, or_true, jx_if_t, jx_if_f, jq_b0, jq_b1, jq_bb, jq_b01, jx_if_in, jx_if_lt, jx_if_nlt, jx_if_le, jx_if_nle, jq_eqp, jq_eqn, nI_clamp, nI_add, pk_sub, pk_mul, jn_and, jn_or, jn_xor, jq_andn, jq_shl1, jq_bit, jq_mn, jq_mx, cond_true, cond_false, jq_jt, jq_jf, jq_e1, jq_e2, jq_e3, jq_e4, Bool.not_true, Bool.not_false, jq_0, jq_1, jq_2, jq_3, jq_4, jq_5, jq_6, jq_8, jq_12, jq_16, jq_20, jq_21, jq_24, jq_30, jq_32, jq_60, jq_84, jq_1000, jq_2436, jq_20001]
  · simp (disch := omega) only [jx_bI_s, jx_bL_s, jx_bV_s, eq_self, true_or, or_true, jx_if_t, jx_if_f, jq_b0, jq_b1, jq_bb, jq_b01, jx_if_in, jx_if_lt, jx_if_nlt, jx_if_le, jx_if_nle, jq_eqp, jq_eqn, nI_clamp, nI_add, pk_sub, pk_mul, jn_and, jn_or, jn_xor, jq_andn, jq_shl1, jq_bit, jq_mn, jq_mx, cond_true, cond_false, jq_jt, jq_jf, jq_e1, jq_e2, jq_e3, jq_e4, Bool.not_true, Bool.not_false, jq_0, jq_1, jq_2, jq_3, jq_4, jq_5, jq_6, jq_8, jq_12, jq_16, jq_20, jq_21, jq_24, jq_30, jq_32, jq_60, jq_84, jq_1000, jq_2436, jq_20001]
theorem dm_noSheet (a : Int32) (h : jx_H) : DM (d + 1) 27 [vi a] h = some ([vi (jn_b (!jb_ip 4 a))], h) := by
  rw [d27, e27_0, jq_4, jb_ip_c, e27_9, e27_14, e27_14]
  cases jb_ip 4 a
  · simp (disch := omega) only [jx_bI_s, jx_bL_s, jx_bV_s, eq_self, true_or, or_true, jx_if_t, jx_if_f, jq_b0, jq_b1, jq_bb, jq_b01, jx_if_in, jx_if_lt, jx_if_nlt, jx_if_le, jx_if_nle, jq_eqp, jq_eqn, nI_clamp, nI_add, pk_sub, pk_mul, jn_and, jn_or, jn_xor, jq_andn, jq_shl1, jq_bit, jq_mn, jq_mx, cond_true, cond_false, jq_jt, jq_jf, jq_e1, jq_e2, jq_e3, jq_e4, Bool.not_true, Bool.not_false, jq_0, jq_1, jq_2, jq_3, jq_4, jq_5, jq_6, jq_8, jq_12, jq_16, jq_20, jq_21, jq_24, jq_30, jq_32, jq_60, jq_84, jq_1000, jq_2436, jq_20001]
  · simp (disch := omega) only [jx_bI_s, jx_bL_s, jx_bV_s, eq_self, true_or, or_true, jx_if_t, jx_if_f, jq_b0, jq_b1, jq_bb, jq_b01, jx_if_in, jx_if_lt, jx_if_nlt, jx_if_le, jx_if_nle, jq_eqp, jq_eqn, nI_clamp, nI_add, pk_sub, pk_mul, jn_and, jn_or, jn_xor, jq_andn, jq_shl1, jq_bit, jq_mn, jq_mx, cond_true, cond_false, jq_jt, jq_jf, jq_e1, jq_e2, jq_e3, jq_e4, Bool.not_true, Bool.not_false, jq_0, jq_1, jq_2, jq_3, jq_4, jq_5, jq_6, jq_8, jq_12, jq_16, jq_20, jq_21, jq_24, jq_30, jq_32, jq_60, jq_84, jq_1000, jq_2436, jq_20001]
theorem dm_noSlot (a : Int32) (h : jx_H) : DM (d + 1) 103 [vi a] h = some ([vi (jn_b (!jb_ip 4 a))], h) := by
  rw [d103, e103_0, jq_4, jb_ip_c, e103_9, e103_14, e103_14]
  cases jb_ip 4 a
  · simp (disch := omega) only [jx_bI_s, jx_bL_s, jx_bV_s, eq_self, true_or, or_true, jx_if_t, jx_if_f, jq_b0, jq_b1, jq_bb, jq_b01, jx_if_in, jx_if_lt, jx_if_nlt, jx_if_le, jx_if_nle, jq_eqp, jq_eqn, nI_clamp, nI_add, pk_sub, pk_mul, jn_and, jn_or, jn_xor, jq_andn, jq_shl1, jq_bit, jq_mn, jq_mx, cond_true, cond_false, jq_jt, jq_jf, jq_e1, jq_e2, jq_e3, jq_e4, Bool.not_true, Bool.not_false, jq_0, jq_1, jq_2, jq_3, jq_4, jq_5, jq_6, jq_8, jq_12, jq_16, jq_20, jq_21, jq_24, jq_30, jq_32, jq_60, jq_84, jq_1000, jq_2436, jq_20001]
  · simp (disch := omega) only [jx_bI_s, jx_bL_s, jx_bV_s, eq_self, true_or, or_true, jx_if_t, jx_if_f, jq_b0, jq_b1, jq_bb, jq_b01, jx_if_in, jx_if_lt, jx_if_nlt, jx_if_le, jx_if_nle, jq_eqp, jq_eqn, nI_clamp, nI_add, pk_sub, pk_mul, jn_and, jn_or, jn_xor, jq_andn, jq_shl1, jq_bit, jq_mn, jq_mx, cond_true, cond_false, jq_jt, jq_jf, jq_e1, jq_e2, jq_e3, jq_e4, Bool.not_true, Bool.not_false, jq_0, jq_1, jq_2, jq_3, jq_4, jq_5, jq_6, jq_8, jq_12, jq_16, jq_20, jq_21, jq_24, jq_30, jq_32, jq_60, jq_84, jq_1000, jq_2436, jq_20001]
theorem dm_isPost (a : Int32) (hp : h.1 30 0 0 = nI p) : DM (d + 1) 118 [vr 30 0, vi a] h = some ([vi (jn_b (jb_ip p a))], h) := by
  rw [d118, e118_0, hp, jb_ip_c, e118_16, e118_17, e118_17]
  cases jb_ip p a
  · simp (disch := omega) only [jx_bI_s, jx_bL_s, jx_bV_s, eq_self, true_or, or_true, jx_if_t, jx_if_f, jq_b0, jq_b1, jq_bb, jq_b01, jx_if_in, jx_if_lt, jx_if_nlt, jx_if_le, jx_if_nle, jq_eqp, jq_eqn, nI_clamp, nI_add, pk_sub, pk_mul, jn_and, jn_or, jn_xor, jq_andn, jq_shl1, jq_bit, jq_mn, jq_mx, cond_true, cond_false, jq_jt, jq_jf, jq_e1, jq_e2, jq_e3, jq_e4, Bool.not_true, Bool.not_false, jq_0, jq_1, jq_2, jq_3, jq_4, jq_5, jq_6, jq_8, jq_12, jq_16, jq_20, jq_21, jq_24, jq_30, jq_32, jq_60, jq_84, jq_1000, jq_2436, jq_20001]
  · simp (disch := omega) only [jx_bI_s, jx_bL_s, jx_bV_s, eq_self, true_or, or_true, jx_if_t, jx_if_f, jq_b0, jq_b1, jq_bb, jq_b01, jx_if_in, jx_if_lt, jx_if_nlt, jx_if_le, jx_if_nle, jq_eqp, jq_eqn, nI_clamp, nI_add, pk_sub, pk_mul, jn_and, jn_or, jn_xor, jq_andn, jq_shl1, jq_bit, jq_mn, jq_mx, cond_true, cond_false, jq_jt, jq_jf, jq_e1, jq_e2, jq_e3, jq_e4, Bool.not_true, Bool.not_false, jq_0, jq_1, jq_2, jq_3, jq_4, jq_5, jq_6, jq_8, jq_12, jq_16, jq_20, jq_21, jq_24, jq_30, jq_32, jq_60, jq_84, jq_1000, jq_2436, jq_20001]
theorem dm_isRoad (a : Int32) (hp : h.1 30 0 1 = nI p) : DM (d + 1) 121 [vr 30 0, vi a] h = some ([vi (jn_b (jb_ip p a))], h) := by
  rw [d121, e121_0, hp, jb_ip_c, e121_16, e121_17, e121_17]
  cases jb_ip p a
  · simp (disch := omega) only [jx_bI_s, jx_bL_s, jx_bV_s, eq_self, true_or, or_true, jx_if_t, jx_if_f, jq_b0, jq_b1, jq_bb, jq_b01, jx_if_in, jx_if_lt, jx_if_nlt, jx_if_le, jx_if_nle, jq_eqp, jq_eqn, nI_clamp, nI_add, pk_sub, pk_mul, jn_and, jn_or, jn_xor, jq_andn, jq_shl1, jq_bit, jq_mn, jq_mx, cond_true, cond_false, jq_jt, jq_jf, jq_e1, jq_e2, jq_e3, jq_e4, Bool.not_true, Bool.not_false, jq_0, jq_1, jq_2, jq_3, jq_4, jq_5, jq_6, jq_8, jq_12, jq_16, jq_20, jq_21, jq_24, jq_30, jq_32, jq_60, jq_84, jq_1000, jq_2436, jq_20001]
  · simp (disch := omega) only [jx_bI_s, jx_bL_s, jx_bV_s, eq_self, true_or, or_true, jx_if_t, jx_if_f, jq_b0, jq_b1, jq_bb, jq_b01, jx_if_in, jx_if_lt, jx_if_nlt, jx_if_le, jx_if_nle, jq_eqp, jq_eqn, nI_clamp, nI_add, pk_sub, pk_mul, jn_and, jn_or, jn_xor, jq_andn, jq_shl1, jq_bit, jq_mn, jq_mx, cond_true, cond_false, jq_jt, jq_jf, jq_e1, jq_e2, jq_e3, jq_e4, Bool.not_true, Bool.not_false, jq_0, jq_1, jq_2, jq_3, jq_4, jq_5, jq_6, jq_8, jq_12, jq_16, jq_20, jq_21, jq_24, jq_30, jq_32, jq_60, jq_84, jq_1000, jq_2436, jq_20001]
theorem dm_isSheet (a : Int32) (h : jx_H) : DM (d + 1) 128 [vi a] h = some ([vi (jn_b (jb_ip 4 a))], h) := by
  rw [d128, e128_0, jq_4, jb_ip_c, e128_13, e128_14, e128_14]
  cases jb_ip 4 a
  · simp (disch := omega) only [jx_bI_s, jx_bL_s, jx_bV_s, eq_self, true_or, or_true, jx_if_t, jx_if_f, jq_b0, jq_b1, jq_bb, jq_b01, jx_if_in, jx_if_lt, jx_if_nlt, jx_if_le, jx_if_nle, jq_eqp, jq_eqn, nI_clamp, nI_add, pk_sub, pk_mul, jn_and, jn_or, jn_xor, jq_andn, jq_shl1, jq_bit, jq_mn, jq_mx, cond_true, cond_false, jq_jt, jq_jf, jq_e1, jq_e2, jq_e3, jq_e4, Bool.not_true, Bool.not_false, jq_0, jq_1, jq_2, jq_3, jq_4, jq_5, jq_6, jq_8, jq_12, jq_16, jq_20, jq_21, jq_24, jq_30, jq_32, jq_60, jq_84, jq_1000, jq_2436, jq_20001]
  · simp (disch := omega) only [jx_bI_s, jx_bL_s, jx_bV_s, eq_self, true_or, or_true, jx_if_t, jx_if_f, jq_b0, jq_b1, jq_bb, jq_b01, jx_if_in, jx_if_lt, jx_if_nlt, jx_if_le, jx_if_nle, jq_eqp, jq_eqn, nI_clamp, nI_add, pk_sub, pk_mul, jn_and, jn_or, jn_xor, jq_andn, jq_shl1, jq_bit, jq_mn, jq_mx, cond_true, cond_false, jq_jt, jq_jf, jq_e1, jq_e2, jq_e3, jq_e4, Bool.not_true, Bool.not_false, jq_0, jq_1, jq_2, jq_3, jq_4, jq_5, jq_6, jq_8, jq_12, jq_16, jq_20, jq_21, jq_24, jq_30, jq_32, jq_60, jq_84, jq_1000, jq_2436, jq_20001]
theorem dm_isSlot (a : Int32) (h : jx_H) : DM (d + 1) 177 [vi a] h = some ([vi (jn_b (jb_ip 4 a))], h) := by
  rw [d177, e177_0, jq_4, jb_ip_c, e177_13, e177_14, e177_14]
  cases jb_ip 4 a
  · simp (disch := omega) only [jx_bI_s, jx_bL_s, jx_bV_s, eq_self, true_or, or_true, jx_if_t, jx_if_f, jq_b0, jq_b1, jq_bb, jq_b01, jx_if_in, jx_if_lt, jx_if_nlt, jx_if_le, jx_if_nle, jq_eqp, jq_eqn, nI_clamp, nI_add, pk_sub, pk_mul, jn_and, jn_or, jn_xor, jq_andn, jq_shl1, jq_bit, jq_mn, jq_mx, cond_true, cond_false, jq_jt, jq_jf, jq_e1, jq_e2, jq_e3, jq_e4, Bool.not_true, Bool.not_false, jq_0, jq_1, jq_2, jq_3, jq_4, jq_5, jq_6, jq_8, jq_12, jq_16, jq_20, jq_21, jq_24, jq_30, jq_32, jq_60, jq_84, jq_1000, jq_2436, jq_20001]
  · simp (disch := omega) only [jx_bI_s, jx_bL_s, jx_bV_s, eq_self, true_or, or_true, jx_if_t, jx_if_f, jq_b0, jq_b1, jq_bb, jq_b01, jx_if_in, jx_if_lt, jx_if_nlt, jx_if_le, jx_if_nle, jq_eqp, jq_eqn, nI_clamp, nI_add, pk_sub, pk_mul, jn_and, jn_or, jn_xor, jq_andn, jq_shl1, jq_bit, jq_mn, jq_mx, cond_true, cond_false, jq_jt, jq_jf, jq_e1, jq_e2, jq_e3, jq_e4, Bool.not_true, Bool.not_false, jq_0, jq_1, jq_2, jq_3, jq_4, jq_5, jq_6, jq_8, jq_12, jq_16, jq_20, jq_21, jq_24, jq_30, jq_32, jq_60, jq_84, jq_1000, jq_2436, jq_20001]
theorem dm_two0 {a : Int32} (b : Int32) (hp : h.1 1 0 0 = nI p) (ha : jb_ip p a = false ∨ jb_ip p b = false) : DM (d + 2) 11 [vr 0 0, vi a, vi b] h = some ([vi (-1)], h) := by
  rw [d11, e11_0, dm_noPost a hp]
  cases ka : jb_ip p a
  · simp (disch := omega) only [jx_bI_s, jx_bL_s, jx_bV_s, eq_self, true_or, or_true, jx_if_t, jx_if_f, jq_b0, jq_b1, jq_bb, jq_b01, jx_if_in, jx_if_lt, jx_if_nlt, jx_if_le, jx_if_nle, jq_eqp, jq_eqn, nI_clamp, nI_add, pk_sub, pk_mul, jn_and, jn_or, jn_xor, jq_andn, jq_shl1, jq_bit, jq_mn, jq_mx, cond_true, cond_false, jq_jt, jq_jf, jq_e1, jq_e2, jq_e3, jq_e4, Bool.not_true, Bool.not_false, jq_0, jq_1, jq_2, jq_3, jq_4, jq_5, jq_6, jq_8, jq_12, jq_16, jq_20, jq_21, jq_24, jq_30, jq_32, jq_60, jq_84, jq_1000, jq_2436, jq_20001, e11_16]
  · rw [ka] at ha
    have kb : jb_ip p b = false := ha.resolve_left (by decide)
    simp (disch := omega) only [jx_bI_s, jx_bL_s, jx_bV_s, eq_self, true_or, or_true, jx_if_t, jx_if_f, jq_b0, jq_b1, jq_bb, jq_b01, jx_if_in, jx_if_lt, jx_if_nlt, jx_if_le, jx_if_nle, jq_eqp, jq_eqn, nI_clamp, nI_add, pk_sub, pk_mul, jn_and, jn_or, jn_xor, jq_andn, jq_shl1, jq_bit, jq_mn, jq_mx, cond_true, cond_false, jq_jt, jq_jf, jq_e1, jq_e2, jq_e3, jq_e4, Bool.not_true, Bool.not_false, jq_0, jq_1, jq_2, jq_3, jq_4, jq_5, jq_6, jq_8, jq_12, jq_16, jq_20, jq_21, jq_24, jq_30, jq_32, jq_60, jq_84, jq_1000, jq_2436, jq_20001, dm_noPost b hp, kb, e11_16]
theorem dm_two1 {a b : Int32} (hp : h.1 1 0 0 = nI p) (ha : jb_ip p a = true) (hb : jb_ip p b = true) (e : a = b) : DM (d + 2) 11 [vr 0 0, vi a, vi b] h = some ([vi (-3)], h) := by
  rw [d11, e11_0]
  simp (disch := omega) only [jx_bI_s, jx_bL_s, jx_bV_s, eq_self, true_or, or_true, jx_if_t, jx_if_f, jq_b0, jq_b1, jq_bb, jq_b01, jx_if_in, jx_if_lt, jx_if_nlt, jx_if_le, jx_if_nle, jq_eqp, jq_eqn, nI_clamp, nI_add, pk_sub, pk_mul, jn_and, jn_or, jn_xor, jq_andn, jq_shl1, jq_bit, jq_mn, jq_mx, cond_true, cond_false, jq_jt, jq_jf, jq_e1, jq_e2, jq_e3, jq_e4, Bool.not_true, Bool.not_false, jq_0, jq_1, jq_2, jq_3, jq_4, jq_5, jq_6, jq_8, jq_12, jq_16, jq_20, jq_21, jq_24, jq_30, jq_32, jq_60, jq_84, jq_1000, jq_2436, jq_20001, dm_noPost a hp, dm_noPost b hp, ha, hb, e11_29]
  rw [jx_ifp e]
theorem dm_two2 {a b : Int32} (hp : h.1 1 0 0 = nI p) (ha : jb_ip p a = true) (hb : jb_ip p b = true) (e : a ≠ b) : DM (d + 2) 11 [vr 0 0, vi a, vi b] h = some ([vi (nI 0)], h) := by
  rw [d11, e11_0]
  simp (disch := omega) only [jx_bI_s, jx_bL_s, jx_bV_s, eq_self, true_or, or_true, jx_if_t, jx_if_f, jq_b0, jq_b1, jq_bb, jq_b01, jx_if_in, jx_if_lt, jx_if_nlt, jx_if_le, jx_if_nle, jq_eqp, jq_eqn, nI_clamp, nI_add, pk_sub, pk_mul, jn_and, jn_or, jn_xor, jq_andn, jq_shl1, jq_bit, jq_mn, jq_mx, cond_true, cond_false, jq_jt, jq_jf, jq_e1, jq_e2, jq_e3, jq_e4, Bool.not_true, Bool.not_false, jq_0, jq_1, jq_2, jq_3, jq_4, jq_5, jq_6, jq_8, jq_12, jq_16, jq_20, jq_21, jq_24, jq_30, jq_32, jq_60, jq_84, jq_1000, jq_2436, jq_20001, dm_noPost a hp, dm_noPost b hp, ha, hb, e11_29]
  rw [jx_ifn e]
end
/-- a step at any depth -/
def jl_g (d : Nat) (y y' : Nat) (a : List jx_V) (hx hm : jx_H) : Prop := ∃ (r : Int32) (hx' hm' : jx_H), DM (d + 40) y (vr 0 0 :: a) hx = some ([vi r], hx') ∧ DM (d + 40) y' (vr 30 0 :: a) hm = some ([vi r], hm') ∧ jb_Inv hx' hm'
def jl_gL (d : Nat) (y y' : Nat) (a : List jx_V) (hx hm : jx_H) : Prop := ∃ (r : Int64) (hx' hm' : jx_H), DM (d + 40) y (vr 0 0 :: a) hx = some ([vl r], hx') ∧ DM (d + 40) y' (vr 30 0 :: a) hm = some ([vl r], hm') ∧ jb_Inv hx' hm'
theorem jx_neg1 : jx_if ((-1 : Int32) = 0) = fun (_ : Option jx_R) b => b := by
  funext a b
  exact jx_ifn (by decide)
theorem jx_neg3 : jx_if ((-3 : Int32) = 0) = fun (_ : Option jx_R) b => b := by
  funext a b
  exact jx_ifn (by decide)
/-- a question about two posts: findings alike -/
theorem jl_two {d y y' : Nat} {hx hm : jx_H} {N : jb_N} (I : jb_Inv hx hm) (x0 : hx.1 1 0 0 = nI (jb_p N)) (hp : jb_p N ≤ 8) {a b : Int32}
    (c1 : jb_ip (jb_p N) a = false ∨ jb_ip (jb_p N) b = false → DM (d + 40) y [vr 0 0, vi a, vi b] hx = some ([vi (-1)], jx_sI hx 0 0 7 (hx.1 0 0 7 + 1)) ∧ DM (d + 40) y' [vr 30 0, vi a, vi b] hm = some ([vi (-1)], jx_sI hm 30 0 16 (hm.1 30 0 16 + 1)))
    (c2 : jb_ip (jb_p N) a = true → jb_ip (jb_p N) b = true → a = b → DM (d + 40) y [vr 0 0, vi a, vi b] hx = some ([vi (-3)], jx_sI hx 0 0 7 (hx.1 0 0 7 + 1)) ∧ DM (d + 40) y' [vr 30 0, vi a, vi b] hm = some ([vi (-3)], jx_sI hm 30 0 16 (hm.1 30 0 16 + 1)))
    (c3 : ∀ i j : Nat, i < jb_p N → j < jb_p N → i ≠ j → a = nI i → b = nI j → jl_g d y y' [vi (nI i), vi (nI j)] hx hm) : jl_g d y y' [vi a, vi b] hx hm := by
  cases ha : jb_ip (jb_p N) a
  · obtain ⟨u, v⟩ := c1 (Or.inl ha)
    exact ⟨_, _, _, u, v, I.fd⟩
  · cases hb : jb_ip (jb_p N) b
    · obtain ⟨u, v⟩ := c1 (Or.inr hb)
      exact ⟨_, _, _, u, v, I.fd⟩
    · by_cases e : a = b
      · obtain ⟨u, v⟩ := c2 ha hb e
        exact ⟨_, _, _, u, v, I.fd⟩
      · obtain ⟨i, hi, rfl⟩ := jb_ip_t (by omega) ha
        obtain ⟨j, hj, rfl⟩ := jb_ip_t (by omega) hb
        exact c3 i j hi hj (fun k => e (by rw [k])) rfl rfl
/-! sides -/
theorem jb_cu_pc {N : jb_N} (hn : jb_n N ≤ 20) (X T : Nat) : jn_pc (jp_cu N X &&& T) = jb_cu N X T := by
  have e : jp_cu N X &&& T = jn_mk (fun r => jb_cb N X r && T.testBit r) (jb_n N) := by
    apply Nat.eq_of_testBit_eq
    intro i
    unfold jp_cu
    rw [Nat.testBit_and, jn_mk_t, jn_mk_t, Bool.and_assoc]
  rw [e, jn_pc_mk _ (by omega)]
  rfl
theorem jb_cu_all {N : jb_N} (hn : jb_n N ≤ 20) (X : Nat) : jn_pc (jp_cu N X) = jb_cu N X (2 ^ jb_n N - 1) := by
  unfold jp_cu jb_cu
  rw [jn_pc_mk _ (by omega)]
  refine jn_ct_congr _ (fun r hr => ?_)
  rw [jn_all_t]
  simp [hr]
def jp_X (N : jb_N) (s : Nat) : Nat := s * 2 ^ jp_sh N
theorem jp_X_in {N : jb_N} {s : Nat} (h1 : 1 ≤ s) (h2 : s < jp_sd N) : 1 ≤ jp_X N s ∧ jp_X N s < 2 ^ jb_p N - 1 := by
  unfold jp_X jp_sh
  unfold jp_sd at h2
  cases ht : jb_t N
  · rw [ht] at h2
    simp only [cond_false] at *
    omega
  · rw [ht] at h2
    simp only [cond_true] at *
    omega
theorem jb_cb_congr {N : jb_N} {X Y r : Nat} (h1 : X.testBit (jb_f N r) = Y.testBit (jb_f N r)) (h2 : X.testBit (jb_s N r) = Y.testBit (jb_s N r)) : jb_cb N X r = jb_cb N Y r := by
  unfold jb_cb
  rw [h1, h2]
theorem jp_side {N : jb_N} (w : jb_wf N) {X : Nat} (h1 : 1 ≤ X) (h2 : X < 2 ^ jb_p N - 1) : ∃ s, 1 ≤ s ∧ s < jp_sd N ∧ ∀ r, r < jb_n N → jb_cb N (jp_X N s) r = jb_cb N X r := by
  unfold jp_X jp_sd jp_sh
  have hpe : 2 ^ jb_p N = 2 * 2 ^ (jb_p N - 1) := by
    by_cases e : jb_p N = 0
    · rw [e] at h2
      omega
    · rw [show jb_p N = (jb_p N - 1) + 1 by omega, Nat.pow_succ, Nat.mul_comm, Nat.add_sub_cancel]
  cases ht : jb_t N
  · simp only [cond_false]
    cases h0 : X.testBit 0
    · have ev : X % 2 = 0 := by
        rw [Nat.testBit_zero] at h0
        simpa using h0
      refine ⟨X / 2, by omega, by omega, fun r hr => ?_⟩
      rw [show X / 2 * 2 ^ 1 = X by omega]
    · have ho : (jn_df (2 ^ jb_p N - 1) X).testBit 0 = false := by rw [jn_all_df, h0]; simp
      have hl : jn_df (2 ^ jb_p N - 1) X < 2 ^ jb_p N := jn_df_lt (by omega)
      have ev : jn_df (2 ^ jb_p N - 1) X % 2 = 0 := by
        rw [Nat.testBit_zero] at ho
        simpa using ho
      have hne : jn_df (2 ^ jb_p N - 1) X ≠ 0 := by
        intro e
        have : 2 ^ jb_p N - 1 = X := by
          refine jn_ext (n := jb_p N) (by omega) (by omega) (fun i hi => ?_)
          have := jn_all_df (p := jb_p N) (W := X) (x := i)
          rw [e, Nat.zero_testBit] at this
          rw [jn_all_t]
          simp [hi] at this
          simp [hi, this]
        omega
      refine ⟨jn_df (2 ^ jb_p N - 1) X / 2, by omega, by omega, fun r hr => ?_⟩
      rw [show jn_df (2 ^ jb_p N - 1) X / 2 * 2 ^ 1 = jn_df (2 ^ jb_p N - 1) X by omega]
      unfold jb_cb
      obtain ⟨w1, w2, _⟩ := w.2.2 r hr
      rw [jn_all_df, jn_all_df, ht]
      simp only [w1, w2]
      cases X.testBit (jb_f N r) <;> cases X.testBit (jb_s N r) <;> rfl
  · simp only [cond_true]
    exact ⟨X, h1, h2, fun r hr => by rw [Nat.pow_zero, Nat.mul_one]⟩
theorem jb_cu_congr {N : jb_N} {X Y T : Nat} (h : ∀ r, r < jb_n N → jb_cb N X r = jb_cb N Y r) : jb_cu N X T = jb_cu N Y T := jn_ct_congr _ (fun r hr => by rw [h r hr])
theorem jp_side_sh {N : jb_N} {s : Nat} (h : s < jp_sd N) (hp : jb_p N ≤ 8) : nI s <<< (nI (jp_sh N) &&& 31) = nI (jp_X N s) := by
  have h8 := jn_pow8 hp
  unfold jp_X jp_sh
  unfold jp_sd at h
  cases ht : jb_t N
  · rw [ht] at h
    exact jn_shl (by decide) (by simp only [cond_false] at *; omega)
  · rw [ht] at h
    exact jn_shl (by decide) (by simp only [cond_true] at *; omega)
theorem jp_sd_le {N : jb_N} : jp_sd N ≤ 2 ^ jb_p N := by
  have := Nat.two_pow_pos (jb_p N)
  unfold jp_sd
  cases jb_t N
  · simp only [cond_false]
    omega
  · simp only [cond_true]
    omega
