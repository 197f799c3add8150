/-! ===== layer 2: the call trees ===== -/
theorem jt_27 {d : Nat} {hx hm : jx_H} (I : jb_Inv hx hm) : jl_gL d 79 161 [] hx hm := by
  obtain ⟨N, w, x, m, h', rd, I', x', P⟩ := I.rd d
  have hn := w.2.1
  have hp := w.1
  have h8 := jn_pow8 hp
  have i8 := Nat.two_pow_pos (jb_p N)
  cases ht : jb_t N
  · by_cases hp0 : jb_p N = 0
    · refine ⟨0, h', hm, ?_, ?_, I'⟩
      · rw [d79, e79_0, x.2.2.1, ht]
        simp (disch := omega) only [jx_bI_s, jx_bL_s, jx_bV_s, eq_self, true_or, or_true, jx_if_t, jx_if_f, jq_b0, jq_b1, jq_bb, jq_b01, jx_if_in, jx_if_lt, jx_if_nlt, jx_if_le, jx_if_nle, jq_eqp, jq_eqn, nI_clamp, nI_add, pk_sub, pk_mul, jn_and, jn_or, jn_xor, jq_andn, jq_shl1, jq_bit, jq_mn, jq_mx, cond_true, cond_false, jq_jt, jq_jf, jq_e1, jq_e2, jq_e3, jq_e4, Bool.not_true, Bool.not_false, jq_0, jq_1, jq_2, jq_3, jq_4, jq_5, jq_6, jq_8, jq_12, jq_16, jq_20, jq_21, jq_24, jq_30, jq_32, jq_60, jq_84, jq_1000, jq_2436, jq_20001, rd, d80, e80_0, P.1.1, hp0]
      · rw [d161, e161_0, m.2.2.1, ht, m.1, hp0]
        simp (disch := omega) only [jx_bI_s, jx_bL_s, jx_bV_s, eq_self, true_or, or_true, jx_if_t, jx_if_f, jq_b0, jq_b1, jq_bb, jq_b01, jx_if_in, jx_if_lt, jx_if_nlt, jx_if_le, jx_if_nle, jq_eqp, jq_eqn, nI_clamp, nI_add, pk_sub, pk_mul, jn_and, jn_or, jn_xor, jq_andn, jq_shl1, jq_bit, jq_mn, jq_mx, cond_true, cond_false, jq_jt, jq_jf, jq_e1, jq_e2, jq_e3, jq_e4, Bool.not_true, Bool.not_false, jq_0, jq_1, jq_2, jq_3, jq_4, jq_5, jq_6, jq_8, jq_12, jq_16, jq_20, jq_21, jq_24, jq_30, jq_32, jq_60, jq_84, jq_1000, jq_2436, jq_20001]
        rfl
    · have p1 : 2 ≤ 2 ^ jb_p N := Nat.le_trans (show 2 ≤ 2 ^ 1 by decide) (Nat.pow_le_pow_right (by decide) (by omega))
      obtain ⟨h2, a1, a2, a3⟩ := dm_80 (d := d + 35) w P ht (2 ^ jb_p N - 1) 1 h' (by omega) (by decide) rfl (fun X _ _ => by omega)
      have fin : F80_11 (DM (d + 38)) (nI (2 ^ jb_p N)) h2 = some ([vl (lN (jr_tm N (2 ^ jb_p N - 1)))], h2) := by
        have P2 := jp_P26 P a1
        rw [e80_11]
        simp (disch := omega) only [jx_bI_s, jx_bL_s, jx_bV_s, eq_self, true_or, or_true, jx_if_t, jx_if_f, jq_b0, jq_b1, jq_bb, jq_b01, jx_if_in, jx_if_lt, jx_if_nlt, jx_if_le, jx_if_nle, jq_eqp, jq_eqn, nI_clamp, nI_add, pk_sub, pk_mul, jn_and, jn_or, jn_xor, jq_andn, jq_shl1, jq_bit, jq_mn, jq_mx, cond_true, cond_false, jq_jt, jq_jf, jq_e1, jq_e2, jq_e3, jq_e4, Bool.not_true, Bool.not_false, jq_0, jq_1, jq_2, jq_3, jq_4, jq_5, jq_6, jq_8, jq_12, jq_16, jq_20, jq_21, jq_24, jq_30, jq_32, jq_60, jq_84, jq_1000, jq_2436, jq_20001, P2.1.2.2.2.1, a2 (2 ^ jb_p N - 1) (by omega) (by omega)]
      have a3 : F80_11 (DM (d + 38)) (nI 1) h' = F80_11 (DM (d + 38)) (nI (2 ^ jb_p N)) h2 := a3
      have cx : DM (d + 40) 79 [vr 0 0] hx = some ([vl (lN (jr_tm N (2 ^ jb_p N - 1)))], h2) := by
        rw [d79, e79_0, x.2.2.1, ht]
        simp (disch := omega) only [jx_bI_s, jx_bL_s, jx_bV_s, eq_self, true_or, or_true, jx_if_t, jx_if_f, jq_b0, jq_b1, jq_bb, jq_b01, jx_if_in, jx_if_lt, jx_if_nlt, jx_if_le, jx_if_nle, jq_eqp, jq_eqn, nI_clamp, nI_add, pk_sub, pk_mul, jn_and, jn_or, jn_xor, jq_andn, jq_shl1, jq_bit, jq_mn, jq_mx, cond_true, cond_false, jq_jt, jq_jf, jq_e1, jq_e2, jq_e3, jq_e4, Bool.not_true, Bool.not_false, jq_0, jq_1, jq_2, jq_3, jq_4, jq_5, jq_6, jq_8, jq_12, jq_16, jq_20, jq_21, jq_24, jq_30, jq_32, jq_60, jq_84, jq_1000, jq_2436, jq_20001, rd, d80, e80_0, P.1.1, a3, fin]
      have I2 : ∀ g, jb_SM hm g → jb_Inv h2 g := fun g sm => I'.sx (jb_SX1 (k := 24) (by unfold jb_sx; omega) (by decide) (by decide) (by decide) (by decide) (fun c _ => by rw [a1])) sm
      by_cases hp1 : jb_p N < 2
      · have e1 : jb_p N = 1 := by omega
        refine ⟨lN (jr_tm N (2 ^ jb_p N - 1)), h2, hm, cx, ?_, I2 hm jb_SM.rf⟩
        have t1 : jr_tm N (2 ^ jb_p N - 1) = 1 := by
          have := jr_tm_one w (show 0 < jb_p N by omega)
          rw [e1]
          exact this
        rw [d161, e161_0, m.2.2.1, ht, m.1, t1, e1]
        simp (disch := omega) only [jx_bI_s, jx_bL_s, jx_bV_s, eq_self, true_or, or_true, jx_if_t, jx_if_f, jq_b0, jq_b1, jq_bb, jq_b01, jx_if_in, jx_if_lt, jx_if_nlt, jx_if_le, jx_if_nle, jq_eqp, jq_eqn, nI_clamp, nI_add, pk_sub, pk_mul, jn_and, jn_or, jn_xor, jq_andn, jq_shl1, jq_bit, jq_mn, jq_mx, cond_true, cond_false, jq_jt, jq_jf, jq_e1, jq_e2, jq_e3, jq_e4, Bool.not_true, Bool.not_false, jq_0, jq_1, jq_2, jq_3, jq_4, jq_5, jq_6, jq_8, jq_12, jq_16, jq_20, jq_21, jq_24, jq_30, jq_32, jq_60, jq_84, jq_1000, jq_2436, jq_20001]
        rfl
      · obtain ⟨g2, b1, b2⟩ := dm_162 (d := d + 34) w m (by omega)
        have b2 : DM (d + 39) 162 [vr 30 0, vi (nI (jb_p N - 1))] hm = some ([vl (lN (jr_c (jr_g N) (jb_n N) (jb_n N) (jb_p N - 1) 0))], g2) := b2
        rw [jr_all w (by omega) ht] at b2
        have sm : jb_SM hm g2 := ⟨fun c hc _ _ => b1 c (fun e => hc (by unfold jb_sm; omega)), fun r _ => ⟨by rw [b1 33 (by decide)], by rw [b1 34 (by decide)]⟩⟩
        refine ⟨lN (jr_tm N (2 ^ jb_p N - 1)), h2, g2, cx, ?_, I2 g2 sm⟩
        rw [d161, e161_0, m.2.2.1, ht, m.1]
        simp (disch := omega) only [jx_bI_s, jx_bL_s, jx_bV_s, eq_self, true_or, or_true, jx_if_t, jx_if_f, jq_b0, jq_b1, jq_bb, jq_b01, jx_if_in, jx_if_lt, jx_if_nlt, jx_if_le, jx_if_nle, jq_eqp, jq_eqn, nI_clamp, nI_add, pk_sub, pk_mul, jn_and, jn_or, jn_xor, jq_andn, jq_shl1, jq_bit, jq_mn, jq_mx, cond_true, cond_false, jq_jt, jq_jf, jq_e1, jq_e2, jq_e3, jq_e4, Bool.not_true, Bool.not_false, jq_0, jq_1, jq_2, jq_3, jq_4, jq_5, jq_6, jq_8, jq_12, jq_16, jq_20, jq_21, jq_24, jq_30, jq_32, jq_60, jq_84, jq_1000, jq_2436, jq_20001, b2]
  · refine ⟨(-8 : Int32).toInt64, _, _, ?_, ?_, I.fd⟩
    · rw [d79, e79_0, x.2.2.1, ht, show (-8 : Int32) = -nI 8 from rfl]
      simp (disch := omega) only [jx_bI_s, jx_bL_s, jx_bV_s, eq_self, true_or, or_true, jx_if_t, jx_if_f, jq_b0, jq_b1, jq_bb, jq_b01, jx_if_in, jx_if_lt, jx_if_nlt, jx_if_le, jx_if_nle, jq_eqp, jq_eqn, nI_clamp, nI_add, pk_sub, pk_mul, jn_and, jn_or, jn_xor, jq_andn, jq_shl1, jq_bit, jq_mn, jq_mx, cond_true, cond_false, jq_jt, jq_jf, jq_e1, jq_e2, jq_e3, jq_e4, Bool.not_true, Bool.not_false, jq_0, jq_1, jq_2, jq_3, jq_4, jq_5, jq_6, jq_8, jq_12, jq_16, jq_20, jq_21, jq_24, jq_30, jq_32, jq_60, jq_84, jq_1000, jq_2436, jq_20001, dm_fx]
    · rw [d161, e161_0, m.2.2.1, ht, show (-8 : Int32) = -nI 8 from rfl]
      simp (disch := omega) only [jx_bI_s, jx_bL_s, jx_bV_s, eq_self, true_or, or_true, jx_if_t, jx_if_f, jq_b0, jq_b1, jq_bb, jq_b01, jx_if_in, jx_if_lt, jx_if_nlt, jx_if_le, jx_if_nle, jq_eqp, jq_eqn, nI_clamp, nI_add, pk_sub, pk_mul, jn_and, jn_or, jn_xor, jq_andn, jq_shl1, jq_bit, jq_mn, jq_mx, cond_true, cond_false, jq_jt, jq_jf, jq_e1, jq_e2, jq_e3, jq_e4, Bool.not_true, Bool.not_false, jq_0, jq_1, jq_2, jq_3, jq_4, jq_5, jq_6, jq_8, jq_12, jq_16, jq_20, jq_21, jq_24, jq_30, jq_32, jq_60, jq_84, jq_1000, jq_2436, jq_20001, dm_fm]
