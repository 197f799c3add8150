/-! ===== layer 2: the steps of still and told ===== -/
theorem jn_i32 (x : Int32) : ∃ y, y < 2 ^ 32 ∧ x = nI y := ⟨x.toBitVec.toNat, x.toBitVec.isLt, by
  apply Int32.toBitVec_inj.1
  show x.toBitVec = BitVec.ofNat 32 x.toBitVec.toNat
  simp⟩
theorem jn_inset {x : Int32} {n : Nat} (hn : n ≤ 20) : (∃ y, y < 2 ^ n ∧ x = nI y) ∨ (¬ (x &&& (nI (2 ^ n - 1) ^^^ (-nI 1)) = nI 0) ∧ (x < 0 ∨ ¬ x ≤ nI (2 ^ n - 1))) := by
  have h20 := jn_pow20 hn
  have h0 := Nat.two_pow_pos n
  obtain ⟨y, hy, rfl⟩ := jn_i32 x
  by_cases h : y < 2 ^ n
  · exact Or.inl ⟨y, h, rfl⟩
  · refine Or.inr ⟨fun e => ?_, ?_⟩
    · rw [jq_andn] at e
      have hd : jn_df y (2 ^ n - 1) < 2 ^ 32 := jn_df_lt hy
      have e2 := congrArg (fun z : Int32 => z.toBitVec.toNat) e
      have e3 : (nI (jn_df y (2 ^ n - 1))).toBitVec.toNat = jn_df y (2 ^ n - 1) := pk_tn hd
      have e4 : (nI 0).toBitVec.toNat = 0 := rfl
      have e5 : jn_df y (2 ^ n - 1) = 0 := by
        rw [← e3, ← e4]
        exact e2
      apply h
      have : y = y &&& (2 ^ n - 1) := by
        apply Nat.eq_of_testBit_eq
        intro i
        have k := jn_df_t y (2 ^ n - 1) i
        rw [e5, Nat.zero_testBit] at k
        rw [Nat.testBit_and]
        cases h1 : y.testBit i with
        | false => rfl
        | true =>
          rw [h1] at k
          cases h2 : (2 ^ n - 1).testBit i with
          | true => rfl
          | false => rw [h2] at k; cases k
      rw [this, Nat.and_two_pow_sub_one_eq_mod]
      exact Nat.mod_lt _ h0
    · by_cases h31 : y < 2 ^ 31
      · exact Or.inr (nI_ge (by omega) h31)
      · refine Or.inl ?_
        rw [Int32.lt_iff_toInt_lt]
        have e0 : (0 : Int32).toInt = 0 := by decide
        rw [e0]
        show (BitVec.ofNat 32 y).toInt < 0
        rw [BitVec.toInt_eq_toNat_cond, BitVec.toNat_ofNat, Nat.mod_eq_of_lt hy]
        split
        · omega
        · omega
theorem jn_insub {y n : Nat} (h : y < 2 ^ n) : jn_df y (2 ^ n - 1) = 0 := by
  apply Nat.eq_of_testBit_eq
  intro i
  rw [jn_df_t, Nat.zero_testBit, jn_all_t]
  cases hb : y.testBit i with
  | false => rfl
  | true =>
    have := jn_hi h hb
    simp [this]
section
variable {d : Nat} {hx hm : jx_H}
theorem jt_18 (I : jb_Inv hx hm) (a x2 : Int32) (ha : a = 0 ∨ a = 1) : jl_g d 53 147 [vi a, vi x2] hx hm := by
  obtain ⟨N, w, x, m, h', rd, I', x', P⟩ := I.rd d
  obtain ⟨p0, p1, p2, p3, p4, p5, p6⟩ := P.1
  have hp := w.1
  have hn := w.2.1
  have h8 := jn_pow8 hp
  have h20 := jn_pow20 hn
  have i20 := Nat.two_pow_pos (jb_n N)
  have i8 := Nat.two_pow_pos (jb_p N)
  rcases ha with rfl | rfl
  · rcases jn_inset (x := x2) hn with ⟨y, hy, rfl⟩ | ⟨k1, k2⟩
    · have hT : jn_df (2 ^ jb_n N - 1) y < 2 ^ jb_n N := jn_df_lt (by omega)
      obtain ⟨B, b1, b2⟩ := dm_hangsX (d := d + 38) w P (T := jn_df (2 ^ jb_n N - 1) y) (by omega)
      obtain ⟨C, c1, c2⟩ := dm_hangsM (d := d + 36) (W := 0) w m (T := jn_df (2 ^ jb_n N - 1) y) (by omega) (by omega)
      have e : B = C := by
        rw [Bool.eq_iff_iff, b2, c2]
      subst e
      refine ⟨jn_b B, h', hm, ?_, ?_, I'⟩
      · rw [d53, e53_0]
        cases B <;> simp (disch := omega) only [jx_bI_s, jx_bL_s, jx_bV_s, eq_self, true_or, or_true, jx_if_t, jx_if_f, jq_b0, jq_b1, jq_bb, jq_b01, jx_if_in, jx_if_lt, jx_if_nlt, jx_if_le, jx_if_nle, jq_eqp, jq_eqn, nI_clamp, nI_add, pk_sub, pk_mul, jn_and, jn_or, jn_xor, jq_andn, jq_shl1, jq_bit, jq_mn, jq_mx, cond_true, cond_false, jq_jt, jq_jf, jq_e1, jq_e2, jq_e3, jq_e4, Bool.not_true, Bool.not_false, jq_0, jq_1, jq_2, jq_3, jq_4, jq_5, jq_6, jq_8, jq_12, jq_16, jq_20, jq_21, jq_24, jq_30, jq_32, jq_60, jq_84, jq_1000, jq_2436, jq_20001, rd, p4, e53_32, jn_insub hy, b1, e53_78, e53_90]
      · rw [d147, e147_0]
        cases B <;> simp (disch := omega) only [jx_bI_s, jx_bL_s, jx_bV_s, eq_self, true_or, or_true, jx_if_t, jx_if_f, jq_b0, jq_b1, jq_bb, jq_b01, jx_if_in, jx_if_lt, jx_if_nlt, jx_if_le, jx_if_nle, jq_eqp, jq_eqn, nI_clamp, nI_add, pk_sub, pk_mul, jn_and, jn_or, jn_xor, jq_andn, jq_shl1, jq_bit, jq_mn, jq_mx, cond_true, cond_false, jq_jt, jq_jf, jq_e1, jq_e2, jq_e3, jq_e4, Bool.not_true, Bool.not_false, jq_0, jq_1, jq_2, jq_3, jq_4, jq_5, jq_6, jq_8, jq_12, jq_16, jq_20, jq_21, jq_24, jq_30, jq_32, jq_60, jq_84, jq_1000, jq_2436, jq_20001, dm_allR (n := jb_n N) (by omega) m.2.1, e147_15, e147_52, c1, e147_91, e147_87, e147_92]
    · refine ⟨-1, _, _, ?_, ?_, I'.fd⟩
      · rw [d53, e53_0]
        simp (disch := omega) only [jx_bI_s, jx_bL_s, jx_bV_s, eq_self, true_or, or_true, jx_if_t, jx_if_f, jq_b0, jq_b1, jq_bb, jq_b01, jx_if_in, jx_if_lt, jx_if_nlt, jx_if_le, jx_if_nle, jq_eqp, jq_eqn, nI_clamp, nI_add, pk_sub, pk_mul, jn_and, jn_or, jn_xor, jq_andn, jq_shl1, jq_bit, jq_mn, jq_mx, cond_true, cond_false, jq_jt, jq_jf, jq_e1, jq_e2, jq_e3, jq_e4, Bool.not_true, Bool.not_false, jq_0, jq_1, jq_2, jq_3, jq_4, jq_5, jq_6, jq_8, jq_12, jq_16, jq_20, jq_21, jq_24, jq_30, jq_32, jq_60, jq_84, jq_1000, jq_2436, jq_20001, rd, p4, e53_32, jx_ifn k1, dm_fx]
      · rw [d147, e147_0]
        rcases k2 with k2 | k2
        · simp (disch := omega) only [jx_bI_s, jx_bL_s, jx_bV_s, eq_self, true_or, or_true, jx_if_t, jx_if_f, jq_b0, jq_b1, jq_bb, jq_b01, jx_if_in, jx_if_lt, jx_if_nlt, jx_if_le, jx_if_nle, jq_eqp, jq_eqn, nI_clamp, nI_add, pk_sub, pk_mul, jn_and, jn_or, jn_xor, jq_andn, jq_shl1, jq_bit, jq_mn, jq_mx, cond_true, cond_false, jq_jt, jq_jf, jq_e1, jq_e2, jq_e3, jq_e4, Bool.not_true, Bool.not_false, jq_0, jq_1, jq_2, jq_3, jq_4, jq_5, jq_6, jq_8, jq_12, jq_16, jq_20, jq_21, jq_24, jq_30, jq_32, jq_60, jq_84, jq_1000, jq_2436, jq_20001, dm_allR (n := jb_n N) (by omega) m.2.1, e147_15, jx_ifp (show x2 < nI 0 from k2), e147_25, dm_fm]
        · by_cases k3 : x2 < 0
          · simp (disch := omega) only [jx_bI_s, jx_bL_s, jx_bV_s, eq_self, true_or, or_true, jx_if_t, jx_if_f, jq_b0, jq_b1, jq_bb, jq_b01, jx_if_in, jx_if_lt, jx_if_nlt, jx_if_le, jx_if_nle, jq_eqp, jq_eqn, nI_clamp, nI_add, pk_sub, pk_mul, jn_and, jn_or, jn_xor, jq_andn, jq_shl1, jq_bit, jq_mn, jq_mx, cond_true, cond_false, jq_jt, jq_jf, jq_e1, jq_e2, jq_e3, jq_e4, Bool.not_true, Bool.not_false, jq_0, jq_1, jq_2, jq_3, jq_4, jq_5, jq_6, jq_8, jq_12, jq_16, jq_20, jq_21, jq_24, jq_30, jq_32, jq_60, jq_84, jq_1000, jq_2436, jq_20001, dm_allR (n := jb_n N) (by omega) m.2.1, e147_15, jx_ifp (show x2 < nI 0 from k3), e147_25, dm_fm]
          · simp (disch := omega) only [jx_bI_s, jx_bL_s, jx_bV_s, eq_self, true_or, or_true, jx_if_t, jx_if_f, jq_b0, jq_b1, jq_bb, jq_b01, jx_if_in, jx_if_lt, jx_if_nlt, jx_if_le, jx_if_nle, jq_eqp, jq_eqn, nI_clamp, nI_add, pk_sub, pk_mul, jn_and, jn_or, jn_xor, jq_andn, jq_shl1, jq_bit, jq_mn, jq_mx, cond_true, cond_false, jq_jt, jq_jf, jq_e1, jq_e2, jq_e3, jq_e4, Bool.not_true, Bool.not_false, jq_0, jq_1, jq_2, jq_3, jq_4, jq_5, jq_6, jq_8, jq_12, jq_16, jq_20, jq_21, jq_24, jq_30, jq_32, jq_60, jq_84, jq_1000, jq_2436, jq_20001, dm_allR (n := jb_n N) (by omega) m.2.1, e147_15, jx_ifn (show ¬ x2 < nI 0 from k3), jx_ifn k2, e147_25, dm_fm]
  · rcases jn_inset (x := x2) (show jb_p N ≤ 20 by omega) with ⟨y, hy, rfl⟩ | ⟨k1, k2⟩
    · have hS : jn_df (2 ^ jb_p N - 1) y < 2 ^ jb_p N := jn_df_lt (by omega)
      obtain ⟨B, b1, b2⟩ := dm_among (d := d + 37) w P (S := jn_df (2 ^ jb_p N - 1) y) hS
      have hpc := jn_pc_le (jn_df (2 ^ jb_p N - 1) y)
      by_cases hc : jn_pc (jn_df (2 ^ jb_p N - 1) y) ≤ 1
      · have e : B = true := by
          refine b2.2 (fun Y y1 y2 y3 => absurd ?_ (show ¬ jn_pc Y = 0 from fun e => ?_))
          · have := jn_pc_sub (n := 8) (x := Y) (y := jn_df (2 ^ jb_p N - 1) y) (by have := jn_sb_le y2; omega) (by omega) (by decide) y2 y3
            omega
          · obtain ⟨q, hq⟩ := jn_some y1
            have : 0 < jn_pc Y := jn_ct_pos.2 ⟨q, by
              have := jn_hi (n := 8) (by have := jn_sb_le y2; omega) hq
              omega, hq⟩
            omega
        subst e
        refine ⟨nI 1, h', hm, ?_, ?_, I'⟩
        · rw [d53, e53_0]
          simp (disch := omega) only [jx_bI_s, jx_bL_s, jx_bV_s, eq_self, true_or, or_true, jx_if_t, jx_if_f, jq_b0, jq_b1, jq_bb, jq_b01, jx_if_in, jx_if_lt, jx_if_nlt, jx_if_le, jx_if_nle, jq_eqp, jq_eqn, nI_clamp, nI_add, pk_sub, pk_mul, jn_and, jn_or, jn_xor, jq_andn, jq_shl1, jq_bit, jq_mn, jq_mx, cond_true, cond_false, jq_jt, jq_jf, jq_e1, jq_e2, jq_e3, jq_e4, Bool.not_true, Bool.not_false, jq_0, jq_1, jq_2, jq_3, jq_4, jq_5, jq_6, jq_8, jq_12, jq_16, jq_20, jq_21, jq_24, jq_30, jq_32, jq_60, jq_84, jq_1000, jq_2436, jq_20001, rd, p3, e53_32, jn_insub hy, b1, e53_78, e53_90]
        · rw [d147, e147_0]
          simp (disch := omega) only [jx_bI_s, jx_bL_s, jx_bV_s, eq_self, true_or, or_true, jx_if_t, jx_if_f, jq_b0, jq_b1, jq_bb, jq_b01, jx_if_in, jx_if_lt, jx_if_nlt, jx_if_le, jx_if_nle, jq_eqp, jq_eqn, nI_clamp, nI_add, pk_sub, pk_mul, jn_and, jn_or, jn_xor, jq_andn, jq_shl1, jq_bit, jq_mn, jq_mx, cond_true, cond_false, jq_jt, jq_jf, jq_e1, jq_e2, jq_e3, jq_e4, Bool.not_true, Bool.not_false, jq_0, jq_1, jq_2, jq_3, jq_4, jq_5, jq_6, jq_8, jq_12, jq_16, jq_20, jq_21, jq_24, jq_30, jq_32, jq_60, jq_84, jq_1000, jq_2436, jq_20001, dm_all (n := jb_p N) (by omega) m.1, e147_15, dm_countOf]
      · obtain ⟨C, c1, c2⟩ := dm_hangsM (d := d + 36) (W := y) w m (T := 2 ^ jb_n N - 1) (by omega) (by omega)
        have h0 : 0 < jb_p N := by
          apply Classical.byContradiction
          intro h0
          have e0 : jb_p N = 0 := by omega
          rw [e0] at hS
          have : jn_df (2 ^ 0 - 1) y = 0 := by omega
          rw [e0, this] at hc
          exact hc (by decide)
        have e : B = C := by
          rw [Bool.eq_iff_iff, b2, c2, jb_hg_bt w h0]
        subst e
        refine ⟨jn_b B, h', hm, ?_, ?_, I'⟩
        · rw [d53, e53_0]
          cases B <;> simp (disch := omega) only [jx_bI_s, jx_bL_s, jx_bV_s, eq_self, true_or, or_true, jx_if_t, jx_if_f, jq_b0, jq_b1, jq_bb, jq_b01, jx_if_in, jx_if_lt, jx_if_nlt, jx_if_le, jx_if_nle, jq_eqp, jq_eqn, nI_clamp, nI_add, pk_sub, pk_mul, jn_and, jn_or, jn_xor, jq_andn, jq_shl1, jq_bit, jq_mn, jq_mx, cond_true, cond_false, jq_jt, jq_jf, jq_e1, jq_e2, jq_e3, jq_e4, Bool.not_true, Bool.not_false, jq_0, jq_1, jq_2, jq_3, jq_4, jq_5, jq_6, jq_8, jq_12, jq_16, jq_20, jq_21, jq_24, jq_30, jq_32, jq_60, jq_84, jq_1000, jq_2436, jq_20001, rd, p3, e53_32, jn_insub hy, b1, e53_78, e53_90]
        · rw [d147, e147_0]
          cases B <;> simp (disch := omega) only [jx_bI_s, jx_bL_s, jx_bV_s, eq_self, true_or, or_true, jx_if_t, jx_if_f, jq_b0, jq_b1, jq_bb, jq_b01, jx_if_in, jx_if_lt, jx_if_nlt, jx_if_le, jx_if_nle, jq_eqp, jq_eqn, nI_clamp, nI_add, pk_sub, pk_mul, jn_and, jn_or, jn_xor, jq_andn, jq_shl1, jq_bit, jq_mn, jq_mx, cond_true, cond_false, jq_jt, jq_jf, jq_e1, jq_e2, jq_e3, jq_e4, Bool.not_true, Bool.not_false, jq_0, jq_1, jq_2, jq_3, jq_4, jq_5, jq_6, jq_8, jq_12, jq_16, jq_20, jq_21, jq_24, jq_30, jq_32, jq_60, jq_84, jq_1000, jq_2436, jq_20001, dm_all (n := jb_p N) (by omega) m.1, dm_allR (n := jb_n N) (by omega) m.2.1, e147_15, dm_countOf, e147_52, c1, e147_91, e147_87, e147_92]
    · refine ⟨-1, _, _, ?_, ?_, I'.fd⟩
      · rw [d53, e53_0]
        simp (disch := omega) only [jx_bI_s, jx_bL_s, jx_bV_s, eq_self, true_or, or_true, jx_if_t, jx_if_f, jq_b0, jq_b1, jq_bb, jq_b01, jx_if_in, jx_if_lt, jx_if_nlt, jx_if_le, jx_if_nle, jq_eqp, jq_eqn, nI_clamp, nI_add, pk_sub, pk_mul, jn_and, jn_or, jn_xor, jq_andn, jq_shl1, jq_bit, jq_mn, jq_mx, cond_true, cond_false, jq_jt, jq_jf, jq_e1, jq_e2, jq_e3, jq_e4, Bool.not_true, Bool.not_false, jq_0, jq_1, jq_2, jq_3, jq_4, jq_5, jq_6, jq_8, jq_12, jq_16, jq_20, jq_21, jq_24, jq_30, jq_32, jq_60, jq_84, jq_1000, jq_2436, jq_20001, rd, p3, e53_32, jx_ifn k1, dm_fx]
      · rw [d147, e147_0]
        by_cases k3 : x2 < 0
        · simp (disch := omega) only [jx_bI_s, jx_bL_s, jx_bV_s, eq_self, true_or, or_true, jx_if_t, jx_if_f, jq_b0, jq_b1, jq_bb, jq_b01, jx_if_in, jx_if_lt, jx_if_nlt, jx_if_le, jx_if_nle, jq_eqp, jq_eqn, nI_clamp, nI_add, pk_sub, pk_mul, jn_and, jn_or, jn_xor, jq_andn, jq_shl1, jq_bit, jq_mn, jq_mx, cond_true, cond_false, jq_jt, jq_jf, jq_e1, jq_e2, jq_e3, jq_e4, Bool.not_true, Bool.not_false, jq_0, jq_1, jq_2, jq_3, jq_4, jq_5, jq_6, jq_8, jq_12, jq_16, jq_20, jq_21, jq_24, jq_30, jq_32, jq_60, jq_84, jq_1000, jq_2436, jq_20001, dm_all (n := jb_p N) (by omega) m.1, e147_15, jx_ifp (show x2 < nI 0 from k3), e147_25, dm_fm]
        · simp (disch := omega) only [jx_bI_s, jx_bL_s, jx_bV_s, eq_self, true_or, or_true, jx_if_t, jx_if_f, jq_b0, jq_b1, jq_bb, jq_b01, jx_if_in, jx_if_lt, jx_if_nlt, jx_if_le, jx_if_nle, jq_eqp, jq_eqn, nI_clamp, nI_add, pk_sub, pk_mul, jn_and, jn_or, jn_xor, jq_andn, jq_shl1, jq_bit, jq_mn, jq_mx, cond_true, cond_false, jq_jt, jq_jf, jq_e1, jq_e2, jq_e3, jq_e4, Bool.not_true, Bool.not_false, jq_0, jq_1, jq_2, jq_3, jq_4, jq_5, jq_6, jq_8, jq_12, jq_16, jq_20, jq_21, jq_24, jq_30, jq_32, jq_60, jq_84, jq_1000, jq_2436, jq_20001, dm_all (n := jb_p N) (by omega) m.1, e147_15, jx_ifn (show ¬ x2 < nI 0 from k3), jx_ifn (k2.resolve_left k3), e147_25, dm_fm]
theorem dm_priceX {h : jx_H} {N : jb_N} {d : Nat} (w : jb_wf N) (x : jb_X h 0 N) : DM (d + 1) 109 [vr 1 0] h = some ([vi (nI (jn_sm (jb_c N) (jb_n N)))], h) := by
  have hn := w.2.1
  rw [d109, e109_0]
  refine (jn_loop (fun i => F109_4 (DM d) 0 (nI (jn_sm (jb_c N) i)) (nI i) h) (Nat.zero_le (jb_n N)) (fun i _ hi => ?_)).trans ?_
  · show F109_4 _ _ _ _ _ = F109_4 _ _ _ _ _
    rw [e109_4, x.2.1]
    have hs : jn_sm (jb_c N) (i + 1) = jn_sm (jb_c N) i + jb_c N i := rfl
    rw [hs]
    simp (disch := omega) only [jx_bI_s, jx_bL_s, jx_bV_s, eq_self, true_or, or_true, jx_if_t, jx_if_f, jq_b0, jq_b1, jq_bb, jq_b01, jx_if_in, jx_if_lt, jx_if_nlt, jx_if_le, jx_if_nle, jq_eqp, jq_eqn, nI_clamp, nI_add, pk_sub, pk_mul, jn_and, jn_or, jn_xor, jq_andn, jq_shl1, jq_bit, jq_mn, jq_mx, cond_true, cond_false, jq_jt, jq_jf, jq_e1, jq_e2, jq_e3, jq_e4, Bool.not_true, Bool.not_false, jq_0, jq_1, jq_2, jq_3, jq_4, jq_5, jq_6, jq_8, jq_12, jq_16, jq_20, jq_21, jq_24, jq_30, jq_32, jq_60, jq_84, jq_1000, jq_2436, jq_20001, e109_21, (x.2.2.2 i hi).2.2.1]
  · show F109_4 _ _ _ _ _ = _
    rw [e109_4, x.2.1, jx_if_nlt (Nat.le_refl _) (by omega)]
theorem jb_pr_all (N : jb_N) : jb_pr N (2 ^ jb_n N - 1) = jn_sm (jb_c N) (jb_n N) := jn_sm_congr _ (fun r hr => by
  have : (2 ^ jb_n N - 1).testBit r = true := by rw [jn_all_t]; simpa using hr
  rw [if_pos this])
theorem jt_38 (I : jb_Inv hx hm) (a : Int32) : jl_g d 108 180 [vi a] hx hm := by
  obtain ⟨N, w, x, m, h', rd, I', x', P⟩ := I.rd d
  obtain ⟨p0, p1, p2, p3, p4, p5, p6⟩ := P.1
  have hp := w.1
  have hn := w.2.1
  have h8 := jn_pow8 hp
  have h20 := jn_pow20 hn
  have i20 := Nat.two_pow_pos (jb_n N)
  rcases pk_ix a (n := 7) (by decide) with k | k | ⟨j, hj, rfl⟩
  · have n0 : ∀ j : Nat, j < 7 → ¬ a = nI j := fun j hj e => nI_pos (n := j) (by omega) (by rw [← e]; exact k)
    refine ⟨-1, _, _, ?_, ?_, I.fd⟩
    · rw [d108, e108_0]
      simp (disch := omega) only [jx_bI_s, jx_bL_s, jx_bV_s, eq_self, true_or, or_true, jx_if_t, jx_if_f, jq_b0, jq_b1, jq_bb, jq_b01, jx_if_in, jx_if_lt, jx_if_nlt, jx_if_le, jx_if_nle, jq_eqp, jq_eqn, nI_clamp, nI_add, pk_sub, pk_mul, jn_and, jn_or, jn_xor, jq_andn, jq_shl1, jq_bit, jq_mn, jq_mx, cond_true, cond_false, jq_jt, jq_jf, jq_e1, jq_e2, jq_e3, jq_e4, Bool.not_true, Bool.not_false, jq_0, jq_1, jq_2, jq_3, jq_4, jq_5, jq_6, jq_8, jq_12, jq_16, jq_20, jq_21, jq_24, jq_30, jq_32, jq_60, jq_84, jq_1000, jq_2436, jq_20001, jx_ifn (n0 0 (by decide)), jx_ifn (n0 1 (by decide)), jx_ifn (n0 2 (by decide)), jx_ifn (n0 3 (by decide)), jx_ifn (n0 4 (by decide)), jx_ifn (n0 5 (by decide)), jx_ifn (n0 6 (by decide)), dm_fx]
    · rw [d180, e180_0]
      simp (disch := omega) only [jx_bI_s, jx_bL_s, jx_bV_s, eq_self, true_or, or_true, jx_if_t, jx_if_f, jq_b0, jq_b1, jq_bb, jq_b01, jx_if_in, jx_if_lt, jx_if_nlt, jx_if_le, jx_if_nle, jq_eqp, jq_eqn, nI_clamp, nI_add, pk_sub, pk_mul, jn_and, jn_or, jn_xor, jq_andn, jq_shl1, jq_bit, jq_mn, jq_mx, cond_true, cond_false, jq_jt, jq_jf, jq_e1, jq_e2, jq_e3, jq_e4, Bool.not_true, Bool.not_false, jq_0, jq_1, jq_2, jq_3, jq_4, jq_5, jq_6, jq_8, jq_12, jq_16, jq_20, jq_21, jq_24, jq_30, jq_32, jq_60, jq_84, jq_1000, jq_2436, jq_20001, jx_ifp (show a < nI 0 from k), e180_10, dm_fm]
  · have n0 : ∀ j : Nat, j < 7 → ¬ a = nI j := fun j hj e => nI_ge hj (by decide) (by rw [← e]; exact k)
    have k0 : ¬ a < nI 0 := fun c => by
      rw [Int32.lt_iff_toInt_lt] at c
      rw [Int32.le_iff_toInt_le] at k
      have e0 : (nI 0).toInt = 0 := by decide
      have e1 : (nI 7).toInt = 7 := by decide
      omega
    have k6 : ¬ a ≤ nI 6 := fun c => by
      rw [Int32.le_iff_toInt_le] at c
      rw [Int32.le_iff_toInt_le] at k
      have e0 : (nI 6).toInt = 6 := by decide
      have e1 : (nI 7).toInt = 7 := by decide
      omega
    refine ⟨-1, _, _, ?_, ?_, I.fd⟩
    · rw [d108, e108_0]
      simp (disch := omega) only [jx_bI_s, jx_bL_s, jx_bV_s, eq_self, true_or, or_true, jx_if_t, jx_if_f, jq_b0, jq_b1, jq_bb, jq_b01, jx_if_in, jx_if_lt, jx_if_nlt, jx_if_le, jx_if_nle, jq_eqp, jq_eqn, nI_clamp, nI_add, pk_sub, pk_mul, jn_and, jn_or, jn_xor, jq_andn, jq_shl1, jq_bit, jq_mn, jq_mx, cond_true, cond_false, jq_jt, jq_jf, jq_e1, jq_e2, jq_e3, jq_e4, Bool.not_true, Bool.not_false, jq_0, jq_1, jq_2, jq_3, jq_4, jq_5, jq_6, jq_8, jq_12, jq_16, jq_20, jq_21, jq_24, jq_30, jq_32, jq_60, jq_84, jq_1000, jq_2436, jq_20001, jx_ifn (n0 0 (by decide)), jx_ifn (n0 1 (by decide)), jx_ifn (n0 2 (by decide)), jx_ifn (n0 3 (by decide)), jx_ifn (n0 4 (by decide)), jx_ifn (n0 5 (by decide)), jx_ifn (n0 6 (by decide)), dm_fx]
    · rw [d180, e180_0]
      simp (disch := omega) only [jx_bI_s, jx_bL_s, jx_bV_s, eq_self, true_or, or_true, jx_if_t, jx_if_f, jq_b0, jq_b1, jq_bb, jq_b01, jx_if_in, jx_if_lt, jx_if_nlt, jx_if_le, jx_if_nle, jq_eqp, jq_eqn, nI_clamp, nI_add, pk_sub, pk_mul, jn_and, jn_or, jn_xor, jq_andn, jq_shl1, jq_bit, jq_mn, jq_mx, cond_true, cond_false, jq_jt, jq_jf, jq_e1, jq_e2, jq_e3, jq_e4, Bool.not_true, Bool.not_false, jq_0, jq_1, jq_2, jq_3, jq_4, jq_5, jq_6, jq_8, jq_12, jq_16, jq_20, jq_21, jq_24, jq_30, jq_32, jq_60, jq_84, jq_1000, jq_2436, jq_20001, jx_ifn k0, jx_ifn k6, e180_10, dm_fm]
  · rcases (show j = 0 ∨ j = 1 ∨ j = 2 ∨ j = 3 ∨ j = 4 ∨ j = 5 ∨ j = 6 by omega) with rfl | rfl | rfl | rfl | rfl | rfl | rfl
    · refine ⟨nI (jb_p N), hx, hm, ?_, ?_, I⟩
      · rw [d108, e108_0]
        simp (disch := omega) only [jx_bI_s, jx_bL_s, jx_bV_s, eq_self, true_or, or_true, jx_if_t, jx_if_f, jq_b0, jq_b1, jq_bb, jq_b01, jx_if_in, jx_if_lt, jx_if_nlt, jx_if_le, jx_if_nle, jq_eqp, jq_eqn, nI_clamp, nI_add, pk_sub, pk_mul, jn_and, jn_or, jn_xor, jq_andn, jq_shl1, jq_bit, jq_mn, jq_mx, cond_true, cond_false, jq_jt, jq_jf, jq_e1, jq_e2, jq_e3, jq_e4, Bool.not_true, Bool.not_false, jq_0, jq_1, jq_2, jq_3, jq_4, jq_5, jq_6, jq_8, jq_12, jq_16, jq_20, jq_21, jq_24, jq_30, jq_32, jq_60, jq_84, jq_1000, jq_2436, jq_20001, x.1]
      · rw [d180, e180_0]
        simp (disch := omega) only [jx_bI_s, jx_bL_s, jx_bV_s, eq_self, true_or, or_true, jx_if_t, jx_if_f, jq_b0, jq_b1, jq_bb, jq_b01, jx_if_in, jx_if_lt, jx_if_nlt, jx_if_le, jx_if_nle, jq_eqp, jq_eqn, nI_clamp, nI_add, pk_sub, pk_mul, jn_and, jn_or, jn_xor, jq_andn, jq_shl1, jq_bit, jq_mn, jq_mx, cond_true, cond_false, jq_jt, jq_jf, jq_e1, jq_e2, jq_e3, jq_e4, Bool.not_true, Bool.not_false, jq_0, jq_1, jq_2, jq_3, jq_4, jq_5, jq_6, jq_8, jq_12, jq_16, jq_20, jq_21, jq_24, jq_30, jq_32, jq_60, jq_84, jq_1000, jq_2436, jq_20001, m.1]
    · refine ⟨nI (jb_n N), hx, hm, ?_, ?_, I⟩
      · rw [d108, e108_0]
        simp (disch := omega) only [jx_bI_s, jx_bL_s, jx_bV_s, eq_self, true_or, or_true, jx_if_t, jx_if_f, jq_b0, jq_b1, jq_bb, jq_b01, jx_if_in, jx_if_lt, jx_if_nlt, jx_if_le, jx_if_nle, jq_eqp, jq_eqn, nI_clamp, nI_add, pk_sub, pk_mul, jn_and, jn_or, jn_xor, jq_andn, jq_shl1, jq_bit, jq_mn, jq_mx, cond_true, cond_false, jq_jt, jq_jf, jq_e1, jq_e2, jq_e3, jq_e4, Bool.not_true, Bool.not_false, jq_0, jq_1, jq_2, jq_3, jq_4, jq_5, jq_6, jq_8, jq_12, jq_16, jq_20, jq_21, jq_24, jq_30, jq_32, jq_60, jq_84, jq_1000, jq_2436, jq_20001, x.2.1]
      · rw [d180, e180_0]
        simp (disch := omega) only [jx_bI_s, jx_bL_s, jx_bV_s, eq_self, true_or, or_true, jx_if_t, jx_if_f, jq_b0, jq_b1, jq_bb, jq_b01, jx_if_in, jx_if_lt, jx_if_nlt, jx_if_le, jx_if_nle, jq_eqp, jq_eqn, nI_clamp, nI_add, pk_sub, pk_mul, jn_and, jn_or, jn_xor, jq_andn, jq_shl1, jq_bit, jq_mn, jq_mx, cond_true, cond_false, jq_jt, jq_jf, jq_e1, jq_e2, jq_e3, jq_e4, Bool.not_true, Bool.not_false, jq_0, jq_1, jq_2, jq_3, jq_4, jq_5, jq_6, jq_8, jq_12, jq_16, jq_20, jq_21, jq_24, jq_30, jq_32, jq_60, jq_84, jq_1000, jq_2436, jq_20001, m.2.1]
    · refine ⟨jn_b (jb_t N), hx, hm, ?_, ?_, I⟩
      · rw [d108, e108_0]
        cases ht : jb_t N <;> simp (disch := omega) only [jx_bI_s, jx_bL_s, jx_bV_s, eq_self, true_or, or_true, jx_if_t, jx_if_f, jq_b0, jq_b1, jq_bb, jq_b01, jx_if_in, jx_if_lt, jx_if_nlt, jx_if_le, jx_if_nle, jq_eqp, jq_eqn, nI_clamp, nI_add, pk_sub, pk_mul, jn_and, jn_or, jn_xor, jq_andn, jq_shl1, jq_bit, jq_mn, jq_mx, cond_true, cond_false, jq_jt, jq_jf, jq_e1, jq_e2, jq_e3, jq_e4, Bool.not_true, Bool.not_false, jq_0, jq_1, jq_2, jq_3, jq_4, jq_5, jq_6, jq_8, jq_12, jq_16, jq_20, jq_21, jq_24, jq_30, jq_32, jq_60, jq_84, jq_1000, jq_2436, jq_20001, x.2.2.1, ht, e108_75]
      · rw [d180, e180_0]
        cases ht : jb_t N <;> simp (disch := omega) only [jx_bI_s, jx_bL_s, jx_bV_s, eq_self, true_or, or_true, jx_if_t, jx_if_f, jq_b0, jq_b1, jq_bb, jq_b01, jx_if_in, jx_if_lt, jx_if_nlt, jx_if_le, jx_if_nle, jq_eqp, jq_eqn, nI_clamp, nI_add, pk_sub, pk_mul, jn_and, jn_or, jn_xor, jq_andn, jq_shl1, jq_bit, jq_mn, jq_mx, cond_true, cond_false, jq_jt, jq_jf, jq_e1, jq_e2, jq_e3, jq_e4, Bool.not_true, Bool.not_false, jq_0, jq_1, jq_2, jq_3, jq_4, jq_5, jq_6, jq_8, jq_12, jq_16, jq_20, jq_21, jq_24, jq_30, jq_32, jq_60, jq_84, jq_1000, jq_2436, jq_20001, m.2.2.1, ht, e180_78]
    · obtain ⟨B, b1, b2⟩ := dm_hangsX (d := d + 38) w P (T := 2 ^ jb_n N - 1) (by omega)
      obtain ⟨C, c1, c2⟩ := dm_hangsM (d := d + 36) (W := 0) w m (T := 2 ^ jb_n N - 1) (by omega) (by omega)
      have e : B = C := by
        rw [Bool.eq_iff_iff, b2, c2]
      subst e
      refine ⟨jn_b B, h', hm, ?_, ?_, I'⟩
      · rw [d108, e108_0]
        cases B <;> simp (disch := omega) only [jx_bI_s, jx_bL_s, jx_bV_s, eq_self, true_or, or_true, jx_if_t, jx_if_f, jq_b0, jq_b1, jq_bb, jq_b01, jx_if_in, jx_if_lt, jx_if_nlt, jx_if_le, jx_if_nle, jq_eqp, jq_eqn, nI_clamp, nI_add, pk_sub, pk_mul, jn_and, jn_or, jn_xor, jq_andn, jq_shl1, jq_bit, jq_mn, jq_mx, cond_true, cond_false, jq_jt, jq_jf, jq_e1, jq_e2, jq_e3, jq_e4, Bool.not_true, Bool.not_false, jq_0, jq_1, jq_2, jq_3, jq_4, jq_5, jq_6, jq_8, jq_12, jq_16, jq_20, jq_21, jq_24, jq_30, jq_32, jq_60, jq_84, jq_1000, jq_2436, jq_20001, rd, p4, b1, e108_109]
      · rw [d180, e180_0]
        cases B <;> simp (disch := omega) only [jx_bI_s, jx_bL_s, jx_bV_s, eq_self, true_or, or_true, jx_if_t, jx_if_f, jq_b0, jq_b1, jq_bb, jq_b01, jx_if_in, jx_if_lt, jx_if_nlt, jx_if_le, jx_if_nle, jq_eqp, jq_eqn, nI_clamp, nI_add, pk_sub, pk_mul, jn_and, jn_or, jn_xor, jq_andn, jq_shl1, jq_bit, jq_mn, jq_mx, cond_true, cond_false, jq_jt, jq_jf, jq_e1, jq_e2, jq_e3, jq_e4, Bool.not_true, Bool.not_false, jq_0, jq_1, jq_2, jq_3, jq_4, jq_5, jq_6, jq_8, jq_12, jq_16, jq_20, jq_21, jq_24, jq_30, jq_32, jq_60, jq_84, jq_1000, jq_2436, jq_20001, dm_allR (n := jb_n N) (by omega) m.2.1, c1, e180_96]
    · obtain ⟨k, w1, w2, w3, w4⟩ := I.2.2.2.2.1
      refine ⟨nI k, hx, hm, ?_, ?_, I⟩
      · rw [d108, e108_0]
        simp (disch := omega) only [jx_bI_s, jx_bL_s, jx_bV_s, eq_self, true_or, or_true, jx_if_t, jx_if_f, jq_b0, jq_b1, jq_bb, jq_b01, jx_if_in, jx_if_lt, jx_if_nlt, jx_if_le, jx_if_nle, jq_eqp, jq_eqn, nI_clamp, nI_add, pk_sub, pk_mul, jn_and, jn_or, jn_xor, jq_andn, jq_shl1, jq_bit, jq_mn, jq_mx, cond_true, cond_false, jq_jt, jq_jf, jq_e1, jq_e2, jq_e3, jq_e4, Bool.not_true, Bool.not_false, jq_0, jq_1, jq_2, jq_3, jq_4, jq_5, jq_6, jq_8, jq_12, jq_16, jq_20, jq_21, jq_24, jq_30, jq_32, jq_60, jq_84, jq_1000, jq_2436, jq_20001, w2]
      · rw [d180, e180_0]
        simp (disch := omega) only [jx_bI_s, jx_bL_s, jx_bV_s, eq_self, true_or, or_true, jx_if_t, jx_if_f, jq_b0, jq_b1, jq_bb, jq_b01, jx_if_in, jx_if_lt, jx_if_nlt, jx_if_le, jx_if_nle, jq_eqp, jq_eqn, nI_clamp, nI_add, pk_sub, pk_mul, jn_and, jn_or, jn_xor, jq_andn, jq_shl1, jq_bit, jq_mn, jq_mx, cond_true, cond_false, jq_jt, jq_jf, jq_e1, jq_e2, jq_e3, jq_e4, Bool.not_true, Bool.not_false, jq_0, jq_1, jq_2, jq_3, jq_4, jq_5, jq_6, jq_8, jq_12, jq_16, jq_20, jq_21, jq_24, jq_30, jq_32, jq_60, jq_84, jq_1000, jq_2436, jq_20001, w3]
    · refine ⟨nI (jn_sm (jb_c N) (jb_n N)), hx, hm, ?_, ?_, I⟩
      · rw [d108, e108_0]
        simp (disch := omega) only [jx_bI_s, jx_bL_s, jx_bV_s, eq_self, true_or, or_true, jx_if_t, jx_if_f, jq_b0, jq_b1, jq_bb, jq_b01, jx_if_in, jx_if_lt, jx_if_nlt, jx_if_le, jx_if_nle, jq_eqp, jq_eqn, nI_clamp, nI_add, pk_sub, pk_mul, jn_and, jn_or, jn_xor, jq_andn, jq_shl1, jq_bit, jq_mn, jq_mx, cond_true, cond_false, jq_jt, jq_jf, jq_e1, jq_e2, jq_e3, jq_e4, Bool.not_true, Bool.not_false, jq_0, jq_1, jq_2, jq_3, jq_4, jq_5, jq_6, jq_8, jq_12, jq_16, jq_20, jq_21, jq_24, jq_30, jq_32, jq_60, jq_84, jq_1000, jq_2436, jq_20001, dm_priceX w x]
      · rw [d180, e180_0]
        simp (disch := omega) only [jx_bI_s, jx_bL_s, jx_bV_s, eq_self, true_or, or_true, jx_if_t, jx_if_f, jq_b0, jq_b1, jq_bb, jq_b01, jx_if_in, jx_if_lt, jx_if_nlt, jx_if_le, jx_if_nle, jq_eqp, jq_eqn, nI_clamp, nI_add, pk_sub, pk_mul, jn_and, jn_or, jn_xor, jq_andn, jq_shl1, jq_bit, jq_mn, jq_mx, cond_true, cond_false, jq_jt, jq_jf, jq_e1, jq_e2, jq_e3, jq_e4, Bool.not_true, Bool.not_false, jq_0, jq_1, jq_2, jq_3, jq_4, jq_5, jq_6, jq_8, jq_12, jq_16, jq_20, jq_21, jq_24, jq_30, jq_32, jq_60, jq_84, jq_1000, jq_2436, jq_20001, dm_allR (n := jb_n N) (by omega) m.2.1, dm_priceM w m, jb_pr_all]
    · refine ⟨hm.1 30 0 16, hx, hm, ?_, ?_, I⟩
      · rw [d108, e108_0]
        simp (disch := omega) only [jx_bI_s, jx_bL_s, jx_bV_s, eq_self, true_or, or_true, jx_if_t, jx_if_f, jq_b0, jq_b1, jq_bb, jq_b01, jx_if_in, jx_if_lt, jx_if_nlt, jx_if_le, jx_if_nle, jq_eqp, jq_eqn, nI_clamp, nI_add, pk_sub, pk_mul, jn_and, jn_or, jn_xor, jq_andn, jq_shl1, jq_bit, jq_mn, jq_mx, cond_true, cond_false, jq_jt, jq_jf, jq_e1, jq_e2, jq_e3, jq_e4, Bool.not_true, Bool.not_false, jq_0, jq_1, jq_2, jq_3, jq_4, jq_5, jq_6, jq_8, jq_12, jq_16, jq_20, jq_21, jq_24, jq_30, jq_32, jq_60, jq_84, jq_1000, jq_2436, jq_20001, I.2.2.2.2.2.1]
      · rw [d180, e180_0]
        simp (disch := omega) only [jx_bI_s, jx_bL_s, jx_bV_s, eq_self, true_or, or_true, jx_if_t, jx_if_f, jq_b0, jq_b1, jq_bb, jq_b01, jx_if_in, jx_if_lt, jx_if_nlt, jx_if_le, jx_if_nle, jq_eqp, jq_eqn, nI_clamp, nI_add, pk_sub, pk_mul, jn_and, jn_or, jn_xor, jq_andn, jq_shl1, jq_bit, jq_mn, jq_mx, cond_true, cond_false, jq_jt, jq_jf, jq_e1, jq_e2, jq_e3, jq_e4, Bool.not_true, Bool.not_false, jq_0, jq_1, jq_2, jq_3, jq_4, jq_5, jq_6, jq_8, jq_12, jq_16, jq_20, jq_21, jq_24, jq_30, jq_32, jq_60, jq_84, jq_1000, jq_2436, jq_20001]
end
