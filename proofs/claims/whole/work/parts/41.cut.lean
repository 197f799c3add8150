/-! ===== layer 2: arms, heap, cut ===== -/
theorem jn_miss {p X : Nat} (h : X < 2 ^ p - 1) : ∃ q, q < p ∧ X.testBit q = false := by
  apply Classical.byContradiction
  intro hn
  have e : X = 2 ^ p - 1 := by
    refine jn_ext (n := p) (by omega) (by omega) (fun i hi => ?_)
    rw [jn_all_t]
    cases hb : X.testBit i with
    | true => simp [hi]
    | false => exact absurd ⟨i, hi, hb⟩ hn
  omega
theorem jn_some {X : Nat} (h : 1 ≤ X) : ∃ q, X.testBit q = true := by
  apply Classical.byContradiction
  intro hn
  have e : X = 0 := by
    apply Nat.eq_of_testBit_eq
    intro i
    rw [Nat.zero_testBit]
    cases hb : X.testBit i with
    | false => rfl
    | true => exact absurd ⟨i, hb⟩ hn
  omega
def jn_dn : Nat → Int32
  | 0 => -nI 1
  | i + 1 => nI i
theorem jq_dn (i : Nat) : nI i + -nI 1 = jn_dn i := by
  cases i with
  | zero => rfl
  | succ i => exact pk_m1 i
theorem jq_dn0 (i : Nat) : nI i - nI 1 = jn_dn i := by
  cases i with
  | zero => rfl
  | succ i => exact pk_sub (by omega)
theorem jq_dlt0 {a b : Option jx_R} : jx_if (jn_dn 0 < nI 0) a b = a := jx_ifp (by decide)
section
variable {d : Nat} {h : jx_H} {N : jb_N}
theorem dm_armsX (w : jb_wf N) (P : jp_P h N) {a : Nat} (ha : a < jb_p N) : DM (d + 2) 84 [vr 14 0, vi (nI a)] h = some ([vi (nI (jn_mn (fun X => decide (1 ≤ X) && X.testBit a) (fun X => jb_cu N X (2 ^ jb_n N - 1)) (jb_n N) (2 ^ jb_p N - 1)))], h) := by
  obtain ⟨⟨p0, p1, p2, p3, p4, p5, p6⟩, pT⟩ := P
  have hn := w.2.1
  have hp := w.1
  have h2 := jn_pow8 hp
  have h20 := jn_pow20 hn
  have h4 := jn_2lt ha
  have h5 := Nat.two_pow_pos a
  rw [d84, e84_0, p1]
  refine (jn_loop (fun i => F84_7 (DM (d + 1)) (nI a) (nI (jn_mn (fun X => decide (1 ≤ X) && X.testBit a) (fun X => jb_cu N X (2 ^ jb_n N - 1)) (jb_n N) i)) (nI i) h) (show 1 ≤ 2 ^ jb_p N - 1 by omega) (fun i hi1 hi => ?_)).trans ?_
  · show F84_7 _ _ _ _ _ = F84_7 _ _ _ _ _
    have hm := jn_mn_le0 (ok := fun X => decide (1 ≤ X) && X.testBit a) (c := fun X => jb_cu N X (2 ^ jb_n N - 1)) (v := jb_n N) i
    have hci := jb_cu_le N i (2 ^ jb_n N - 1)
    have hcl := jp_cu_lt N i
    rw [e84_7, p3]
    cases h1 : i.testBit a
    · simp (disch := omega) only [jx_bI_s, jx_bL_s, jx_bV_s, eq_self, true_or, or_true, jx_if_t, jx_if_f, jq_b0, jq_b1, jq_bb, jq_b01, jx_if_in, jx_if_lt, jx_if_nlt, jx_if_le, jx_if_nle, jq_eqp, jq_eqn, nI_clamp, nI_add, pk_sub, pk_mul, jn_and, jn_or, jn_xor, jq_andn, jq_shl1, jq_bit, jq_mn, jq_mx, cond_true, cond_false, jq_jt, jq_jf, jq_e1, jq_e2, jq_e3, jq_e4, Bool.not_true, Bool.not_false, jq_0, jq_1, jq_2, jq_3, jq_4, jq_5, jq_6, jq_8, jq_12, jq_16, jq_20, jq_21, jq_24, jq_30, jq_32, jq_60, jq_84, jq_1000, jq_2436, jq_20001, dm_hasN, h1, e84_37]
      rw [jn_mn_f (by simp [h1])]
    · rw [jn_mn_t (n := i) (by simp [h1]; omega)]
      simp (disch := omega) only [jx_bI_s, jx_bL_s, jx_bV_s, eq_self, true_or, or_true, jx_if_t, jx_if_f, jq_b0, jq_b1, jq_bb, jq_b01, jx_if_in, jx_if_lt, jx_if_nlt, jx_if_le, jx_if_nle, jq_eqp, jq_eqn, nI_clamp, nI_add, pk_sub, pk_mul, jn_and, jn_or, jn_xor, jq_andn, jq_shl1, jq_bit, jq_mn, jq_mx, cond_true, cond_false, jq_jt, jq_jf, jq_e1, jq_e2, jq_e3, jq_e4, Bool.not_true, Bool.not_false, jq_0, jq_1, jq_2, jq_3, jq_4, jq_5, jq_6, jq_8, jq_12, jq_16, jq_20, jq_21, jq_24, jq_30, jq_32, jq_60, jq_84, jq_1000, jq_2436, jq_20001, dm_hasN, h1, e84_37, (pT i (by omega)).2, dm_bc, jb_cu_all hn]
  · show F84_7 _ _ _ _ _ = _
    rw [e84_7, p3, jx_if_nlt (Nat.le_refl _) (by omega)]
theorem jb_hab_le {a b v X : Nat} (hX : X < 2 ^ jb_p N) (h1 : X.testBit a = true) (h2 : X.testBit b = false) : jb_hab N a b v ≤ jb_cu N X (2 ^ jb_n N - 1) := jn_mn_le (ok := fun X => X.testBit a && !X.testBit b) (c := fun X => jb_cu N X (2 ^ jb_n N - 1)) hX (by simp [h1, h2])
theorem jb_hab_n (w : jb_wf N) {a b v : Nat} (ha : a < jb_p N) (e : a ≠ b) : jb_hab N a b v ≤ jb_n N := Nat.le_trans (jb_hab_le (jn_2lt ha) (by rw [jn_2k]; simp) (by rw [jn_2k]; simp [e])) (jb_cu_le _ _ _)
theorem jb_hab_at (w : jb_wf N) {a b : Nat} (ha : a < jb_p N) (e : a ≠ b) : ∃ X, X < 2 ^ jb_p N ∧ X.testBit a = true ∧ X.testBit b = false ∧ jb_hab N a b 21 = jb_cu N X (2 ^ jb_n N - 1) := by
  have hn := w.2.1
  obtain ⟨X, x1, x2, x3⟩ := jn_mn_att (ok := fun X => X.testBit a && !X.testBit b) (c := fun X => jb_cu N X (2 ^ jb_n N - 1)) (v := 21) (n := 2 ^ jb_p N) ⟨2 ^ a, jn_2lt ha, by rw [jn_2k, jn_2k]; simp [e], by have := jb_cu_le N (2 ^ a) (2 ^ jb_n N - 1); omega⟩
  simp only [Bool.and_eq_true, Bool.not_eq_true'] at x2
  exact ⟨X, x1, x2.1, x2.2, x3⟩
theorem dm_armsM (w : jb_wf N) (m : jb_M h N) {a : Nat} (ha : a < jb_p N) : F163_48 (DM (d + 3)) (nI a) (nI 20) (nI 0) h = some ([vi (nI (jn_mn (fun q => decide (q ≠ a)) (fun q => jb_hab N a q 21) 20 (jb_p N)))], h) := by
  have hn := w.2.1
  have hp := w.1
  refine (jn_loop (fun i => F163_48 (DM (d + 3)) (nI a) (nI (jn_mn (fun q => decide (q ≠ a)) (fun q => jb_hab N a q 21) 20 i)) (nI i) h) (Nat.zero_le (jb_p N)) (fun i _ hi => ?_)).trans ?_
  · show F163_48 _ _ _ _ _ = F163_48 _ _ _ _ _
    have hm := jn_mn_le0 (ok := fun q => decide (q ≠ a)) (c := fun q => jb_hab N a q 21) (v := 20) i
    rw [e163_48, m.1]
    by_cases e : i = a
    · rw [jn_mn_f (by simp [e])]
      simp (disch := omega) only [jx_bI_s, jx_bL_s, jx_bV_s, eq_self, true_or, or_true, jx_if_t, jx_if_f, jq_b0, jq_b1, jq_bb, jq_b01, jx_if_in, jx_if_lt, jx_if_nlt, jx_if_le, jx_if_nle, jq_eqp, jq_eqn, nI_clamp, nI_add, pk_sub, pk_mul, jn_and, jn_or, jn_xor, jq_andn, jq_shl1, jq_bit, jq_mn, jq_mx, cond_true, cond_false, jq_jt, jq_jf, jq_e1, jq_e2, jq_e3, jq_e4, Bool.not_true, Bool.not_false, jq_0, jq_1, jq_2, jq_3, jq_4, jq_5, jq_6, jq_8, jq_12, jq_16, jq_20, jq_21, jq_24, jq_30, jq_32, jq_60, jq_84, jq_1000, jq_2436, jq_20001, e163_71, e163_85]
    · rw [jn_mn_t (n := i) (by simp [e])]
      have hl := jb_hab_n w (v := 21) ha (Ne.symm e)
      by_cases hlt : jb_hab N a i 21 < jn_mn (fun q => decide (q ≠ a)) (fun q => jb_hab N a q 21) 20 i
      · simp (disch := omega) only [jx_bI_s, jx_bL_s, jx_bV_s, eq_self, true_or, or_true, jx_if_t, jx_if_f, jq_b0, jq_b1, jq_bb, jq_b01, jx_if_in, jx_if_lt, jx_if_nlt, jx_if_le, jx_if_nle, jq_eqp, jq_eqn, nI_clamp, nI_add, pk_sub, pk_mul, jn_and, jn_or, jn_xor, jq_andn, jq_shl1, jq_bit, jq_mn, jq_mx, cond_true, cond_false, jq_jt, jq_jf, jq_e1, jq_e2, jq_e3, jq_e4, Bool.not_true, Bool.not_false, jq_0, jq_1, jq_2, jq_3, jq_4, jq_5, jq_6, jq_8, jq_12, jq_16, jq_20, jq_21, jq_24, jq_30, jq_32, jq_60, jq_84, jq_1000, jq_2436, jq_20001, e163_71, e163_85, dm_holdM w m ha hi]
        rw [Nat.min_eq_right (by omega)]
      · simp (disch := omega) only [jx_bI_s, jx_bL_s, jx_bV_s, eq_self, true_or, or_true, jx_if_t, jx_if_f, jq_b0, jq_b1, jq_bb, jq_b01, jx_if_in, jx_if_lt, jx_if_nlt, jx_if_le, jx_if_nle, jq_eqp, jq_eqn, nI_clamp, nI_add, pk_sub, pk_mul, jn_and, jn_or, jn_xor, jq_andn, jq_shl1, jq_bit, jq_mn, jq_mx, cond_true, cond_false, jq_jt, jq_jf, jq_e1, jq_e2, jq_e3, jq_e4, Bool.not_true, Bool.not_false, jq_0, jq_1, jq_2, jq_3, jq_4, jq_5, jq_6, jq_8, jq_12, jq_16, jq_20, jq_21, jq_24, jq_30, jq_32, jq_60, jq_84, jq_1000, jq_2436, jq_20001, e163_71, e163_85, dm_holdM w m ha hi]
        rw [Nat.min_eq_left (by omega)]
  · show F163_48 _ _ _ _ _ = _
    rw [e163_48, m.1, jx_if_nlt (Nat.le_refl _) (by omega)]
theorem jb_arms_eq (w : jb_wf N) {a : Nat} (ha : a < jb_p N) (h2 : 2 ≤ jb_p N) : jn_mn (fun X => decide (1 ≤ X) && X.testBit a) (fun X => jb_cu N X (2 ^ jb_n N - 1)) (jb_n N) (2 ^ jb_p N - 1) = jn_mn (fun q => decide (q ≠ a)) (fun q => jb_hab N a q 21) 20 (jb_p N) := by
  have hn := w.2.1
  have ok : ∀ X : Nat, (decide (1 ≤ X) && X.testBit a) = true ↔ X.testBit a = true := fun X => by
    simp only [Bool.and_eq_true, decide_eq_true_eq]
    exact ⟨fun k => k.2, fun k => ⟨jn_has1 k, k⟩⟩
  have hb : ∃ b, b < jb_p N ∧ b ≠ a := by
    by_cases e : a = 0
    · exact ⟨1, by omega, by omega⟩
    · exact ⟨0, by omega, by omega⟩
  obtain ⟨b, b1, b2⟩ := hb
  refine jn_mn_same (fun X h1 h2 => ?_) (fun q h1 h2 => ?_) ⟨2 ^ a, jn_lack (jn_2lt ha) b1 (by rw [jn_2k]; simp [Ne.symm b2]), (ok _).2 (by rw [jn_2k]; simp), jb_cu_le _ _ _⟩ ⟨b, b1, by simpa using b2, Nat.le_trans (jb_hab_n w ha (Ne.symm b2)) hn⟩
  · obtain ⟨q, q1, q2⟩ := jn_miss h1
    have h3 := (ok X).1 h2
    refine ⟨q, q1, ?_, jb_hab_le (by omega) h3 q2⟩
    simp only [decide_eq_true_eq]
    rintro rfl
    rw [h3] at q2
    cases q2
  · have h3 : q ≠ a := by simpa using h2
    obtain ⟨X, x1, x2, x3, x4⟩ := jb_hab_at w ha (Ne.symm h3)
    exact ⟨X, jn_lack x1 h1 x3, (ok X).2 x2, Nat.le_of_eq x4.symm⟩
end
section
variable {d : Nat} {hx hm : jx_H}
theorem jt_28 (I : jb_Inv hx hm) (a : Int32) : jl_g d 83 163 [vi a] hx hm := by
  obtain ⟨N, w, x, m, h', rd, I', x', P⟩ := I.rd d
  have hp := w.1
  cases ha : jb_ip (jb_p N) a
  · refine ⟨-1, _, _, ?_, ?_, I.fd⟩
    · rw [d83, e83_0]
      simp (disch := omega) only [jx_bI_s, jx_bL_s, jx_bV_s, eq_self, true_or, or_true, jx_if_t, jx_if_f, jq_b0, jq_b1, jq_bb, jq_b01, jx_if_in, jx_if_lt, jx_if_nlt, jx_if_le, jx_if_nle, jq_eqp, jq_eqn, nI_clamp, nI_add, pk_sub, pk_mul, jn_and, jn_or, jn_xor, jq_andn, jq_shl1, jq_bit, jq_mn, jq_mx, cond_true, cond_false, jq_jt, jq_jf, jq_e1, jq_e2, jq_e3, jq_e4, Bool.not_true, Bool.not_false, jq_0, jq_1, jq_2, jq_3, jq_4, jq_5, jq_6, jq_8, jq_12, jq_16, jq_20, jq_21, jq_24, jq_30, jq_32, jq_60, jq_84, jq_1000, jq_2436, jq_20001, dm_noPost a x.1, ha, dm_fx]
    · rw [d163, e163_0]
      simp (disch := omega) only [jx_bI_s, jx_bL_s, jx_bV_s, eq_self, true_or, or_true, jx_if_t, jx_if_f, jq_b0, jq_b1, jq_bb, jq_b01, jx_if_in, jx_if_lt, jx_if_nlt, jx_if_le, jx_if_nle, jq_eqp, jq_eqn, nI_clamp, nI_add, pk_sub, pk_mul, jn_and, jn_or, jn_xor, jq_andn, jq_shl1, jq_bit, jq_mn, jq_mx, cond_true, cond_false, jq_jt, jq_jf, jq_e1, jq_e2, jq_e3, jq_e4, Bool.not_true, Bool.not_false, jq_0, jq_1, jq_2, jq_3, jq_4, jq_5, jq_6, jq_8, jq_12, jq_16, jq_20, jq_21, jq_24, jq_30, jq_32, jq_60, jq_84, jq_1000, jq_2436, jq_20001, dm_isPost a m.1, ha, dm_fm]
  · obtain ⟨i, hi, rfl⟩ := jb_ip_t (by omega) ha
    cases ht : jb_t N
    · refine ⟨-4, _, _, ?_, ?_, I.fd⟩
      · rw [d83, e83_0]
        simp (disch := omega) only [jx_bI_s, jx_bL_s, jx_bV_s, eq_self, true_or, or_true, jx_if_t, jx_if_f, jq_b0, jq_b1, jq_bb, jq_b01, jx_if_in, jx_if_lt, jx_if_nlt, jx_if_le, jx_if_nle, jq_eqp, jq_eqn, nI_clamp, nI_add, pk_sub, pk_mul, jn_and, jn_or, jn_xor, jq_andn, jq_shl1, jq_bit, jq_mn, jq_mx, cond_true, cond_false, jq_jt, jq_jf, jq_e1, jq_e2, jq_e3, jq_e4, Bool.not_true, Bool.not_false, jq_0, jq_1, jq_2, jq_3, jq_4, jq_5, jq_6, jq_8, jq_12, jq_16, jq_20, jq_21, jq_24, jq_30, jq_32, jq_60, jq_84, jq_1000, jq_2436, jq_20001, dm_noPost _ x.1, ha, x.2.2.1, ht, dm_fx]
      · rw [d163, e163_0]
        simp (disch := omega) only [jx_bI_s, jx_bL_s, jx_bV_s, eq_self, true_or, or_true, jx_if_t, jx_if_f, jq_b0, jq_b1, jq_bb, jq_b01, jx_if_in, jx_if_lt, jx_if_nlt, jx_if_le, jx_if_nle, jq_eqp, jq_eqn, nI_clamp, nI_add, pk_sub, pk_mul, jn_and, jn_or, jn_xor, jq_andn, jq_shl1, jq_bit, jq_mn, jq_mx, cond_true, cond_false, jq_jt, jq_jf, jq_e1, jq_e2, jq_e3, jq_e4, Bool.not_true, Bool.not_false, jq_0, jq_1, jq_2, jq_3, jq_4, jq_5, jq_6, jq_8, jq_12, jq_16, jq_20, jq_21, jq_24, jq_30, jq_32, jq_60, jq_84, jq_1000, jq_2436, jq_20001, dm_isPost _ m.1, ha, m.2.2.1, ht, dm_fm]
    · by_cases h1 : jb_p N = 1
      · refine ⟨-3, _, _, ?_, ?_, I.fd⟩
        · rw [d83, e83_0]
          simp (disch := omega) only [jx_bI_s, jx_bL_s, jx_bV_s, eq_self, true_or, or_true, jx_if_t, jx_if_f, jq_b0, jq_b1, jq_bb, jq_b01, jx_if_in, jx_if_lt, jx_if_nlt, jx_if_le, jx_if_nle, jq_eqp, jq_eqn, nI_clamp, nI_add, pk_sub, pk_mul, jn_and, jn_or, jn_xor, jq_andn, jq_shl1, jq_bit, jq_mn, jq_mx, cond_true, cond_false, jq_jt, jq_jf, jq_e1, jq_e2, jq_e3, jq_e4, Bool.not_true, Bool.not_false, jq_0, jq_1, jq_2, jq_3, jq_4, jq_5, jq_6, jq_8, jq_12, jq_16, jq_20, jq_21, jq_24, jq_30, jq_32, jq_60, jq_84, jq_1000, jq_2436, jq_20001, dm_noPost _ x.1, ha, x.1, x.2.2.1, ht, dm_fx]
        · rw [d163, e163_0]
          simp (disch := omega) only [jx_bI_s, jx_bL_s, jx_bV_s, eq_self, true_or, or_true, jx_if_t, jx_if_f, jq_b0, jq_b1, jq_bb, jq_b01, jx_if_in, jx_if_lt, jx_if_nlt, jx_if_le, jx_if_nle, jq_eqp, jq_eqn, nI_clamp, nI_add, pk_sub, pk_mul, jn_and, jn_or, jn_xor, jq_andn, jq_shl1, jq_bit, jq_mn, jq_mx, cond_true, cond_false, jq_jt, jq_jf, jq_e1, jq_e2, jq_e3, jq_e4, Bool.not_true, Bool.not_false, jq_0, jq_1, jq_2, jq_3, jq_4, jq_5, jq_6, jq_8, jq_12, jq_16, jq_20, jq_21, jq_24, jq_30, jq_32, jq_60, jq_84, jq_1000, jq_2436, jq_20001, dm_isPost _ m.1, ha, m.2.2.1, ht, m.1, dm_fm]
      · have e := jb_arms_eq w hi (by omega)
        refine ⟨nI (jn_mn (fun q => decide (q ≠ i)) (fun q => jb_hab N i q 21) 20 (jb_p N)), h', hm, ?_, ?_, I'⟩
        · rw [d83, e83_0]
          simp (disch := omega) only [jx_bI_s, jx_bL_s, jx_bV_s, eq_self, true_or, or_true, jx_if_t, jx_if_f, jq_b0, jq_b1, jq_bb, jq_b01, jx_if_in, jx_if_lt, jx_if_nlt, jx_if_le, jx_if_nle, jq_eqp, jq_eqn, nI_clamp, nI_add, pk_sub, pk_mul, jn_and, jn_or, jn_xor, jq_andn, jq_shl1, jq_bit, jq_mn, jq_mx, cond_true, cond_false, jq_jt, jq_jf, jq_e1, jq_e2, jq_e3, jq_e4, Bool.not_true, Bool.not_false, jq_0, jq_1, jq_2, jq_3, jq_4, jq_5, jq_6, jq_8, jq_12, jq_16, jq_20, jq_21, jq_24, jq_30, jq_32, jq_60, jq_84, jq_1000, jq_2436, jq_20001, dm_noPost _ x.1, ha, x.1, x.2.2.1, ht, rd, dm_armsX w P hi, e]
        · rw [d163, e163_0]
          simp (disch := omega) only [jx_bI_s, jx_bL_s, jx_bV_s, eq_self, true_or, or_true, jx_if_t, jx_if_f, jq_b0, jq_b1, jq_bb, jq_b01, jx_if_in, jx_if_lt, jx_if_nlt, jx_if_le, jx_if_nle, jq_eqp, jq_eqn, nI_clamp, nI_add, pk_sub, pk_mul, jn_and, jn_or, jn_xor, jq_andn, jq_shl1, jq_bit, jq_mn, jq_mx, cond_true, cond_false, jq_jt, jq_jf, jq_e1, jq_e2, jq_e3, jq_e4, Bool.not_true, Bool.not_false, jq_0, jq_1, jq_2, jq_3, jq_4, jq_5, jq_6, jq_8, jq_12, jq_16, jq_20, jq_21, jq_24, jq_30, jq_32, jq_60, jq_84, jq_1000, jq_2436, jq_20001, dm_isPost _ m.1, ha, m.2.2.1, ht, m.1, dm_armsM w m hi]
end
/-! heap -/
section
variable {d : Nat} {h : jx_H} {N : jb_N}
/-- the least post of a heap -/
def jb_hp (N : jb_N) (a k v : Nat) : Prop := v ≤ a ∧ (v = a ∨ k ≤ jb_hab N a v 21) ∧ ∀ j, j < v → jb_hab N a j 21 < k
theorem jb_hp_u {a k v v' : Nat} (h1 : jb_hp N a k v) (h2 : jb_hp N a k v') : v = v' := by
  obtain ⟨a1, a2, a3⟩ := h1
  obtain ⟨b1, b2, b3⟩ := h2
  rcases Nat.lt_trichotomy v v' with k1 | k1 | k1
  · have := b3 v k1
    omega
  · exact k1
  · have := a3 v' k1
    omega
theorem dm_heapX (w : jb_wf N) (P : jp_P h N) {a k : Nat} (ha : a < jb_p N) (hk : k < 2 ^ 31) : ∃ v, DM (d + 3) 52 [vr 14 0, vi (nI a), vi (nI k)] h = some ([vi (nI v)], h) ∧ jb_hp N a k v := by
  have hn := w.2.1
  have hp := w.1
  have loop : ∀ q i, i + q = a → (∀ j, j < i → jb_hab N a j 21 < k) → ∃ v, F52_2 (DM (d + 2)) (nI a) (nI k) (nI i) h = some ([vi (nI v)], h) ∧ jb_hp N a k v := by
    intro q
    induction q with
    | zero =>
      intro i hi hl
      refine ⟨a, ?_, Nat.le_refl _, Or.inl rfl, fun j hj => hl j (by omega)⟩
      rw [e52_2]
      simp (disch := omega) only [jx_bI_s, jx_bL_s, jx_bV_s, eq_self, true_or, or_true, jx_if_t, jx_if_f, jq_b0, jq_b1, jq_bb, jq_b01, jx_if_in, jx_if_lt, jx_if_nlt, jx_if_le, jx_if_nle, jq_eqp, jq_eqn, nI_clamp, nI_add, pk_sub, pk_mul, jn_and, jn_or, jn_xor, jq_andn, jq_shl1, jq_bit, jq_mn, jq_mx, cond_true, cond_false, jq_jt, jq_jf, jq_e1, jq_e2, jq_e3, jq_e4, Bool.not_true, Bool.not_false, jq_0, jq_1, jq_2, jq_3, jq_4, jq_5, jq_6, jq_8, jq_12, jq_16, jq_20, jq_21, jq_24, jq_30, jq_32, jq_60, jq_84, jq_1000, jq_2436, jq_20001]
    | succ q ih =>
      intro i hi hl
      have hih := jb_hab_n w (v := 21) ha (show a ≠ i by omega)
      rw [e52_2]
      by_cases e : jb_hab N a i 21 < k
      · obtain ⟨v, v1, v2⟩ := ih (i + 1) (by omega) (fun j hj => by
          by_cases e2 : j = i
          · rw [e2]; exact e
          · exact hl j (by omega))
        refine ⟨v, ?_, v2⟩
        simp (disch := omega) only [jx_bI_s, jx_bL_s, jx_bV_s, eq_self, true_or, or_true, jx_if_t, jx_if_f, jq_b0, jq_b1, jq_bb, jq_b01, jx_if_in, jx_if_lt, jx_if_nlt, jx_if_le, jx_if_nle, jq_eqp, jq_eqn, nI_clamp, nI_add, pk_sub, pk_mul, jn_and, jn_or, jn_xor, jq_andn, jq_shl1, jq_bit, jq_mn, jq_mx, cond_true, cond_false, jq_jt, jq_jf, jq_e1, jq_e2, jq_e3, jq_e4, Bool.not_true, Bool.not_false, jq_0, jq_1, jq_2, jq_3, jq_4, jq_5, jq_6, jq_8, jq_12, jq_16, jq_20, jq_21, jq_24, jq_30, jq_32, jq_60, jq_84, jq_1000, jq_2436, jq_20001, dm_holdX w P ha (show i < jb_p N by omega), jb_hab_eq w ha (show i < jb_p N by omega) (show a ≠ i by omega)]
        exact v1
      · refine ⟨i, ?_, by omega, Or.inr (by omega), hl⟩
        simp (disch := omega) only [jx_bI_s, jx_bL_s, jx_bV_s, eq_self, true_or, or_true, jx_if_t, jx_if_f, jq_b0, jq_b1, jq_bb, jq_b01, jx_if_in, jx_if_lt, jx_if_nlt, jx_if_le, jx_if_nle, jq_eqp, jq_eqn, nI_clamp, nI_add, pk_sub, pk_mul, jn_and, jn_or, jn_xor, jq_andn, jq_shl1, jq_bit, jq_mn, jq_mx, cond_true, cond_false, jq_jt, jq_jf, jq_e1, jq_e2, jq_e3, jq_e4, Bool.not_true, Bool.not_false, jq_0, jq_1, jq_2, jq_3, jq_4, jq_5, jq_6, jq_8, jq_12, jq_16, jq_20, jq_21, jq_24, jq_30, jq_32, jq_60, jq_84, jq_1000, jq_2436, jq_20001, dm_holdX w P ha (show i < jb_p N by omega), jb_hab_eq w ha (show i < jb_p N by omega) (show a ≠ i by omega)]
  rw [d52, e52_0]
  exact loop a 0 (by omega) (fun j hj => by omega)
theorem dm_heapM (w : jb_wf N) (m : jb_M h N) {a k : Nat} (ha : a < jb_p N) (hk : k < 2 ^ 31) : ∃ v, F146_43 (DM (d + 3)) (nI a) (nI k) (nI a) (nI (jb_p N - 1)) h = some ([vi (nI v)], h) ∧ jb_hp N a k v := by
  have hn := w.2.1
  have hp := w.1
  have loop : ∀ i L, i ≤ jb_p N → L ≤ a → (L = a ∨ k ≤ jb_hab N a L 21) → (∀ j, i ≤ j → j < L → jb_hab N a j 21 < k) → ∃ v, F146_43 (DM (d + 3)) (nI a) (nI k) (nI L) (jn_dn i) h = some ([vi (nI v)], h) ∧ jb_hp N a k v := by
    intro i
    induction i with
    | zero =>
      intro L _ h1 h2 h3
      refine ⟨L, ?_, h1, h2, fun j hj => h3 j (by omega) hj⟩
      rw [e146_43, jq_0, jq_dlt0]
    | succ i ih =>
      intro L hi h1 h2 h3
      have st : ∀ L', L' ≤ a → (L' = a ∨ k ≤ jb_hab N a L' 21) → (∀ j, i ≤ j → j < L' → jb_hab N a j 21 < k) → ∃ v, F146_81 (DM (d + 3)) (nI a) (nI k) (nI i) (nI L') h = some ([vi (nI v)], h) ∧ jb_hp N a k v := by
        intro L' a1 a2 a3
        rw [e146_81, jq_1, jq_dn]
        exact ih L' (by omega) a1 a2 a3
      rw [e146_43, show jn_dn (i + 1) = nI i from rfl]
      by_cases e : i = a
      · obtain ⟨v, v1, v2⟩ := st L h1 h2 (fun j k1 k2 => by omega)
        refine ⟨v, ?_, v2⟩
        simp (disch := omega) only [jx_bI_s, jx_bL_s, jx_bV_s, eq_self, true_or, or_true, jx_if_t, jx_if_f, jq_b0, jq_b1, jq_bb, jq_b01, jx_if_in, jx_if_lt, jx_if_nlt, jx_if_le, jx_if_nle, jq_eqp, jq_eqn, nI_clamp, nI_add, pk_sub, pk_mul, jn_and, jn_or, jn_xor, jq_andn, jq_shl1, jq_bit, jq_mn, jq_mx, cond_true, cond_false, jq_jt, jq_jf, jq_e1, jq_e2, jq_e3, jq_e4, Bool.not_true, Bool.not_false, jq_0, jq_1, jq_2, jq_3, jq_4, jq_5, jq_6, jq_8, jq_12, jq_16, jq_20, jq_21, jq_24, jq_30, jq_32, jq_60, jq_84, jq_1000, jq_2436, jq_20001, e146_65]
        exact v1
      · by_cases e2 : jb_hab N a i 21 < k
        · obtain ⟨v, v1, v2⟩ := st L h1 h2 (fun j k1 k2 => by
            by_cases e3 : j = i
            · rw [e3]; exact e2
            · exact h3 j (by omega) k2)
          have hih := jb_hab_n w (v := 21) ha (Ne.symm e)
          refine ⟨v, ?_, v2⟩
          simp (disch := omega) only [jx_bI_s, jx_bL_s, jx_bV_s, eq_self, true_or, or_true, jx_if_t, jx_if_f, jq_b0, jq_b1, jq_bb, jq_b01, jx_if_in, jx_if_lt, jx_if_nlt, jx_if_le, jx_if_nle, jq_eqp, jq_eqn, nI_clamp, nI_add, pk_sub, pk_mul, jn_and, jn_or, jn_xor, jq_andn, jq_shl1, jq_bit, jq_mn, jq_mx, cond_true, cond_false, jq_jt, jq_jf, jq_e1, jq_e2, jq_e3, jq_e4, Bool.not_true, Bool.not_false, jq_0, jq_1, jq_2, jq_3, jq_4, jq_5, jq_6, jq_8, jq_12, jq_16, jq_20, jq_21, jq_24, jq_30, jq_32, jq_60, jq_84, jq_1000, jq_2436, jq_20001, dm_holdM w m ha (show i < jb_p N by omega)]
          exact v1
        · have hih := jb_hab_n w (v := 21) ha (Ne.symm e)
          by_cases e3 : i < L
          · obtain ⟨v, v1, v2⟩ := st i (by omega) (Or.inr (by omega)) (fun j k1 k2 => by omega)
            refine ⟨v, ?_, v2⟩
            simp (disch := omega) only [jx_bI_s, jx_bL_s, jx_bV_s, eq_self, true_or, or_true, jx_if_t, jx_if_f, jq_b0, jq_b1, jq_bb, jq_b01, jx_if_in, jx_if_lt, jx_if_nlt, jx_if_le, jx_if_nle, jq_eqp, jq_eqn, nI_clamp, nI_add, pk_sub, pk_mul, jn_and, jn_or, jn_xor, jq_andn, jq_shl1, jq_bit, jq_mn, jq_mx, cond_true, cond_false, jq_jt, jq_jf, jq_e1, jq_e2, jq_e3, jq_e4, Bool.not_true, Bool.not_false, jq_0, jq_1, jq_2, jq_3, jq_4, jq_5, jq_6, jq_8, jq_12, jq_16, jq_20, jq_21, jq_24, jq_30, jq_32, jq_60, jq_84, jq_1000, jq_2436, jq_20001, dm_holdM w m ha (show i < jb_p N by omega), e146_65]
            exact v1
          · obtain ⟨v, v1, v2⟩ := st L h1 h2 (fun j k1 k2 => by omega)
            refine ⟨v, ?_, v2⟩
            simp (disch := omega) only [jx_bI_s, jx_bL_s, jx_bV_s, eq_self, true_or, or_true, jx_if_t, jx_if_f, jq_b0, jq_b1, jq_bb, jq_b01, jx_if_in, jx_if_lt, jx_if_nlt, jx_if_le, jx_if_nle, jq_eqp, jq_eqn, nI_clamp, nI_add, pk_sub, pk_mul, jn_and, jn_or, jn_xor, jq_andn, jq_shl1, jq_bit, jq_mn, jq_mx, cond_true, cond_false, jq_jt, jq_jf, jq_e1, jq_e2, jq_e3, jq_e4, Bool.not_true, Bool.not_false, jq_0, jq_1, jq_2, jq_3, jq_4, jq_5, jq_6, jq_8, jq_12, jq_16, jq_20, jq_21, jq_24, jq_30, jq_32, jq_60, jq_84, jq_1000, jq_2436, jq_20001, dm_holdM w m ha (show i < jb_p N by omega), e146_65]
            exact v1
  have := loop (jb_p N) a (Nat.le_refl _) (Nat.le_refl _) (Or.inl rfl) (fun j k1 k2 => by omega)
  rw [show jn_dn (jb_p N) = nI (jb_p N - 1) by
    rw [← jq_dn0, pk_sub (by omega)]] at this
  exact this
end
section
variable {d : Nat} {hx hm : jx_H}
theorem jt_17 (I : jb_Inv hx hm) (a k : Int32) : jl_g d 51 146 [vi a, vi k] hx hm := by
  obtain ⟨N, w, x, m, h', rd, I', x', P⟩ := I.rd d
  have hp := w.1
  cases ha : jb_ip (jb_p N) a
  · refine ⟨-1, _, _, ?_, ?_, I.fd⟩
    · rw [d51, e51_0]
      simp (disch := omega) only [jx_bI_s, jx_bL_s, jx_bV_s, eq_self, true_or, or_true, jx_if_t, jx_if_f, jq_b0, jq_b1, jq_bb, jq_b01, jx_if_in, jx_if_lt, jx_if_nlt, jx_if_le, jx_if_nle, jq_eqp, jq_eqn, nI_clamp, nI_add, pk_sub, pk_mul, jn_and, jn_or, jn_xor, jq_andn, jq_shl1, jq_bit, jq_mn, jq_mx, cond_true, cond_false, jq_jt, jq_jf, jq_e1, jq_e2, jq_e3, jq_e4, Bool.not_true, Bool.not_false, jq_0, jq_1, jq_2, jq_3, jq_4, jq_5, jq_6, jq_8, jq_12, jq_16, jq_20, jq_21, jq_24, jq_30, jq_32, jq_60, jq_84, jq_1000, jq_2436, jq_20001, dm_noPost a x.1, ha, e51_13, dm_fx]
    · rw [d146, e146_0]
      simp (disch := omega) only [jx_bI_s, jx_bL_s, jx_bV_s, eq_self, true_or, or_true, jx_if_t, jx_if_f, jq_b0, jq_b1, jq_bb, jq_b01, jx_if_in, jx_if_lt, jx_if_nlt, jx_if_le, jx_if_nle, jq_eqp, jq_eqn, nI_clamp, nI_add, pk_sub, pk_mul, jn_and, jn_or, jn_xor, jq_andn, jq_shl1, jq_bit, jq_mn, jq_mx, cond_true, cond_false, jq_jt, jq_jf, jq_e1, jq_e2, jq_e3, jq_e4, Bool.not_true, Bool.not_false, jq_0, jq_1, jq_2, jq_3, jq_4, jq_5, jq_6, jq_8, jq_12, jq_16, jq_20, jq_21, jq_24, jq_30, jq_32, jq_60, jq_84, jq_1000, jq_2436, jq_20001, dm_isPost a m.1, ha, e146_13, dm_fm]
  · obtain ⟨i, hi, rfl⟩ := jb_ip_t (by omega) ha
    by_cases hk : k < 1
    · refine ⟨-1, _, _, ?_, ?_, I.fd⟩
      · rw [d51, e51_0]
        simp (disch := omega) only [jx_bI_s, jx_bL_s, jx_bV_s, eq_self, true_or, or_true, jx_if_t, jx_if_f, jq_b0, jq_b1, jq_bb, jq_b01, jx_if_in, jx_if_lt, jx_if_nlt, jx_if_le, jx_if_nle, jq_eqp, jq_eqn, nI_clamp, nI_add, pk_sub, pk_mul, jn_and, jn_or, jn_xor, jq_andn, jq_shl1, jq_bit, jq_mn, jq_mx, cond_true, cond_false, jq_jt, jq_jf, jq_e1, jq_e2, jq_e3, jq_e4, Bool.not_true, Bool.not_false, jq_0, jq_1, jq_2, jq_3, jq_4, jq_5, jq_6, jq_8, jq_12, jq_16, jq_20, jq_21, jq_24, jq_30, jq_32, jq_60, jq_84, jq_1000, jq_2436, jq_20001, jx_ifp (show _ < nI 1 from hk), dm_noPost _ x.1, ha, e51_13, dm_fx]
      · rw [d146, e146_0]
        simp (disch := omega) only [jx_bI_s, jx_bL_s, jx_bV_s, eq_self, true_or, or_true, jx_if_t, jx_if_f, jq_b0, jq_b1, jq_bb, jq_b01, jx_if_in, jx_if_lt, jx_if_nlt, jx_if_le, jx_if_nle, jq_eqp, jq_eqn, nI_clamp, nI_add, pk_sub, pk_mul, jn_and, jn_or, jn_xor, jq_andn, jq_shl1, jq_bit, jq_mn, jq_mx, cond_true, cond_false, jq_jt, jq_jf, jq_e1, jq_e2, jq_e3, jq_e4, Bool.not_true, Bool.not_false, jq_0, jq_1, jq_2, jq_3, jq_4, jq_5, jq_6, jq_8, jq_12, jq_16, jq_20, jq_21, jq_24, jq_30, jq_32, jq_60, jq_84, jq_1000, jq_2436, jq_20001, jx_ifp (show _ < nI 1 from hk), dm_isPost _ m.1, ha, e146_13, dm_fm]
    · cases ht : jb_t N
      · obtain ⟨k', hk', rfl⟩ := nI_of (x := k) (fun c => hk (by
          rw [Int32.lt_iff_toInt_lt] at c ⊢
          have e0 : (0 : Int32).toInt = 0 := by decide
          have e1 : (1 : Int32).toInt = 1 := by decide
          omega))
        obtain ⟨v, v1, v2⟩ := dm_heapX (d := d + 36) w P hi hk'
        obtain ⟨u, u1, u2⟩ := dm_heapM (d := d + 36) w m hi hk'
        have e := jb_hp_u v2 u2
        subst e
        refine ⟨nI v, h', hm, ?_, ?_, I'⟩
        · rw [d51, e51_0]
          simp (disch := omega) only [jx_bI_s, jx_bL_s, jx_bV_s, eq_self, true_or, or_true, jx_if_t, jx_if_f, jq_b0, jq_b1, jq_bb, jq_b01, jx_if_in, jx_if_lt, jx_if_nlt, jx_if_le, jx_if_nle, jq_eqp, jq_eqn, nI_clamp, nI_add, pk_sub, pk_mul, jn_and, jn_or, jn_xor, jq_andn, jq_shl1, jq_bit, jq_mn, jq_mx, cond_true, cond_false, jq_jt, jq_jf, jq_e1, jq_e2, jq_e3, jq_e4, Bool.not_true, Bool.not_false, jq_0, jq_1, jq_2, jq_3, jq_4, jq_5, jq_6, jq_8, jq_12, jq_16, jq_20, jq_21, jq_24, jq_30, jq_32, jq_60, jq_84, jq_1000, jq_2436, jq_20001, jx_ifn (show ¬ _ < nI 1 from hk), dm_noPost _ x.1, ha, x.2.2.1, ht, rd, v1]
        · rw [d146, e146_0]
          simp (disch := omega) only [jx_bI_s, jx_bL_s, jx_bV_s, eq_self, true_or, or_true, jx_if_t, jx_if_f, jq_b0, jq_b1, jq_bb, jq_b01, jx_if_in, jx_if_lt, jx_if_nlt, jx_if_le, jx_if_nle, jq_eqp, jq_eqn, nI_clamp, nI_add, pk_sub, pk_mul, jn_and, jn_or, jn_xor, jq_andn, jq_shl1, jq_bit, jq_mn, jq_mx, cond_true, cond_false, jq_jt, jq_jf, jq_e1, jq_e2, jq_e3, jq_e4, Bool.not_true, Bool.not_false, jq_0, jq_1, jq_2, jq_3, jq_4, jq_5, jq_6, jq_8, jq_12, jq_16, jq_20, jq_21, jq_24, jq_30, jq_32, jq_60, jq_84, jq_1000, jq_2436, jq_20001, jx_ifn (show ¬ _ < nI 1 from hk), dm_isPost _ m.1, ha, m.2.2.1, ht, m.1, u1]
      · refine ⟨-8, _, _, ?_, ?_, I.fd⟩
        · rw [d51, e51_0]
          simp (disch := omega) only [jx_bI_s, jx_bL_s, jx_bV_s, eq_self, true_or, or_true, jx_if_t, jx_if_f, jq_b0, jq_b1, jq_bb, jq_b01, jx_if_in, jx_if_lt, jx_if_nlt, jx_if_le, jx_if_nle, jq_eqp, jq_eqn, nI_clamp, nI_add, pk_sub, pk_mul, jn_and, jn_or, jn_xor, jq_andn, jq_shl1, jq_bit, jq_mn, jq_mx, cond_true, cond_false, jq_jt, jq_jf, jq_e1, jq_e2, jq_e3, jq_e4, Bool.not_true, Bool.not_false, jq_0, jq_1, jq_2, jq_3, jq_4, jq_5, jq_6, jq_8, jq_12, jq_16, jq_20, jq_21, jq_24, jq_30, jq_32, jq_60, jq_84, jq_1000, jq_2436, jq_20001, jx_ifn (show ¬ _ < nI 1 from hk), dm_noPost _ x.1, ha, x.2.2.1, ht, dm_fx]
        · rw [d146, e146_0]
          simp (disch := omega) only [jx_bI_s, jx_bL_s, jx_bV_s, eq_self, true_or, or_true, jx_if_t, jx_if_f, jq_b0, jq_b1, jq_bb, jq_b01, jx_if_in, jx_if_lt, jx_if_nlt, jx_if_le, jx_if_nle, jq_eqp, jq_eqn, nI_clamp, nI_add, pk_sub, pk_mul, jn_and, jn_or, jn_xor, jq_andn, jq_shl1, jq_bit, jq_mn, jq_mx, cond_true, cond_false, jq_jt, jq_jf, jq_e1, jq_e2, jq_e3, jq_e4, Bool.not_true, Bool.not_false, jq_0, jq_1, jq_2, jq_3, jq_4, jq_5, jq_6, jq_8, jq_12, jq_16, jq_20, jq_21, jq_24, jq_30, jq_32, jq_60, jq_84, jq_1000, jq_2436, jq_20001, jx_ifn (show ¬ _ < nI 1 from hk), dm_isPost _ m.1, ha, m.2.2.1, ht, dm_fm]
end
