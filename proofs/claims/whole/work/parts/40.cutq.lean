/-! ===== layer 2: questions by cuts ===== -/
section
variable {d : Nat} {h : jx_H} {N : jb_N}
/-- the hold from a to b -/
theorem dm_holdX (w : jb_wf N) (P : jp_P h N) {a b : Nat} (ha : a < jb_p N) (hb : b < jb_p N) : DM (d + 2) 40 [vr 14 0, vi (nI a), vi (nI b)] h = some ([vi (nI (jn_mn (fun X => decide (1 ≤ X) && (X.testBit a && !X.testBit b)) (fun X => jb_cu N X (2 ^ jb_n N - 1)) (jb_n N) (2 ^ jb_p N - 1)))], h) := by
  obtain ⟨⟨p0, p1, p2, p3, p4, p5, p6⟩, pT⟩ := P
  have hn := w.2.1
  have hp := w.1
  have h2 := jn_pow8 hp
  have h20 := jn_pow20 hn
  have h4 := jn_2lt ha
  have h5 := Nat.two_pow_pos a
  rw [d40, e40_0, p1]
  refine (jn_loop (fun i => F40_8 (DM (d + 1)) (nI a) (nI b) (nI (jn_mn (fun X => decide (1 ≤ X) && (X.testBit a && !X.testBit b)) (fun X => jb_cu N X (2 ^ jb_n N - 1)) (jb_n N) i)) (nI i) h) (show 1 ≤ 2 ^ jb_p N - 1 by omega) (fun i hi1 hi => ?_)).trans ?_
  · show F40_8 _ _ _ _ _ _ = F40_8 _ _ _ _ _ _
    have hm := jn_mn_le0 (ok := fun X => decide (1 ≤ X) && (X.testBit a && !X.testBit b)) (c := fun X => jb_cu N X (2 ^ jb_n N - 1)) (v := jb_n N) i
    have hci := jb_cu_le N i (2 ^ jb_n N - 1)
    have hcl := jp_cu_lt N i
    rw [e40_8, p3]
    cases h1 : i.testBit a
    · simp (disch := omega) only [jx_bI_s, jx_bL_s, jx_bV_s, eq_self, true_or, or_true, jx_if_t, jx_if_f, jq_b0, jq_b1, jq_bb, jq_b01, jx_if_in, jx_if_lt, jx_if_nlt, jx_if_le, jx_if_nle, jq_eqp, jq_eqn, nI_clamp, nI_add, pk_sub, pk_mul, jn_and, jn_or, jn_xor, jq_andn, jq_shl1, jq_bit, jq_mn, jq_mx, cond_true, cond_false, jq_jt, jq_jf, jq_e1, jq_e2, jq_e3, jq_e4, Bool.not_true, Bool.not_false, jq_0, jq_1, jq_2, jq_3, jq_4, jq_5, jq_6, jq_8, jq_12, jq_16, jq_20, jq_21, jq_24, jq_30, jq_32, jq_60, jq_84, jq_1000, jq_2436, jq_20001, dm_hasN, h1, e40_50]
      rw [jn_mn_f (by simp [h1])]
    · cases h2 : i.testBit b
      · rw [jn_mn_t (n := i) (by simp [h1, h2]; omega)]
        simp (disch := omega) only [jx_bI_s, jx_bL_s, jx_bV_s, eq_self, true_or, or_true, jx_if_t, jx_if_f, jq_b0, jq_b1, jq_bb, jq_b01, jx_if_in, jx_if_lt, jx_if_nlt, jx_if_le, jx_if_nle, jq_eqp, jq_eqn, nI_clamp, nI_add, pk_sub, pk_mul, jn_and, jn_or, jn_xor, jq_andn, jq_shl1, jq_bit, jq_mn, jq_mx, cond_true, cond_false, jq_jt, jq_jf, jq_e1, jq_e2, jq_e3, jq_e4, Bool.not_true, Bool.not_false, jq_0, jq_1, jq_2, jq_3, jq_4, jq_5, jq_6, jq_8, jq_12, jq_16, jq_20, jq_21, jq_24, jq_30, jq_32, jq_60, jq_84, jq_1000, jq_2436, jq_20001, dm_hasN, h1, h2, e40_50, (pT i (by omega)).2, dm_bc, jb_cu_all hn]
      · simp (disch := omega) only [jx_bI_s, jx_bL_s, jx_bV_s, eq_self, true_or, or_true, jx_if_t, jx_if_f, jq_b0, jq_b1, jq_bb, jq_b01, jx_if_in, jx_if_lt, jx_if_nlt, jx_if_le, jx_if_nle, jq_eqp, jq_eqn, nI_clamp, nI_add, pk_sub, pk_mul, jn_and, jn_or, jn_xor, jq_andn, jq_shl1, jq_bit, jq_mn, jq_mx, cond_true, cond_false, jq_jt, jq_jf, jq_e1, jq_e2, jq_e3, jq_e4, Bool.not_true, Bool.not_false, jq_0, jq_1, jq_2, jq_3, jq_4, jq_5, jq_6, jq_8, jq_12, jq_16, jq_20, jq_21, jq_24, jq_30, jq_32, jq_60, jq_84, jq_1000, jq_2436, jq_20001, dm_hasN, h1, h2, e40_50]
        rw [jn_mn_f (by simp [h1, h2])]
  · show F40_8 _ _ _ _ _ _ = _
    rw [e40_8, p3, jx_if_nlt (Nat.le_refl _) (by omega)]
theorem jn_lack {p X b : Nat} (hX : X < 2 ^ p) (hb : b < p) (h : X.testBit b = false) : X < 2 ^ p - 1 := by
  by_cases e : X = 2 ^ p - 1
  · rw [e, jn_all_t] at h
    simp at h
    omega
  · omega
theorem jn_has1 {X a : Nat} (h : X.testBit a = true) : 1 ≤ X := by
  by_cases e : X = 0
  · rw [e, Nat.zero_testBit] at h
    cases h
  · omega
theorem jb_hab_eq (w : jb_wf N) {a b : Nat} (ha : a < jb_p N) (hb : b < jb_p N) (e : a ≠ b) : jn_mn (fun X => decide (1 ≤ X) && (X.testBit a && !X.testBit b)) (fun X => jb_cu N X (2 ^ jb_n N - 1)) (jb_n N) (2 ^ jb_p N - 1) = jb_hab N a b 21 := by
  have hn := w.2.1
  have ok : ∀ X, (decide (1 ≤ X) && (X.testBit a && !X.testBit b)) = true ↔ X.testBit a = true ∧ X.testBit b = false := fun X => by
    simp only [Bool.and_eq_true, decide_eq_true_eq, Bool.not_eq_true']
    exact ⟨fun k => k.2, fun k => ⟨jn_has1 k.1, k⟩⟩
  have ok' : ∀ X : Nat, (X.testBit a && !X.testBit b) = true ↔ X.testBit a = true ∧ X.testBit b = false := fun X => by
    simp only [Bool.and_eq_true, Bool.not_eq_true']
  have two : (2 ^ a).testBit a = true ∧ (2 ^ a).testBit b = false := by
    rw [jn_2k, jn_2k]
    simp [e]
  have l1 := jn_2lt ha
  refine jn_mn_same (fun X h1 h2 => ⟨X, by omega, (ok' X).2 ((ok X).1 h2), Nat.le_refl _⟩) (fun X h1 h2 => ⟨X, jn_lack h1 hb ((ok' X).1 h2).2, (ok X).2 ((ok' X).1 h2), Nat.le_refl _⟩) ⟨2 ^ a, jn_lack l1 hb two.2, (ok _).2 two, jb_cu_le _ _ _⟩ ⟨2 ^ a, l1, (ok' _).2 two, ?_⟩
  have := jb_cu_le N (2 ^ a) (2 ^ jb_n N - 1)
  omega
/-- the hold of all, by sides -/
theorem dm_holdR (w : jb_wf N) (P : jp_P h N) {T : Nat} (hT : T < 2 ^ 31) : DM (d + 2) 44 [vr 14 0, vi (nI T)] h = some ([vi (nI (if jb_p N < 2 then 0 else jn_mn (fun s => decide (1 ≤ s)) (fun s => jb_cu N (jp_X N s) T) (jb_n N) (jp_sd N)))], h) := by
  obtain ⟨⟨p0, p1, p2, p3, p4, p5, p6⟩, pT⟩ := P
  have hn := w.2.1
  have hp := w.1
  have h2 := jn_pow8 hp
  have h20 := jn_pow20 hn
  have hsd := jp_sd_le (N := N)
  rw [d44, e44_0, p0]
  by_cases hp2 : jb_p N < 2
  · rw [if_pos hp2]
    simp (disch := omega) only [jx_bI_s, jx_bL_s, jx_bV_s, eq_self, true_or, or_true, jx_if_t, jx_if_f, jq_b0, jq_b1, jq_bb, jq_b01, jx_if_in, jx_if_lt, jx_if_nlt, jx_if_le, jx_if_nle, jq_eqp, jq_eqn, nI_clamp, nI_add, pk_sub, pk_mul, jn_and, jn_or, jn_xor, jq_andn, jq_shl1, jq_bit, jq_mn, jq_mx, cond_true, cond_false, jq_jt, jq_jf, jq_e1, jq_e2, jq_e3, jq_e4, Bool.not_true, Bool.not_false, jq_0, jq_1, jq_2, jq_3, jq_4, jq_5, jq_6, jq_8, jq_12, jq_16, jq_20, jq_21, jq_24, jq_30, jq_32, jq_60, jq_84, jq_1000, jq_2436, jq_20001]
  rw [if_neg hp2]
  have h4 : 4 ≤ 2 ^ jb_p N := (Nat.pow_le_pow_right (by decide) (by omega) : 2 ^ 2 ≤ 2 ^ jb_p N)
  have hs1 : 1 ≤ jp_sd N := by
    unfold jp_sd
    cases jb_t N <;> simp only [cond_true, cond_false] <;> omega
  rw [p1, show (2 : Int32) = nI 2 from rfl, jx_if_nlt (by omega) (by omega)]
  refine (jn_loop (fun i => F44_17 (DM (d + 1)) (nI T) (nI (jn_mn (fun s => decide (1 ≤ s)) (fun s => jb_cu N (jp_X N s) T) (jb_n N) i)) (nI i) h) hs1 (fun i hi1 hi => ?_)).trans ?_
  · show F44_17 _ _ _ _ _ = F44_17 _ _ _ _ _
    have hm := jn_mn_le0 (ok := fun s => decide (1 ≤ s)) (c := fun s => jb_cu N (jp_X N s) T) (v := jb_n N) i
    have hci := jb_cu_le N (jp_X N i) T
    have hXi := jp_X_in hi1 hi
    have hcl : jp_cu N (jp_X N i) &&& T < 2 ^ 31 := jn_and_lt' hT
    rw [e44_17, p5, p6, jn_mn_t (n := i) (by simp; omega), jp_side_sh hi hp]
    simp (disch := omega) only [jx_bI_s, jx_bL_s, jx_bV_s, eq_self, true_or, or_true, jx_if_t, jx_if_f, jq_b0, jq_b1, jq_bb, jq_b01, jx_if_in, jx_if_lt, jx_if_nlt, jx_if_le, jx_if_nle, jq_eqp, jq_eqn, nI_clamp, nI_add, pk_sub, pk_mul, jn_and, jn_or, jn_xor, jq_andn, jq_shl1, jq_bit, jq_mn, jq_mx, cond_true, cond_false, jq_jt, jq_jf, jq_e1, jq_e2, jq_e3, jq_e4, Bool.not_true, Bool.not_false, jq_0, jq_1, jq_2, jq_3, jq_4, jq_5, jq_6, jq_8, jq_12, jq_16, jq_20, jq_21, jq_24, jq_30, jq_32, jq_60, jq_84, jq_1000, jq_2436, jq_20001, (pT _ (show jp_X N i < 2 ^ jb_p N by omega)).2, dm_bc, jb_cu_pc hn, e44_46]
  · show F44_17 _ _ _ _ _ = _
    rw [e44_17, p5, jx_if_nlt (Nat.le_refl _) (by omega)]
theorem jb_hm_eq (w : jb_wf N) (T : Nat) : (if jb_p N < 2 then 0 else jn_mn (fun s => decide (1 ≤ s)) (fun s => jb_cu N (jp_X N s) T) (jb_n N) (jp_sd N)) = jb_hm N T (if jb_p N < 2 then 0 else 1000) := by
  have hn := w.2.1
  by_cases hp2 : jb_p N < 2
  · rw [if_pos hp2, if_pos hp2]
    have := jn_mn_le0 (ok := fun X => decide (1 ≤ X)) (c := fun X => jb_cu N X T) (v := 0) (2 ^ jb_p N - 1)
    unfold jb_hm
    omega
  · rw [if_neg hp2, if_neg hp2]
    have h4 : 4 ≤ 2 ^ jb_p N := (Nat.pow_le_pow_right (by decide) (by omega) : 2 ^ 2 ≤ 2 ^ jb_p N)
    refine jn_mn_same (fun s h1 h2 => ?_) (fun X h1 h2 => ?_) ?_ ⟨1, by omega, rfl, ?_⟩
    · have h3 : 1 ≤ s := by simpa using h2
      obtain ⟨a1, a2⟩ := jp_X_in h3 h1
      exact ⟨jp_X N s, a2, by simpa using a1, Nat.le_refl _⟩
    · obtain ⟨s, a1, a2, a3⟩ := jp_side w (X := X) (by simpa using h2) h1
      exact ⟨s, a2, by simpa using a1, Nat.le_of_eq (jb_cu_congr a3)⟩
    · obtain ⟨s, a1, a2, a3⟩ := jp_side w (X := 1) (by omega) (by omega)
      exact ⟨s, a2, by simpa using a1, jb_cu_le _ _ _⟩
    · have := jb_cu_le N 1 T
      show jb_cu N 1 T ≤ 1000
      omega
theorem dm_holdRM (w : jb_wf N) (P : jp_P h N) {T : Nat} (hT : T < 2 ^ 31) : DM (d + 2) 44 [vr 14 0, vi (nI T)] h = some ([vi (nI (jb_hm N T (if jb_p N < 2 then 0 else 1000)))], h) := by
  rw [dm_holdR w P hT, jb_hm_eq w T]
end
/-- what a question begins with -/
theorem jb_Inv.rd (d : Nat) {hx hm : jx_H} (I : jb_Inv hx hm) : ∃ N, jb_wf N ∧ jb_X hx 0 N ∧ jb_M hm N ∧ ∃ h', DM (d + 39) 38 [vr 14 0, vr 1 0] hx = some ([], h') ∧ jb_Inv h' hm ∧ jb_X h' 0 N ∧ jp_P h' N := by
  have I0 := I
  obtain ⟨⟨N, w, x, m⟩, r1, r2, r3, r4, r5, z⟩ := I
  obtain ⟨h', a1, a2, a3⟩ := dm_read (d := d + 37) w z x
  exact ⟨N, w, x, m, h', a1, I0.sx a2.SX jb_SM.rf, jp_X_of a2 x, a3⟩
section
variable {d : Nat} {hx hm : jx_H}
theorem jt_12 (I : jb_Inv hx hm) (a b : Int32) : jl_g d 37 133 [vi a, vi b] hx hm := by
  obtain ⟨N, w, x, m, h', rd, I', x', P⟩ := I.rd d
  refine jl_two I x.1 w.1 (fun c => ?_) (fun c1 c2 e => ?_) (fun i j hi hj ne e1 e2 => ?_)
  · refine ⟨?_, ?_⟩
    · rw [d37, e37_0, dm_two0 b x.1 c, jx_bI_s, jx_ifn (by decide), dm_fx, jx_bI_s]
    · rw [d133, e133_0, dm_isPost a m.1]
      rcases c with c | c
      · simp (disch := omega) only [jx_bI_s, jx_bL_s, jx_bV_s, eq_self, true_or, or_true, jx_if_t, jx_if_f, jq_b0, jq_b1, jq_bb, jq_b01, jx_if_in, jx_if_lt, jx_if_nlt, jx_if_le, jx_if_nle, jq_eqp, jq_eqn, nI_clamp, nI_add, pk_sub, pk_mul, jn_and, jn_or, jn_xor, jq_andn, jq_shl1, jq_bit, jq_mn, jq_mx, cond_true, cond_false, jq_jt, jq_jf, jq_e1, jq_e2, jq_e3, jq_e4, Bool.not_true, Bool.not_false, jq_0, jq_2, jq_3, jq_4, jq_5, jq_6, jq_8, jq_12, jq_16, jq_20, jq_21, jq_24, jq_30, jq_32, jq_60, jq_84, jq_1000, jq_2436, jq_20001, c, e133_16, dm_fm]
      · cases ka : jb_ip (jb_p N) a <;> simp (disch := omega) only [jx_bI_s, jx_bL_s, jx_bV_s, eq_self, true_or, or_true, jx_if_t, jx_if_f, jq_b0, jq_b1, jq_bb, jq_b01, jx_if_in, jx_if_lt, jx_if_nlt, jx_if_le, jx_if_nle, jq_eqp, jq_eqn, nI_clamp, nI_add, pk_sub, pk_mul, jn_and, jn_or, jn_xor, jq_andn, jq_shl1, jq_bit, jq_mn, jq_mx, cond_true, cond_false, jq_jt, jq_jf, jq_e1, jq_e2, jq_e3, jq_e4, Bool.not_true, Bool.not_false, jq_0, jq_2, jq_3, jq_4, jq_5, jq_6, jq_8, jq_12, jq_16, jq_20, jq_21, jq_24, jq_30, jq_32, jq_60, jq_84, jq_1000, jq_2436, jq_20001, dm_isPost b m.1, c, e133_16, dm_fm]
  · refine ⟨?_, ?_⟩
    · rw [d37, e37_0, dm_two1 x.1 c1 c2 e, jx_bI_s, jx_ifn (by decide), dm_fx, jx_bI_s]
    · rw [d133, e133_0]
      simp (disch := omega) only [jx_bI_s, jx_bL_s, jx_bV_s, eq_self, true_or, or_true, jx_if_t, jx_if_f, jq_b0, jq_b1, jq_bb, jq_b01, jx_if_in, jx_if_lt, jx_if_nlt, jx_if_le, jx_if_nle, jq_eqp, jq_eqn, nI_clamp, nI_add, pk_sub, pk_mul, jn_and, jn_or, jn_xor, jq_andn, jq_shl1, jq_bit, jq_mn, jq_mx, cond_true, cond_false, jq_jt, jq_jf, jq_e1, jq_e2, jq_e3, jq_e4, Bool.not_true, Bool.not_false, jq_0, jq_2, jq_4, jq_5, jq_6, jq_8, jq_12, jq_16, jq_20, jq_21, jq_24, jq_30, jq_32, jq_60, jq_84, jq_1000, jq_2436, jq_20001, dm_isPost a m.1, dm_isPost b m.1, c1, c2, jx_ifp e, e133_42, dm_fm]
  · have k1 := jb_ip_n (p := jb_p N) (by have := w.1; omega) hi
    have k2 := jb_ip_n (p := jb_p N) (by have := w.1; omega) hj
    have hp := w.1
    refine ⟨nI (jb_hab N i j 21), h', hm, ?_, ?_, I'⟩
    · rw [d37, e37_0, dm_two2 x.1 k1 k2 (fun k => ne (jq_inj (by omega) (by omega) k))]
      simp (disch := omega) only [jx_bI_s, jx_bL_s, jx_bV_s, eq_self, true_or, or_true, jx_if_t, jx_if_f, jq_b0, jq_b1, jq_bb, jq_b01, jx_if_in, jx_if_lt, jx_if_nlt, jx_if_le, jx_if_nle, jq_eqp, jq_eqn, nI_clamp, nI_add, pk_sub, pk_mul, jn_and, jn_or, jn_xor, jq_andn, jq_shl1, jq_bit, jq_mn, jq_mx, cond_true, cond_false, jq_jt, jq_jf, jq_e1, jq_e2, jq_e3, jq_e4, Bool.not_true, Bool.not_false, jq_0, jq_1, jq_2, jq_3, jq_4, jq_5, jq_6, jq_8, jq_12, jq_16, jq_20, jq_21, jq_24, jq_30, jq_32, jq_60, jq_84, jq_1000, jq_2436, jq_20001, rd, dm_holdX w P hi hj, jb_hab_eq w hi hj ne]
    · rw [d133, e133_0]
      simp (disch := omega) only [jx_bI_s, jx_bL_s, jx_bV_s, eq_self, true_or, or_true, jx_if_t, jx_if_f, jq_b0, jq_b1, jq_bb, jq_b01, jx_if_in, jx_if_lt, jx_if_nlt, jx_if_le, jx_if_nle, jq_eqp, jq_eqn, nI_clamp, nI_add, pk_sub, pk_mul, jn_and, jn_or, jn_xor, jq_andn, jq_shl1, jq_bit, jq_mn, jq_mx, cond_true, cond_false, jq_jt, jq_jf, jq_e1, jq_e2, jq_e3, jq_e4, Bool.not_true, Bool.not_false, jq_0, jq_1, jq_2, jq_3, jq_4, jq_5, jq_6, jq_8, jq_12, jq_16, jq_20, jq_21, jq_24, jq_30, jq_32, jq_60, jq_84, jq_1000, jq_2436, jq_20001, dm_isPost _ m.1, k1, k2, dm_holdM w m hi hj, e133_42]
theorem jt_14 (I : jb_Inv hx hm) : jl_g d 43 141 [] hx hm := by
  obtain ⟨N, w, x, m, h', rd, I', x', P⟩ := I.rd d
  have h20 := jn_pow20 w.2.1
  refine ⟨_, h', hm, ?_, dm_netHoldM w m, I'⟩
  rw [d43, e43_0]
  simp (disch := omega) only [jx_bI_s, jx_bL_s, jx_bV_s, eq_self, true_or, or_true, jx_if_t, jx_if_f, jq_b0, jq_b1, jq_bb, jq_b01, jx_if_in, jx_if_lt, jx_if_nlt, jx_if_le, jx_if_nle, jq_eqp, jq_eqn, nI_clamp, nI_add, pk_sub, pk_mul, jn_and, jn_or, jn_xor, jq_andn, jq_shl1, jq_bit, jq_mn, jq_mx, cond_true, cond_false, jq_jt, jq_jf, jq_e1, jq_e2, jq_e3, jq_e4, Bool.not_true, Bool.not_false, jq_0, jq_1, jq_2, jq_3, jq_4, jq_5, jq_6, jq_8, jq_12, jq_16, jq_20, jq_21, jq_24, jq_30, jq_32, jq_60, jq_84, jq_1000, jq_2436, jq_20001, rd, P.1.2.2.2.2.1, dm_holdRM w P]
end
