/-! ===== layer 2: Plan.read ===== -/
theorem jp_fr.rf {h : jx_H} (z : jb_zero h) : jp_fr h h := ⟨fun _ _ => rfl, fun c h1 h2 => by
  obtain ⟨z1, z2, z3, z4⟩ := z
  rcases (show c = 15 ∨ c = 16 ∨ c = 17 ∨ c = 18 by omega) with rfl | rfl | rfl | rfl
  · exact z1
  · exact z2
  · exact z3
  · exact z4⟩
theorem jp_fr.SX {h h' : jx_H} (f : jp_fr h h') : jb_SX h h' := ⟨fun c hc => f.1 c (fun k => hc (by unfold jb_sx; omega)), fun _ => ⟨f.2 15 (by decide) (by decide), f.2 16 (by decide) (by decide), f.2 17 (by decide) (by decide), f.2 18 (by decide) (by decide)⟩⟩
section
variable {d : Nat} {h0 : jx_H} {N : jb_N}
/-- single posts begin with nothing -/
def jp_Z (h : jx_H) (i : Nat) : Prop := ∀ q, q < i → h.1 15 0 (2 ^ q) = nI 0 ∧ h.1 16 0 (2 ^ q) = nI 0 ∧ h.1 17 0 (2 ^ q) = nI 0
theorem dm_rp1 (w : jb_wf N) : ∀ (k i : Nat) (h : jx_H), i + k = jb_p N → jp_fr h0 h → jp_H h N → jp_Z h i → ∃ h', F39_2 (DM d) (nI i) h = F39_45 (DM d) (nI 0) h' ∧ jp_fr h0 h' ∧ jp_H h' N ∧ jp_Z h' (jb_p N) := by
  have hp := w.1
  intro k
  induction k with
  | zero =>
    intro i h hi f H Z
    refine ⟨h, ?_, f, H, by rw [← hi]; exact Z⟩
    rw [e39_2, H.1]
    simp (disch := omega) only [jx_bI_s, jx_bL_s, jx_bV_s, eq_self, true_or, or_true, jx_if_t, jx_if_f, jq_b0, jq_b1, jq_bb, jq_b01, jx_if_in, jx_if_lt, jx_if_nlt, jx_if_le, jx_if_nle, jq_eqp, jq_eqn, nI_clamp, nI_add, pk_sub, pk_mul, jn_and, jn_or, jn_xor, jq_andn, jq_shl1, jq_bit, jq_mn, jq_mx, cond_true, cond_false, jq_jt, jq_jf, jq_e1, jq_e2, jq_e3, jq_e4, Bool.not_true, Bool.not_false, jq_0, jq_1, jq_2, jq_3, jq_4, jq_5, jq_6, jq_8, jq_12, jq_16, jq_20, jq_21, jq_24, jq_30, jq_32, jq_60, jq_84, jq_1000, jq_2436, jq_20001]
  | succ k ih =>
    intro i h hi f H Z
    have h2 := jn_p8 hp (jn_2lt (show i < jb_p N by omega))
    have h3 := Nat.two_pow_pos i
    have Z' : jp_Z (jx_sI (jx_sI (jx_sI h 15 0 (2 ^ i) (nI 0)) 16 0 (2 ^ i) (nI 0)) 17 0 (2 ^ i) (nI 0)) (i + 1) := by
      intro q hq
      by_cases e : q = i
      · subst e
        exact ⟨by rw [jx_sk (by decide), jx_sk (by decide), jx_ss], by rw [jx_sk (by decide), jx_ss], jx_ss⟩
      · have ne : 2 ^ q ≠ 2 ^ i := fun k => e (jn_2inj k)
        obtain ⟨z1, z2, z3⟩ := Z q (by omega)
        exact ⟨by rw [jx_sp ne, jx_sp ne, jx_sp ne]; exact z1, by rw [jx_sp ne, jx_sp ne, jx_sp ne]; exact z2, by rw [jx_sp ne, jx_sp ne, jx_sp ne]; exact z3⟩
    obtain ⟨h', a1, a2, a3, a4⟩ := ih (i + 1) _ (by omega) (((f.set (v := nI 0) (c := 15) (p := 2 ^ i) (by decide) (by omega)).set (v := nI 0) (c := 16) (p := 2 ^ i) (by decide) (by omega)).set (v := nI 0) (c := 17) (p := 2 ^ i) (by decide) (by omega)) (((H.set (by decide)).set (by decide)).set (by decide)) Z'
    refine ⟨h', ?_, a2, a3, a4⟩
    rw [e39_2, H.1]
    simp (disch := omega) only [jx_bI_s, jx_bL_s, jx_bV_s, eq_self, true_or, or_true, jx_if_t, jx_if_f, jq_b0, jq_b1, jq_bb, jq_b01, jx_if_in, jx_if_lt, jx_if_nlt, jx_if_le, jx_if_nle, jq_eqp, jq_eqn, nI_clamp, nI_add, pk_sub, pk_mul, jn_and, jn_or, jn_xor, jq_andn, jq_shl1, jq_bit, jq_mn, jq_mx, cond_true, cond_false, jq_jt, jq_jf, jq_e1, jq_e2, jq_e3, jq_e4, Bool.not_true, Bool.not_false, jq_0, jq_1, jq_2, jq_3, jq_4, jq_5, jq_6, jq_8, jq_12, jq_16, jq_20, jq_21, jq_24, jq_30, jq_32, jq_60, jq_84, jq_1000, jq_2436, jq_20001, e39_19, e39_28, e39_37]
    exact a1
theorem jp_X_of {h h' : jx_H} (f : jp_fr h h') (x : jb_X h 0 N) : jb_X h' 0 N := x.kept (fun c h1 h2 => by rw [f.1 c (by omega)])
theorem dm_rp2 (w : jb_wf N) (x : jb_X h0 0 N) : ∀ (k i : Nat) (h : jx_H), i + k = jb_n N → jp_fr h0 h → jp_H h N → jp_Q h N i → ∃ h', F39_45 (DM d) (nI i) h = some ([], h') ∧ jp_fr h0 h' ∧ jp_H h' N ∧ jp_Q h' N (jb_n N) := by
  have hp := w.1
  have hn := w.2.1
  intro k
  induction k with
  | zero =>
    intro i h hi f H Q
    refine ⟨h, ?_, f, H, by rw [← hi]; exact Q⟩
    rw [e39_45, H.2.1]
    simp (disch := omega) only [jx_bI_s, jx_bL_s, jx_bV_s, eq_self, true_or, or_true, jx_if_t, jx_if_f, jq_b0, jq_b1, jq_bb, jq_b01, jx_if_in, jx_if_lt, jx_if_nlt, jx_if_le, jx_if_nle, jq_eqp, jq_eqn, nI_clamp, nI_add, pk_sub, pk_mul, jn_and, jn_or, jn_xor, jq_andn, jq_shl1, jq_bit, jq_mn, jq_mx, cond_true, cond_false, jq_jt, jq_jf, jq_e1, jq_e2, jq_e3, jq_e4, Bool.not_true, Bool.not_false, jq_0, jq_1, jq_2, jq_3, jq_4, jq_5, jq_6, jq_8, jq_12, jq_16, jq_20, jq_21, jq_24, jq_30, jq_32, jq_60, jq_84, jq_1000, jq_2436, jq_20001]
  | succ k ih =>
    intro i h hi f H Q
    have hin : i < jb_n N := by omega
    obtain ⟨w1, w2, w3, _⟩ := w.2.2 i hin
    obtain ⟨x1, x2, _⟩ := (jp_X_of f x).2.2.2 i hin
    have h2 := jn_p8 hp (jn_2lt w1)
    have h3 := jn_p8 hp (jn_2lt w2)
    have h4 := Nat.two_pow_pos (jb_f N i)
    have h5 := Nat.two_pow_pos (jb_s N i)
    have ne : 2 ^ jb_s N i ≠ 2 ^ jb_f N i := fun e => w3 (jn_2inj e).symm
    have Q' := jp_Q_step w hin Q
    rw [e39_45, H.2.1]
    cases ht : jb_t N
    · rw [ht, cond_false] at Q'
      obtain ⟨h', a1, a2, a3, a4⟩ := ih (i + 1) _ (by omega) ((((f.set (c := 15) (p := 2 ^ jb_f N i) (by decide) (by omega)).set (c := 16) (p := 2 ^ jb_s N i) (by decide) (by omega)).set (c := 17) (p := 2 ^ jb_f N i) (by decide) (by omega)).set (c := 17) (p := 2 ^ jb_s N i) (by decide) (by omega)) ((((H.set (by decide)).set (by decide)).set (by decide)).set (by decide)) Q'
      refine ⟨h', ?_, a2, a3, a4⟩
      simp (disch := omega) only [jx_bI_s, jx_bL_s, jx_bV_s, eq_self, true_or, or_true, jx_if_t, jx_if_f, jq_b0, jq_b1, jq_bb, jq_b01, jx_if_in, jx_if_lt, jx_if_nlt, jx_if_le, jx_if_nle, jq_eqp, jq_eqn, nI_clamp, nI_add, pk_sub, pk_mul, jn_and, jn_or, jn_xor, jq_andn, jq_shl1, jq_bit, jq_mn, jq_mx, cond_true, cond_false, jq_jt, jq_jf, jq_e1, jq_e2, jq_e3, jq_e4, Bool.not_true, Bool.not_false, jq_0, jq_1, jq_2, jq_3, jq_4, jq_5, jq_6, jq_8, jq_12, jq_16, jq_20, jq_21, jq_24, jq_30, jq_32, jq_60, jq_84, jq_1000, jq_2436, jq_20001, e39_62, e39_72, e39_84, e39_97, e39_108, e39_126, x1, x2, H.2.2.1, ht, jx_sk, jx_sp, jx_ss]
      exact a1
    · rw [ht, cond_true] at Q'
      obtain ⟨h', a1, a2, a3, a4⟩ := ih (i + 1) _ (by omega) (((f.set (c := 15) (p := 2 ^ jb_f N i) (by decide) (by omega)).set (c := 16) (p := 2 ^ jb_s N i) (by decide) (by omega)).set (c := 17) (p := 2 ^ jb_f N i) (by decide) (by omega)) (((H.set (by decide)).set (by decide)).set (by decide)) Q'
      refine ⟨h', ?_, a2, a3, a4⟩
      simp (disch := omega) only [jx_bI_s, jx_bL_s, jx_bV_s, eq_self, true_or, or_true, jx_if_t, jx_if_f, jq_b0, jq_b1, jq_bb, jq_b01, jx_if_in, jx_if_lt, jx_if_nlt, jx_if_le, jx_if_nle, jq_eqp, jq_eqn, nI_clamp, nI_add, pk_sub, pk_mul, jn_and, jn_or, jn_xor, jq_andn, jq_shl1, jq_bit, jq_mn, jq_mx, cond_true, cond_false, jq_jt, jq_jf, jq_e1, jq_e2, jq_e3, jq_e4, Bool.not_true, Bool.not_false, jq_0, jq_1, jq_2, jq_3, jq_4, jq_5, jq_6, jq_8, jq_12, jq_16, jq_20, jq_21, jq_24, jq_30, jq_32, jq_60, jq_84, jq_1000, jq_2436, jq_20001, e39_62, e39_72, e39_84, e39_97, e39_108, e39_126, x1, x2, H.2.2.1, ht, jx_sk, jx_sp, jx_ss]
      exact a1
/-- rows below i, and those of single posts -/
def jp_K (h : jx_H) (N : jb_N) (i : Nat) : Prop := ∀ X, X < 2 ^ jb_p N → (X < i ∨ ∃ q, X = 2 ^ q) → jp_T h N X ∧ (X < i → h.1 18 0 X = nI (jp_cu N X))
theorem jp_st_lt (N : jb_N) (X : Nat) : jp_st N X < 2 ^ jb_n N := jn_mk_lt _ _
theorem jp_en_lt (N : jb_N) (X : Nat) : jp_en N X < 2 ^ jb_n N := jn_mk_lt _ _
theorem jp_cu_lt (N : jb_N) (X : Nat) : jp_cu N X < 2 ^ jb_n N := jn_mk_lt _ _
theorem jp_nr_lt (N : jb_N) (X : Nat) : jp_nr N X < 2 ^ jb_p N := jn_mk_lt _ _
theorem dm_rd3 (w : jb_wf N) : ∀ (k i : Nat) (h : jx_H), i + k = 2 ^ jb_p N → 1 ≤ i → jp_fr h0 h → jp_H h N → jp_K h N i → ∃ h', F38_95 (DM d) (nI i) h = some ([], h') ∧ jp_fr h0 h' ∧ jp_H h' N ∧ jp_K h' N (2 ^ jb_p N) := by
  have hp := w.1
  have hn := w.2.1
  have h8 := jn_pow8 hp
  have h20 := jn_pow20 hn
  have h80 := Nat.two_pow_pos (jb_p N)
  intro k
  induction k with
  | zero =>
    intro i h hi h1 f H K
    refine ⟨h, ?_, f, H, by rw [← hi]; exact K⟩
    rw [e38_95, H.2.2.2.1]
    simp (disch := omega) only [jx_bI_s, jx_bL_s, jx_bV_s, eq_self, true_or, or_true, jx_if_t, jx_if_f, jq_b0, jq_b1, jq_bb, jq_b01, jx_if_in, jx_if_lt, jx_if_nlt, jx_if_le, jx_if_nle, jq_eqp, jq_eqn, nI_clamp, nI_add, pk_sub, pk_mul, jn_and, jn_or, jn_xor, jq_andn, jq_shl1, jq_bit, jq_mn, jq_mx, cond_true, cond_false, jq_jt, jq_jf, jq_e1, jq_e2, jq_e3, jq_e4, Bool.not_true, Bool.not_false, jq_0, jq_1, jq_2, jq_3, jq_4, jq_5, jq_6, jq_8, jq_12, jq_16, jq_20, jq_21, jq_24, jq_30, jq_32, jq_60, jq_84, jq_1000, jq_2436, jq_20001]
  | succ k ih =>
    intro i h hi h1 f H K
    obtain ⟨e, q, ei⟩ := jn_low (show 0 < i by omega)
    have hlow := jn_lowI ei (by omega)
    have hx : i ^^^ 2 ^ e = 2 ^ (e + 1) * q := jn_low_x ei
    have he := (jn_low_has ei).1
    have hep : 2 ^ e ≤ i := by omega
    have hep0 := Nat.two_pow_pos e
    have hxl : i ^^^ 2 ^ e < i := by omega
    obtain ⟨⟨s1, s2, s3⟩, _⟩ := K (2 ^ e) (by omega) (Or.inr ⟨e, rfl⟩)
    obtain ⟨⟨t1, t2, t3⟩, _⟩ := K (i ^^^ 2 ^ e) (by omega) (Or.inl hxl)
    have o1 := jp_st_or (N := N) he
    have o2 := jp_en_or (N := N) he
    have o3 := jp_nr_or (N := N) he
    have l1 := jp_st_lt N i
    have l2 := jp_en_lt N i
    have K' : jp_K (jx_sI (jx_sI (jx_sI (jx_sI h 15 0 i (nI (jp_st N i))) 16 0 i (nI (jp_en N i))) 17 0 i (nI (jp_nr N i))) 18 0 i (nI (jp_cu N i))) N (i + 1) := by
      intro X hX hXi
      by_cases eX : X = i
      · subst eX
        exact ⟨⟨by rw [jx_sk (by decide), jx_sk (by decide), jx_sk (by decide), jx_ss], by rw [jx_sk (by decide), jx_sk (by decide), jx_ss], by rw [jx_sk (by decide), jx_ss]⟩, fun _ => jx_ss⟩
      · obtain ⟨⟨z1, z2, z3⟩, z4⟩ := K X hX (hXi.imp (fun k => by omega) id)
        exact ⟨⟨by rw [jx_sp eX, jx_sp eX, jx_sp eX, jx_sp eX]; exact z1, by rw [jx_sp eX, jx_sp eX, jx_sp eX, jx_sp eX]; exact z2, by rw [jx_sp eX, jx_sp eX, jx_sp eX, jx_sp eX]; exact z3⟩, fun k => by rw [jx_sp eX, jx_sp eX, jx_sp eX, jx_sp eX]; exact z4 (by omega)⟩
    obtain ⟨h', a1, a2, a3, a4⟩ := ih (i + 1) _ (by omega) (by omega) ((((f.set (c := 15) (p := i) (v := nI (jp_st N i)) (by decide) (by omega)).set (c := 16) (p := i) (v := nI (jp_en N i)) (by decide) (by omega)).set (c := 17) (p := i) (v := nI (jp_nr N i)) (by decide) (by omega)).set (c := 18) (p := i) (v := nI (jp_cu N i)) (by decide) (by omega)) ((((H.set (by decide)).set (by decide)).set (by decide)).set (by decide)) K'
    refine ⟨h', ?_, a2, a3, a4⟩
    rw [e38_95, H.2.2.2.1]
    cases ht : jb_t N
    · simp (disch := omega) only [jx_bI_s, jx_bL_s, jx_bV_s, eq_self, true_or, or_true, jx_if_t, jx_if_f, jq_b0, jq_b1, jq_bb, jq_b01, jx_if_in, jx_if_lt, jx_if_nlt, jx_if_le, jx_if_nle, jq_eqp, jq_eqn, nI_clamp, nI_add, pk_sub, pk_mul, jn_and, jn_or, jn_xor, jq_andn, jq_shl1, jq_bit, jq_mn, jq_mx, cond_true, cond_false, jq_jt, jq_jf, jq_e1, jq_e2, jq_e3, jq_e4, Bool.not_true, Bool.not_false, jq_0, jq_1, jq_2, jq_3, jq_4, jq_5, jq_6, jq_8, jq_12, jq_16, jq_20, jq_21, jq_24, jq_30, jq_32, jq_60, jq_84, jq_1000, jq_2436, jq_20001, hlow, e38_108, e38_129, e38_150, e38_171, e38_214, e38_215, s1, s2, s3, t1, t2, t3, o1, o2, o3, H.2.2.1, ht, jx_sk, jx_ss, jp_cu_f ht]
      exact a1
    · simp (disch := omega) only [jx_bI_s, jx_bL_s, jx_bV_s, eq_self, true_or, or_true, jx_if_t, jx_if_f, jq_b0, jq_b1, jq_bb, jq_b01, jx_if_in, jx_if_lt, jx_if_nlt, jx_if_le, jx_if_nle, jq_eqp, jq_eqn, nI_clamp, nI_add, pk_sub, pk_mul, jn_and, jn_or, jn_xor, jq_andn, jq_shl1, jq_bit, jq_mn, jq_mx, cond_true, cond_false, jq_jt, jq_jf, jq_e1, jq_e2, jq_e3, jq_e4, Bool.not_true, Bool.not_false, jq_0, jq_1, jq_2, jq_3, jq_4, jq_5, jq_6, jq_8, jq_12, jq_16, jq_20, jq_21, jq_24, jq_30, jq_32, jq_60, jq_84, jq_1000, jq_2436, jq_20001, hlow, e38_108, e38_129, e38_150, e38_171, e38_214, e38_215, s1, s2, s3, t1, t2, t3, o1, o2, o3, H.2.2.1, ht, jx_sk, jx_ss, jp_cu_t ht]
      exact a1
theorem dm_read (w : jb_wf N) (z : jb_zero h0) (x : jb_X h0 0 N) : ∃ h', DM (d + 2) 38 [vr 14 0, vr 1 0] h0 = some ([], h') ∧ jp_fr h0 h' ∧ jp_P h' N := by
  have hp := w.1
  have hn := w.2.1
  have h8 := jn_pow8 hp
  have h80 := Nat.two_pow_pos (jb_p N)
  have h20 := jn_pow20 hn
  obtain ⟨x0, x1, x2, _⟩ := x
  -- the head
  have head : ∃ h1, F38_0 (DM (d + 1)) h0 = F38_88 (DM (d + 1)) h1 ∧ jp_fr h0 h1 ∧ jp_H h1 N := by
    refine ⟨jx_sI (jx_sI (jx_sI (jx_sI (jx_sI (jx_sI (jx_sI h0 14 0 0 (nI (jb_p N))) 14 0 1 (nI (jb_n N))) 14 0 2 (jn_b (jb_t N))) 14 0 3 (nI (2 ^ jb_p N - 1))) 14 0 4 (nI (2 ^ jb_n N - 1))) 14 0 5 (nI (jp_sd N))) 14 0 6 (nI (jp_sh N)), ?_, (((((((jp_fr.rf z).set (by decide) (Or.inl rfl)).set (by decide) (Or.inl rfl)).set (by decide) (Or.inl rfl)).set (by decide) (Or.inl rfl)).set (by decide) (Or.inl rfl)).set (by decide) (Or.inl rfl)).set (by decide) (Or.inl rfl), rfl, rfl, rfl, rfl, rfl, rfl, rfl⟩
    rw [e38_0, x0, e38_8]
    unfold jp_sd jp_sh
    cases ht : jb_t N
    · rw [ht] at x2
      have hdiv : nI (2 ^ jb_p N - 1 + 1) / nI 2 = nI (2 ^ jb_p N / 2) := by
        rw [pk_div (by omega) (by decide) (by decide), Nat.sub_add_cancel (by omega)]
      simp (disch := omega) only [jx_bI_s, jx_bL_s, jx_bV_s, eq_self, true_or, or_true, jx_if_t, jx_if_f, jq_b0, jq_b1, jq_bb, jq_b01, jx_if_in, jx_if_lt, jx_if_nlt, jx_if_le, jx_if_nle, jq_eqp, jq_eqn, nI_clamp, nI_add, pk_sub, pk_mul, jn_and, jn_or, jn_xor, jq_andn, jq_shl1, jq_bit, jq_mn, jq_mx, cond_true, cond_false, jq_jt, jq_jf, jq_e1, jq_e2, jq_e3, jq_e4, Bool.not_true, Bool.not_false, jq_0, jq_1, jq_2, jq_3, jq_4, jq_5, jq_6, jq_8, jq_12, jq_16, jq_20, jq_21, jq_24, jq_30, jq_32, jq_60, jq_84, jq_1000, jq_2436, jq_20001, jx_sk, jx_sp, jx_ss, x1, x2, e38_16, e38_24, e38_35, e38_46, e38_69, e38_72, e38_85, dm_first, hdiv]
    · rw [ht] at x2
      simp (disch := omega) only [jx_bI_s, jx_bL_s, jx_bV_s, eq_self, true_or, or_true, jx_if_t, jx_if_f, jq_b0, jq_b1, jq_bb, jq_b01, jx_if_in, jx_if_lt, jx_if_nlt, jx_if_le, jx_if_nle, jq_eqp, jq_eqn, nI_clamp, nI_add, pk_sub, pk_mul, jn_and, jn_or, jn_xor, jq_andn, jq_shl1, jq_bit, jq_mn, jq_mx, cond_true, cond_false, jq_jt, jq_jf, jq_e1, jq_e2, jq_e3, jq_e4, Bool.not_true, Bool.not_false, jq_0, jq_1, jq_2, jq_3, jq_4, jq_5, jq_6, jq_8, jq_12, jq_16, jq_20, jq_21, jq_24, jq_30, jq_32, jq_60, jq_84, jq_1000, jq_2436, jq_20001, jx_sk, jx_sp, jx_ss, x1, x2, e38_16, e38_24, e38_35, e38_46, e38_69, e38_72, e38_85, dm_first]
  obtain ⟨h1, a1, a2, a3⟩ := head
  obtain ⟨h2, b1, b2, b3, b4⟩ := dm_rp1 (d := d) (h0 := h0) w (jb_p N) 0 h1 (by omega) a2 a3 (fun q hq => by omega)
  have Q0 : jp_Q h2 N 0 := fun q hq => by
    obtain ⟨z1, z2, z3⟩ := b4 q hq
    refine ⟨z1, z2, ?_⟩
    rw [z3, jn_mk_0]
    intro i _
    rfl
  obtain ⟨h3, c1, c2, c3, c4⟩ := dm_rp2 (d := d) (h0 := h0) w ⟨x0, x1, x2, by assumption⟩ (jb_n N) 0 h2 (by omega) b2 b3 Q0
  have K1 : jp_K h3 N 1 := by
    intro X hX hXi
    rcases hXi with hXi | ⟨q, rfl⟩
    · have e0 : X = 0 := by omega
      subst e0
      unfold jp_T
      rw [jp_st0, jp_en0, jp_nr0, jp_cu0]
      exact ⟨⟨c2.2 15 (by decide) (by decide), c2.2 16 (by decide) (by decide), c2.2 17 (by decide) (by decide)⟩, fun _ => c2.2 18 (by decide) (by decide)⟩
    · have hq : q < jb_p N := (Nat.pow_lt_pow_iff_right (by decide)).1 hX
      have := Nat.two_pow_pos q
      exact ⟨c4 q hq, fun k => by omega⟩
  obtain ⟨h4, d1, d2, d3, d4⟩ := dm_rd3 (d := d + 1) (h0 := h0) w (2 ^ jb_p N - 1) 1 h3 (by omega) (by omega) c2 c3 K1
  refine ⟨h4, ?_, d2, d3, fun X hX => ⟨(d4 X hX (Or.inl hX)).1, (d4 X hX (Or.inl hX)).2 hX⟩⟩
  rw [d38, a1, e38_88, d39, e39_0]
  show jx_bV (F39_2 (DM d) (nI 0) h1) _ = _
  rw [b1, c1, jx_bV_s]
  exact d1
end
