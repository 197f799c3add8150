/-! ===== layer 2: the smallest cut ===== -/
theorem jn_ct_add {f g u v : Nat → Bool} : ∀ n, (∀ i, i < n → (if f i = true then 1 else 0) + (if g i = true then 1 else 0) ≤ (if u i = true then 1 else 0) + (if v i = true then 1 else 0)) → jn_ct f n + jn_ct g n ≤ jn_ct u n + jn_ct v n := by
  intro n
  induction n with
  | zero => intro _; exact Nat.le_refl _
  | succ n ih =>
    intro h
    have h1 := ih (fun i hi => h i (by omega))
    have h2 := h n (by omega)
    simp only [jn_ct]
    omega
theorem jb_sub {N : jb_N} (A B T : Nat) : jb_cu N (A &&& B) T + jb_cu N (A ||| B) T ≤ jb_cu N A T + jb_cu N B T := by
  refine jn_ct_add _ (fun r _ => ?_)
  unfold jb_cb
  simp only [Nat.testBit_and, Nat.testBit_or]
  cases A.testBit (jb_f N r) <;> cases A.testBit (jb_s N r) <;> cases B.testBit (jb_f N r) <;> cases B.testBit (jb_s N r) <;> cases jb_t N <;> cases T.testBit r <;> decide
/-- a set that is a least cut from a to b -/
def jb_q (N : jb_N) (a b X : Nat) : Prop := X < 2 ^ jb_p N ∧ X.testBit a = true ∧ X.testBit b = false ∧ jb_cu N X (2 ^ jb_n N - 1) = jb_hab N a b 21
theorem jb_q_and {N : jb_N} {a b A B : Nat} (h : jb_q N a b A) (k : jb_q N a b B) : jb_q N a b (A &&& B) := by
  obtain ⟨a1, a2, a3, a4⟩ := h
  obtain ⟨b1, b2, b3, b4⟩ := k
  have s := jb_sub (N := N) A B (2 ^ jb_n N - 1)
  have c1 : (A &&& B) < 2 ^ jb_p N := jn_and_lt a1
  have c2 : (A &&& B).testBit a = true := by rw [Nat.testBit_and, a2, b2]; rfl
  have c3 : (A &&& B).testBit b = false := by rw [Nat.testBit_and, a3, b3]; rfl
  have h1 := jb_hab_le (N := N) (v := 21) c1 c2 c3
  have h2 := jb_hab_le (N := N) (v := 21) (X := A ||| B) (a := a) (b := b) (jn_or_lt a1 b1) (by rw [Nat.testBit_or, a2, b2]; rfl) (by rw [Nat.testBit_or, a3, b3]; rfl)
  exact ⟨c1, c2, c3, by omega⟩
section
variable {d : Nat} {h : jx_H} {N : jb_N}
theorem dm_cutX (w : jb_wf N) (P : jp_P h N) {a b : Nat} (ha : a < jb_p N) (hb : b < jb_p N) (ne : a ≠ b) : ∃ C, DM (d + 3) 42 [vr 14 0, vi (nI a), vi (nI b)] h = some ([vi (nI C)], h) ∧ jb_q N a b C ∧ ∀ X, jb_q N a b X → ∀ i, C.testBit i = true → X.testBit i = true := by
  have P0 := P
  obtain ⟨⟨p0, p1, p2, p3, p4, p5, p6⟩, pT⟩ := P
  have hn := w.2.1
  have hp := w.1
  have h2 := jn_pow8 hp
  have h20 := jn_pow20 hn
  have h4 := jn_2lt ha
  have h5 := Nat.two_pow_pos a
  have hH := jb_hab_n w (v := 21) ha ne
  have loop : ∀ k i C, i + k = 2 ^ jb_p N - 1 → 1 ≤ i → ((C = 2 ^ jb_p N - 1 ∧ ∀ X, X < i → ¬ jb_q N a b X) ∨ jb_q N a b C) → (∀ X, X < i → jb_q N a b X → ∀ j, C.testBit j = true → X.testBit j = true) → ∃ C', F42_16 (DM (d + 2)) (nI a) (nI b) (nI (jb_hab N a b 21)) (nI C) (nI i) h = some ([vi (nI C')], h) ∧ jb_q N a b C' ∧ ∀ X, jb_q N a b X → ∀ i, C'.testBit i = true → X.testBit i = true := by
    intro k
    induction k with
    | zero =>
      intro i C hi h1 hC hs
      have hqi : ∀ X, jb_q N a b X → X < i := fun X hX => by
        have := jn_lack hX.1 hb hX.2.2.1
        omega
      refine ⟨C, ?_, ?_, fun X hX => hs X (hqi X hX) hX⟩
      · rw [e42_16, p3]
        simp (disch := omega) only [jx_bI_s, jx_bL_s, jx_bV_s, eq_self, true_or, or_true, jx_if_t, jx_if_f, jq_b0, jq_b1, jq_bb, jq_b01, jx_if_in, jx_if_lt, jx_if_nlt, jx_if_le, jx_if_nle, jq_eqp, jq_eqn, nI_clamp, nI_add, pk_sub, pk_mul, jn_and, jn_or, jn_xor, jq_andn, jq_shl1, jq_bit, jq_mn, jq_mx, cond_true, cond_false, jq_jt, jq_jf, jq_e1, jq_e2, jq_e3, jq_e4, Bool.not_true, Bool.not_false, jq_0, jq_1, jq_2, jq_3, jq_4, jq_5, jq_6, jq_8, jq_12, jq_16, jq_20, jq_21, jq_24, jq_30, jq_32, jq_60, jq_84, jq_1000, jq_2436, jq_20001]
      · rcases hC with ⟨_, hC⟩ | hC
        · obtain ⟨X, x1, x2, x3, x4⟩ := jb_hab_at w ha ne
          have hX : jb_q N a b X := ⟨x1, x2, x3, x4.symm⟩
          exact absurd hX (hC X (hqi X hX))
        · exact hC
    | succ k ih =>
      intro i C hi h1 hC hs
      have hci := jb_cu_le N i (2 ^ jb_n N - 1)
      have hcl := jp_cu_lt N i
      rw [e42_16, p3]
      by_cases q : jb_q N a b i
      · obtain ⟨q1, q2, q3, q4⟩ := q
        have hC' : jb_q N a b (C &&& i) := by
          rcases hC with ⟨rfl, _⟩ | hC
          · rw [show (2 ^ jb_p N - 1) &&& i = i by
              refine jn_ext (n := jb_p N) (jn_and_lt (by omega)) q1 (fun j hj => ?_)
              rw [Nat.testBit_and, jn_all_t]
              simp [hj]]
            exact ⟨q1, q2, q3, q4⟩
          · exact jb_q_and hC ⟨q1, q2, q3, q4⟩
        obtain ⟨C', c1, c2, c3⟩ := ih (i + 1) (C &&& i) (by omega) (by omega) (Or.inr hC') (fun X hX hq j hj => by
          rw [Nat.testBit_and, Bool.and_eq_true] at hj
          by_cases e : X = i
          · rw [e]; exact hj.2
          · exact hs X (by omega) hq j hj.1)
        refine ⟨C', ?_, c2, c3⟩
        simp (disch := omega) only [jx_bI_s, jx_bL_s, jx_bV_s, eq_self, true_or, or_true, jx_if_t, jx_if_f, jq_b0, jq_b1, jq_bb, jq_b01, jx_if_in, jx_if_lt, jx_if_nlt, jx_if_le, jx_if_nle, jq_eqp, jq_eqn, nI_clamp, nI_add, pk_sub, pk_mul, jn_and, jn_or, jn_xor, jq_andn, jq_shl1, jq_bit, jq_mn, jq_mx, cond_true, cond_false, jq_jt, jq_jf, jq_e1, jq_e2, jq_e3, jq_e4, Bool.not_true, Bool.not_false, jq_0, jq_1, jq_2, jq_3, jq_4, jq_5, jq_6, jq_8, jq_12, jq_16, jq_20, jq_21, jq_24, jq_30, jq_32, jq_60, jq_84, jq_1000, jq_2436, jq_20001, dm_hasN, q2, q3, e42_64, (pT i (by omega)).2, dm_bc, jb_cu_all hn, q4]
        exact c1
      · obtain ⟨C', c1, c2, c3⟩ := ih (i + 1) C (by omega) (by omega) (hC.imp (fun hC => ⟨hC.1, fun X hX hq => by
          by_cases e : X = i
          · rw [e] at hq; exact q hq
          · exact hC.2 X (by omega) hq⟩) id) (fun X hX hq j hj => by
          by_cases e : X = i
          · rw [e] at hq; exact absurd hq q
          · exact hs X (by omega) hq j hj)
        refine ⟨C', ?_, c2, c3⟩
        cases q2 : i.testBit a
        · simp (disch := omega) only [jx_bI_s, jx_bL_s, jx_bV_s, eq_self, true_or, or_true, jx_if_t, jx_if_f, jq_b0, jq_b1, jq_bb, jq_b01, jx_if_in, jx_if_lt, jx_if_nlt, jx_if_le, jx_if_nle, jq_eqp, jq_eqn, nI_clamp, nI_add, pk_sub, pk_mul, jn_and, jn_or, jn_xor, jq_andn, jq_shl1, jq_bit, jq_mn, jq_mx, cond_true, cond_false, jq_jt, jq_jf, jq_e1, jq_e2, jq_e3, jq_e4, Bool.not_true, Bool.not_false, jq_0, jq_1, jq_2, jq_3, jq_4, jq_5, jq_6, jq_8, jq_12, jq_16, jq_20, jq_21, jq_24, jq_30, jq_32, jq_60, jq_84, jq_1000, jq_2436, jq_20001, dm_hasN, q2, e42_64]
          exact c1
        · cases q3 : i.testBit b
          · have q4 : jb_cu N i (2 ^ jb_n N - 1) ≠ jb_hab N a b 21 := fun e => q ⟨by omega, q2, q3, e⟩
            simp (disch := omega) only [jx_bI_s, jx_bL_s, jx_bV_s, eq_self, true_or, or_true, jx_if_t, jx_if_f, jq_b0, jq_b1, jq_bb, jq_b01, jx_if_in, jx_if_lt, jx_if_nlt, jx_if_le, jx_if_nle, jq_eqp, jq_eqn, nI_clamp, nI_add, pk_sub, pk_mul, jn_and, jn_or, jn_xor, jq_andn, jq_shl1, jq_bit, jq_mn, jq_mx, cond_true, cond_false, jq_jt, jq_jf, jq_e1, jq_e2, jq_e3, jq_e4, Bool.not_true, Bool.not_false, jq_0, jq_1, jq_2, jq_3, jq_4, jq_5, jq_6, jq_8, jq_12, jq_16, jq_20, jq_21, jq_24, jq_30, jq_32, jq_60, jq_84, jq_1000, jq_2436, jq_20001, dm_hasN, q2, q3, e42_64, (pT i (by omega)).2, dm_bc, jb_cu_all hn, q4]
            exact c1
          · simp (disch := omega) only [jx_bI_s, jx_bL_s, jx_bV_s, eq_self, true_or, or_true, jx_if_t, jx_if_f, jq_b0, jq_b1, jq_bb, jq_b01, jx_if_in, jx_if_lt, jx_if_nlt, jx_if_le, jx_if_nle, jq_eqp, jq_eqn, nI_clamp, nI_add, pk_sub, pk_mul, jn_and, jn_or, jn_xor, jq_andn, jq_shl1, jq_bit, jq_mn, jq_mx, cond_true, cond_false, jq_jt, jq_jf, jq_e1, jq_e2, jq_e3, jq_e4, Bool.not_true, Bool.not_false, jq_0, jq_1, jq_2, jq_3, jq_4, jq_5, jq_6, jq_8, jq_12, jq_16, jq_20, jq_21, jq_24, jq_30, jq_32, jq_60, jq_84, jq_1000, jq_2436, jq_20001, dm_hasN, q2, q3, e42_64]
            exact c1
  rw [d42, e42_0]
  simp (disch := omega) only [jx_bI_s, jx_bL_s, jx_bV_s, eq_self, true_or, or_true, jx_if_t, jx_if_f, jq_b0, jq_b1, jq_bb, jq_b01, jx_if_in, jx_if_lt, jx_if_nlt, jx_if_le, jx_if_nle, jq_eqp, jq_eqn, nI_clamp, nI_add, pk_sub, pk_mul, jn_and, jn_or, jn_xor, jq_andn, jq_shl1, jq_bit, jq_mn, jq_mx, cond_true, cond_false, jq_jt, jq_jf, jq_e1, jq_e2, jq_e3, jq_e4, Bool.not_true, Bool.not_false, jq_0, jq_1, jq_2, jq_3, jq_4, jq_5, jq_6, jq_8, jq_12, jq_16, jq_20, jq_21, jq_24, jq_30, jq_32, jq_60, jq_84, jq_1000, jq_2436, jq_20001, dm_holdX w P0 ha hb, jb_hab_eq w ha hb ne, p3]
  exact loop (2 ^ jb_p N - 2) 1 _ (by omega) (by omega) (Or.inl ⟨rfl, fun X hX hq => by
    have := jn_has1 hq.2.1
    omega⟩) (fun X hX hq => by
    have := jn_has1 hq.2.1
    omega)
theorem jn_pc_sub {x y n : Nat} (hx : x < 2 ^ n) (hy : y < 2 ^ n) (hn : n ≤ 32) (h : ∀ i, x.testBit i = true → y.testBit i = true) (ne : x ≠ y) : jn_pc x < jn_pc y := by
  rw [jn_pc_n hx hn, jn_pc_n hy hn]
  refine jn_ct_mlt n (fun i _ => h i) ?_
  apply Classical.byContradiction
  intro hh
  refine ne (jn_ext hx hy (fun i hi => ?_))
  cases hb : y.testBit i with
  | false =>
    cases ha : x.testBit i with
    | false => rfl
    | true => rw [h i ha] at hb; cases hb
  | true =>
    cases ha : x.testBit i with
    | true => rfl
    | false => exact absurd ⟨i, hi, ha, hb⟩ hh
theorem dm_cutM (w : jb_wf N) (m : jb_M h N) {a b : Nat} (ha : a < jb_p N) (hb : b < jb_p N) (ne : a ≠ b) : ∃ C, F139_50 (DM (d + 3)) (nI a) (nI b) (nI (jb_hab N a b 21)) (nI (2 ^ jb_p N - 1)) (nI 0) h = some ([vi (nI C)], h) ∧ jb_q N a b C ∧ ∀ X, jb_q N a b X → jn_pc C ≤ jn_pc X := by
  have hn := w.2.1
  have hp := w.1
  have h2 := jn_pow8 hp
  have h20 := jn_pow20 hn
  have h4 := jn_2lt ha
  have h5 := Nat.two_pow_pos a
  have hH := jb_hab_n w (v := 21) ha ne
  have loop : ∀ k i C, i + k = 2 ^ jb_p N → C < 2 ^ jb_p N → ((C = 2 ^ jb_p N - 1 ∧ ∀ X, X < i → ¬ jb_q N a b X) ∨ jb_q N a b C) → (∀ X, X < i → jb_q N a b X → jn_pc C ≤ jn_pc X) → ∃ C', F139_50 (DM (d + 3)) (nI a) (nI b) (nI (jb_hab N a b 21)) (nI C) (nI i) h = some ([vi (nI C')], h) ∧ jb_q N a b C' ∧ ∀ X, jb_q N a b X → jn_pc C' ≤ jn_pc X := by
    intro k
    induction k with
    | zero =>
      intro i C hi h1 hC hs
      refine ⟨C, ?_, ?_, fun X hX => hs X (by have := hX.1; omega) hX⟩
      · rw [e139_50]
        simp (disch := omega) only [jx_bI_s, jx_bL_s, jx_bV_s, eq_self, true_or, or_true, jx_if_t, jx_if_f, jq_b0, jq_b1, jq_bb, jq_b01, jx_if_in, jx_if_lt, jx_if_nlt, jx_if_le, jx_if_nle, jq_eqp, jq_eqn, nI_clamp, nI_add, pk_sub, pk_mul, jn_and, jn_or, jn_xor, jq_andn, jq_shl1, jq_bit, jq_mn, jq_mx, cond_true, cond_false, jq_jt, jq_jf, jq_e1, jq_e2, jq_e3, jq_e4, Bool.not_true, Bool.not_false, jq_0, jq_1, jq_2, jq_3, jq_4, jq_5, jq_6, jq_8, jq_12, jq_16, jq_20, jq_21, jq_24, jq_30, jq_32, jq_60, jq_84, jq_1000, jq_2436, jq_20001, dm_all (n := jb_p N) (by omega) m.1]
      · rcases hC with ⟨_, hC⟩ | hC
        · obtain ⟨X, x1, x2, x3, x4⟩ := jb_hab_at w ha ne
          have hX : jb_q N a b X := ⟨x1, x2, x3, x4.symm⟩
          exact absurd hX (hC X (by omega))
        · exact hC
    | succ k ih =>
      intro i C hi h1 hC hs
      have hci := jb_cu_le N i (2 ^ jb_n N - 1)
      have pC := jn_pc_le C
      have pI := jn_pc_le i
      rw [e139_50]
      by_cases q : jb_q N a b i
      · obtain ⟨q1, q2, q3, q4⟩ := q
        by_cases hl : jn_pc i < jn_pc C
        · obtain ⟨C', c1, c2, c3⟩ := ih (i + 1) i (by omega) q1 (Or.inr ⟨q1, q2, q3, q4⟩) (fun X hX hq => by
            by_cases e : X = i
            · rw [e]; exact Nat.le_refl _
            · have := hs X (by omega) hq
              omega)
          refine ⟨C', ?_, c2, c3⟩
          simp (disch := omega) only [jx_bI_s, jx_bL_s, jx_bV_s, eq_self, true_or, or_true, jx_if_t, jx_if_f, jq_b0, jq_b1, jq_bb, jq_b01, jx_if_in, jx_if_lt, jx_if_nlt, jx_if_le, jx_if_nle, jq_eqp, jq_eqn, nI_clamp, nI_add, pk_sub, pk_mul, jn_and, jn_or, jn_xor, jq_andn, jq_shl1, jq_bit, jq_mn, jq_mx, cond_true, cond_false, jq_jt, jq_jf, jq_e1, jq_e2, jq_e3, jq_e4, Bool.not_true, Bool.not_false, jq_0, jq_1, jq_2, jq_3, jq_4, jq_5, jq_6, jq_8, jq_12, jq_16, jq_20, jq_21, jq_24, jq_30, jq_32, jq_60, jq_84, jq_1000, jq_2436, jq_20001, dm_all (n := jb_p N) (by omega) m.1, dm_allR (n := jb_n N) (by omega) m.2.1, m.2.1, dm_cutN w m, dm_inN, dm_countOf, q2, q3, q4, e139_99, e139_100, e139_125, e139_127]
          exact c1
        · have hC' : jb_q N a b C := by
            rcases hC with ⟨rfl, _⟩ | hC
            · refine absurd ?_ hl
              refine jn_pc_sub q1 (by omega) (by omega) (fun j hj => ?_) (fun e => ?_)
              · rw [jn_all_t]
                have := jn_hi q1 hj
                simpa using this
              · have := jn_lack q1 hb q3
                omega
            · exact hC
          obtain ⟨C', c1, c2, c3⟩ := ih (i + 1) C (by omega) h1 (Or.inr hC') (fun X hX hq => by
            by_cases e : X = i
            · rw [e]; omega
            · exact hs X (by omega) hq)
          refine ⟨C', ?_, c2, c3⟩
          simp (disch := omega) only [jx_bI_s, jx_bL_s, jx_bV_s, eq_self, true_or, or_true, jx_if_t, jx_if_f, jq_b0, jq_b1, jq_bb, jq_b01, jx_if_in, jx_if_lt, jx_if_nlt, jx_if_le, jx_if_nle, jq_eqp, jq_eqn, nI_clamp, nI_add, pk_sub, pk_mul, jn_and, jn_or, jn_xor, jq_andn, jq_shl1, jq_bit, jq_mn, jq_mx, cond_true, cond_false, jq_jt, jq_jf, jq_e1, jq_e2, jq_e3, jq_e4, Bool.not_true, Bool.not_false, jq_0, jq_1, jq_2, jq_3, jq_4, jq_5, jq_6, jq_8, jq_12, jq_16, jq_20, jq_21, jq_24, jq_30, jq_32, jq_60, jq_84, jq_1000, jq_2436, jq_20001, dm_all (n := jb_p N) (by omega) m.1, dm_allR (n := jb_n N) (by omega) m.2.1, m.2.1, dm_cutN w m, dm_inN, dm_countOf, q2, q3, q4, e139_99, e139_100, e139_125, e139_127]
          exact c1
      · obtain ⟨C', c1, c2, c3⟩ := ih (i + 1) C (by omega) h1 (hC.imp (fun hC => ⟨hC.1, fun X hX hq => by
          by_cases e : X = i
          · rw [e] at hq; exact q hq
          · exact hC.2 X (by omega) hq⟩) id) (fun X hX hq => by
          by_cases e : X = i
          · rw [e] at hq; exact absurd hq q
          · exact hs X (by omega) hq)
        refine ⟨C', ?_, c2, c3⟩
        cases q2 : i.testBit a
        · simp (disch := omega) only [jx_bI_s, jx_bL_s, jx_bV_s, eq_self, true_or, or_true, jx_if_t, jx_if_f, jq_b0, jq_b1, jq_bb, jq_b01, jx_if_in, jx_if_lt, jx_if_nlt, jx_if_le, jx_if_nle, jq_eqp, jq_eqn, nI_clamp, nI_add, pk_sub, pk_mul, jn_and, jn_or, jn_xor, jq_andn, jq_shl1, jq_bit, jq_mn, jq_mx, cond_true, cond_false, jq_jt, jq_jf, jq_e1, jq_e2, jq_e3, jq_e4, Bool.not_true, Bool.not_false, jq_0, jq_1, jq_2, jq_3, jq_4, jq_5, jq_6, jq_8, jq_12, jq_16, jq_20, jq_21, jq_24, jq_30, jq_32, jq_60, jq_84, jq_1000, jq_2436, jq_20001, dm_all (n := jb_p N) (by omega) m.1, dm_inN, q2, e139_99, e139_100, e139_125, e139_127]
          exact c1
        · cases q3 : i.testBit b
          · have q4 : jb_cu N i (2 ^ jb_n N - 1) ≠ jb_hab N a b 21 := fun e => q ⟨by omega, q2, q3, e⟩
            simp (disch := omega) only [jx_bI_s, jx_bL_s, jx_bV_s, eq_self, true_or, or_true, jx_if_t, jx_if_f, jq_b0, jq_b1, jq_bb, jq_b01, jx_if_in, jx_if_lt, jx_if_nlt, jx_if_le, jx_if_nle, jq_eqp, jq_eqn, nI_clamp, nI_add, pk_sub, pk_mul, jn_and, jn_or, jn_xor, jq_andn, jq_shl1, jq_bit, jq_mn, jq_mx, cond_true, cond_false, jq_jt, jq_jf, jq_e1, jq_e2, jq_e3, jq_e4, Bool.not_true, Bool.not_false, jq_0, jq_1, jq_2, jq_3, jq_4, jq_5, jq_6, jq_8, jq_12, jq_16, jq_20, jq_21, jq_24, jq_30, jq_32, jq_60, jq_84, jq_1000, jq_2436, jq_20001, dm_all (n := jb_p N) (by omega) m.1, dm_allR (n := jb_n N) (by omega) m.2.1, m.2.1, dm_cutN w m, dm_inN, q2, q3, q4, e139_99, e139_100, e139_125, e139_127]
            exact c1
          · simp (disch := omega) only [jx_bI_s, jx_bL_s, jx_bV_s, eq_self, true_or, or_true, jx_if_t, jx_if_f, jq_b0, jq_b1, jq_bb, jq_b01, jx_if_in, jx_if_lt, jx_if_nlt, jx_if_le, jx_if_nle, jq_eqp, jq_eqn, nI_clamp, nI_add, pk_sub, pk_mul, jn_and, jn_or, jn_xor, jq_andn, jq_shl1, jq_bit, jq_mn, jq_mx, cond_true, cond_false, jq_jt, jq_jf, jq_e1, jq_e2, jq_e3, jq_e4, Bool.not_true, Bool.not_false, jq_0, jq_1, jq_2, jq_3, jq_4, jq_5, jq_6, jq_8, jq_12, jq_16, jq_20, jq_21, jq_24, jq_30, jq_32, jq_60, jq_84, jq_1000, jq_2436, jq_20001, dm_all (n := jb_p N) (by omega) m.1, dm_inN, q2, q3, e139_99, e139_100, e139_125, e139_127]
            exact c1
  exact loop (2 ^ jb_p N) 0 _ (by omega) (by omega) (Or.inl ⟨rfl, fun X hX hq => by omega⟩) (fun X hX hq => by omega)
end
section
variable {d : Nat} {hx hm : jx_H}
theorem jt_13 (I : jb_Inv hx hm) (a b : Int32) : jl_g d 41 139 [vi a, vi b] hx hm := by
  obtain ⟨N, w, x, m, h', rd, I', x', P⟩ := I.rd d
  refine jl_two I x.1 w.1 (fun c => ?_) (fun c1 c2 e => ?_) (fun i j hi hj ne e1 e2 => ?_)
  · refine ⟨?_, ?_⟩
    · rw [d41, e41_0, dm_two0 b x.1 c, jx_bI_s, jx_ifn (by decide), dm_fx, jx_bI_s]
    · rw [d139, e139_0, dm_isPost a m.1]
      rcases c with c | c
      · simp (disch := omega) only [jx_bI_s, jx_bL_s, jx_bV_s, eq_self, true_or, or_true, jx_if_t, jx_if_f, jq_b0, jq_b1, jq_bb, jq_b01, jx_if_in, jx_if_lt, jx_if_nlt, jx_if_le, jx_if_nle, jq_eqp, jq_eqn, nI_clamp, nI_add, pk_sub, pk_mul, jn_and, jn_or, jn_xor, jq_andn, jq_shl1, jq_bit, jq_mn, jq_mx, cond_true, cond_false, jq_jt, jq_jf, jq_e1, jq_e2, jq_e3, jq_e4, Bool.not_true, Bool.not_false, jq_0, jq_1, jq_2, jq_3, jq_4, jq_5, jq_6, jq_8, jq_12, jq_16, jq_20, jq_21, jq_24, jq_30, jq_32, jq_60, jq_84, jq_1000, jq_2436, jq_20001, c, e139_16, dm_fm]
      · cases ka : jb_ip (jb_p N) a <;> simp (disch := omega) only [jx_bI_s, jx_bL_s, jx_bV_s, eq_self, true_or, or_true, jx_if_t, jx_if_f, jq_b0, jq_b1, jq_bb, jq_b01, jx_if_in, jx_if_lt, jx_if_nlt, jx_if_le, jx_if_nle, jq_eqp, jq_eqn, nI_clamp, nI_add, pk_sub, pk_mul, jn_and, jn_or, jn_xor, jq_andn, jq_shl1, jq_bit, jq_mn, jq_mx, cond_true, cond_false, jq_jt, jq_jf, jq_e1, jq_e2, jq_e3, jq_e4, Bool.not_true, Bool.not_false, jq_0, jq_1, jq_2, jq_3, jq_4, jq_5, jq_6, jq_8, jq_12, jq_16, jq_20, jq_21, jq_24, jq_30, jq_32, jq_60, jq_84, jq_1000, jq_2436, jq_20001, dm_isPost b m.1, c, e139_16, dm_fm]
  · refine ⟨?_, ?_⟩
    · rw [d41, e41_0, dm_two1 x.1 c1 c2 e, jx_bI_s, jx_ifn (by decide), dm_fx, jx_bI_s]
    · rw [d139, e139_0]
      simp (disch := omega) only [jx_bI_s, jx_bL_s, jx_bV_s, eq_self, true_or, or_true, jx_if_t, jx_if_f, jq_b0, jq_b1, jq_bb, jq_b01, jx_if_in, jx_if_lt, jx_if_nlt, jx_if_le, jx_if_nle, jq_eqp, jq_eqn, nI_clamp, nI_add, pk_sub, pk_mul, jn_and, jn_or, jn_xor, jq_andn, jq_shl1, jq_bit, jq_mn, jq_mx, cond_true, cond_false, jq_jt, jq_jf, jq_e1, jq_e2, jq_e3, jq_e4, Bool.not_true, Bool.not_false, jq_0, jq_1, jq_2, jq_3, jq_4, jq_5, jq_6, jq_8, jq_12, jq_16, jq_20, jq_21, jq_24, jq_30, jq_32, jq_60, jq_84, jq_1000, jq_2436, jq_20001, dm_isPost a m.1, dm_isPost b m.1, c1, c2, jx_ifp e, dm_fm]
  · have k1 := jb_ip_n (p := jb_p N) (by have := w.1; omega) hi
    have k2 := jb_ip_n (p := jb_p N) (by have := w.1; omega) hj
    have hp := w.1
    have h8 := jn_pow8 hp
    obtain ⟨C, c1, c2, c3⟩ := dm_cutX (d := d + 36) w P hi hj ne
    obtain ⟨B, b1, b2, b3⟩ := dm_cutM (d := d + 36) w m hi hj ne
    have e : C = B := by
      apply Classical.byContradiction
      intro hne
      have := jn_pc_sub c2.1 b2.1 (by omega) (c3 B b2) hne
      have := b3 C c2
      omega
    subst e
    refine ⟨nI C, h', hm, ?_, ?_, I'⟩
    · rw [d41, e41_0, dm_two2 x.1 k1 k2 (fun k => ne (jq_inj (by omega) (by omega) k))]
      simp (disch := omega) only [jx_bI_s, jx_bL_s, jx_bV_s, eq_self, true_or, or_true, jx_if_t, jx_if_f, jq_b0, jq_b1, jq_bb, jq_b01, jx_if_in, jx_if_lt, jx_if_nlt, jx_if_le, jx_if_nle, jq_eqp, jq_eqn, nI_clamp, nI_add, pk_sub, pk_mul, jn_and, jn_or, jn_xor, jq_andn, jq_shl1, jq_bit, jq_mn, jq_mx, cond_true, cond_false, jq_jt, jq_jf, jq_e1, jq_e2, jq_e3, jq_e4, Bool.not_true, Bool.not_false, jq_0, jq_1, jq_2, jq_3, jq_4, jq_5, jq_6, jq_8, jq_12, jq_16, jq_20, jq_21, jq_24, jq_30, jq_32, jq_60, jq_84, jq_1000, jq_2436, jq_20001, rd, c1]
    · rw [d139, e139_0]
      simp (disch := omega) only [jx_bI_s, jx_bL_s, jx_bV_s, eq_self, true_or, or_true, jx_if_t, jx_if_f, jq_b0, jq_b1, jq_bb, jq_b01, jx_if_in, jx_if_lt, jx_if_nlt, jx_if_le, jx_if_nle, jq_eqp, jq_eqn, nI_clamp, nI_add, pk_sub, pk_mul, jn_and, jn_or, jn_xor, jq_andn, jq_shl1, jq_bit, jq_mn, jq_mx, cond_true, cond_false, jq_jt, jq_jf, jq_e1, jq_e2, jq_e3, jq_e4, Bool.not_true, Bool.not_false, jq_0, jq_1, jq_2, jq_3, jq_4, jq_5, jq_6, jq_8, jq_12, jq_16, jq_20, jq_21, jq_24, jq_30, jq_32, jq_60, jq_84, jq_1000, jq_2436, jq_20001, dm_isPost _ m.1, k1, k2, dm_holdM w m hi hj, dm_all (n := jb_p N) (by omega) m.1, b1]
end
