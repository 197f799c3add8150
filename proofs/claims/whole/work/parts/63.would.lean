/-! ===== layer 2: would ===== -/
def jb_pcb (N : jb_N) (X a b : Nat) : Bool := (X.testBit a != X.testBit b) && (!jb_t N || X.testBit a)
def jb_pp (N : jb_N) (v : Nat → Nat) (X m : Nat) : Nat := jn_ct (fun i => jb_pcb N X (v (2 * i)) (v (2 * i + 1))) m
theorem jp_side2 {N : jb_N} {X : Nat} (h1 : 1 ≤ X) (h2 : X < 2 ^ jb_p N - 1) : ∃ s, 1 ≤ s ∧ s < jp_sd N ∧ ∀ a b, a < jb_p N → b < jb_p N → jb_pcb N (jp_X N s) a b = jb_pcb N X a b := by
  unfold jp_X jp_sd jp_sh
  have hpe : 2 ^ jb_p N = 2 * 2 ^ (jb_p N - 1) := by
    by_cases e : jb_p N = 0
    · rw [e] at h2
      omega
    · rw [show jb_p N = (jb_p N - 1) + 1 by omega, Nat.pow_succ, Nat.mul_comm, Nat.add_sub_cancel]
  cases ht : jb_t N
  · simp only [cond_false]
    cases h0 : X.testBit 0
    · have ev : X % 2 = 0 := by
        rw [Nat.testBit_zero] at h0
        simpa using h0
      refine ⟨X / 2, by omega, by omega, fun a b _ _ => ?_⟩
      rw [show X / 2 * 2 ^ 1 = X by omega]
    · have ho : (jn_df (2 ^ jb_p N - 1) X).testBit 0 = false := by rw [jn_all_df, h0]; simp
      have hl : jn_df (2 ^ jb_p N - 1) X < 2 ^ jb_p N := jn_df_lt (by omega)
      have ev : jn_df (2 ^ jb_p N - 1) X % 2 = 0 := by
        rw [Nat.testBit_zero] at ho
        simpa using ho
      have hne : jn_df (2 ^ jb_p N - 1) X ≠ 0 := by
        intro e
        have : 2 ^ jb_p N - 1 = X := by
          refine jn_ext (n := jb_p N) (by omega) (by omega) (fun i hi => ?_)
          have := jn_all_df (p := jb_p N) (W := X) (x := i)
          rw [e, Nat.zero_testBit] at this
          rw [jn_all_t]
          simp [hi] at this
          simp [hi, this]
        omega
      refine ⟨jn_df (2 ^ jb_p N - 1) X / 2, by omega, by omega, fun a b ha hb => ?_⟩
      rw [show jn_df (2 ^ jb_p N - 1) X / 2 * 2 ^ 1 = jn_df (2 ^ jb_p N - 1) X by omega]
      unfold jb_pcb
      rw [jn_all_df, jn_all_df, ht]
      simp only [ha, hb]
      cases X.testBit a <;> cases X.testBit b <;> rfl
  · simp only [cond_true]
    exact ⟨X, h1, h2, fun a b _ _ => by rw [Nat.pow_zero, Nat.mul_one]⟩
section
variable {d : Nat} {N : jb_N}
theorem dm_withX {h : jx_H} (w : jb_wf N) (P : jp_P h N) {m : Nat} (hm : m ≤ 30) {v : Nat → Nat} (hv : ∀ q, q < 2 * m → v q < jb_p N ∧ h.1 13 0 q = nI (v q)) : DM (d + 2) 98 [vr 14 0, vr 13 0, vi (nI m)] h = some ([vi (nI (if jb_p N < 2 then 0 else jn_mn (fun s => decide (1 ≤ s)) (fun s => jb_cu N (jp_X N s) (2 ^ jb_n N - 1) + jb_pp N v (jp_X N s) m) (jb_n N + m) (jp_sd N)))], h) := by
  obtain ⟨⟨p0, p1, p2, p3, p4, p5, p6⟩, pT⟩ := P
  have hn := w.2.1
  have hp := w.1
  have h2 := jn_pow8 hp
  have h20 := jn_pow20 hn
  have hsd := jp_sd_le (N := N)
  rw [d98, e98_0, p0]
  by_cases hp2 : jb_p N < 2
  · rw [if_pos hp2]
    simp (disch := omega) only [jx_bI_s, jx_bL_s, jx_bV_s, eq_self, true_or, or_true, jx_if_t, jx_if_f, jq_b0, jq_b1, jq_bb, jq_b01, jx_if_in, jx_if_lt, jx_if_nlt, jx_if_le, jx_if_nle, jq_eqp, jq_eqn, nI_clamp, nI_add, pk_sub, pk_mul, jn_and, jn_or, jn_xor, jq_andn, jq_shl1, jq_bit, jq_mn, jq_mx, cond_true, cond_false, jq_jt, jq_jf, jq_e1, jq_e2, jq_e3, jq_e4, Bool.not_true, Bool.not_false, jq_0, jq_1, jq_2, jq_3, jq_4, jq_5, jq_6, jq_8, jq_12, jq_16, jq_20, jq_21, jq_24, jq_30, jq_32, jq_60, jq_84, jq_1000, jq_2436, jq_20001]
  rw [if_neg hp2]
  have h4 : 4 ≤ 2 ^ jb_p N := (Nat.pow_le_pow_right (by decide) (by omega) : 2 ^ 2 ≤ 2 ^ jb_p N)
  have hs1 : 1 ≤ jp_sd N := by
    unfold jp_sd
    cases jb_t N <;> simp only [cond_true, cond_false] <;> omega
  have hppl : ∀ X k, jb_pp N v X k ≤ k := fun X k => jn_ct_le _ _
  rw [p1, show (2 : Int32) = nI 2 from rfl, jx_if_nlt (by omega) (by omega), e98_17, nI_add]
  refine (jn_loop (fun i => F98_20 (DM (d + 1)) (nI m) (nI (jn_mn (fun s => decide (1 ≤ s)) (fun s => jb_cu N (jp_X N s) (2 ^ jb_n N - 1) + jb_pp N v (jp_X N s) m) (jb_n N + m) i)) (nI i) h) hs1 (fun i hi1 hi => ?_)).trans ?_
  · show F98_20 _ _ _ _ _ = F98_20 _ _ _ _ _
    have hml := jn_mn_le0 (ok := fun s => decide (1 ≤ s)) (c := fun s => jb_cu N (jp_X N s) (2 ^ jb_n N - 1) + jb_pp N v (jp_X N s) m) (v := jb_n N + m) i
    have hci := jb_cu_le N (jp_X N i) (2 ^ jb_n N - 1)
    have hXi := jp_X_in hi1 hi
    have hcl := jp_cu_lt N (jp_X N i)
    have hpm := hppl (jp_X N i) m
    rw [jn_mn_t (n := i) (by simp; omega)]
    generalize jn_mn (fun s => decide (1 ≤ s)) (fun s => jb_cu N (jp_X N s) (2 ^ jb_n N - 1) + jb_pp N v (jp_X N s) m) (jb_n N + m) i = H at *
    have inner : F98_53 (DM (d + 1)) (nI m) (nI H) (nI i) (nI (jp_X N i)) (nI (jb_cu N (jp_X N i) (2 ^ jb_n N - 1))) (nI 0) h = F98_53 (DM (d + 1)) (nI m) (nI H) (nI i) (nI (jp_X N i)) (nI (jb_cu N (jp_X N i) (2 ^ jb_n N - 1) + jb_pp N v (jp_X N i) m)) (nI m) h := by
      refine jn_loop (fun k => F98_53 (DM (d + 1)) (nI m) (nI H) (nI i) (nI (jp_X N i)) (nI (jb_cu N (jp_X N i) (2 ^ jb_n N - 1) + jb_pp N v (jp_X N i) k)) (nI k) h) (Nat.zero_le m) (fun k _ hk => ?_)
      show F98_53 _ _ _ _ _ _ _ _ = F98_53 _ _ _ _ _ _ _ _
      obtain ⟨a1, a2⟩ := hv (2 * k) (by omega)
      obtain ⟨b1, b2⟩ := hv (2 * k + 1) (by omega)
      rw [e98_53]
      have hk1 := hppl (jp_X N i) k
      have fin0 : jb_pcb N (jp_X N i) (v (2 * k)) (v (2 * k + 1)) = false → F98_117 (DM (d + 1)) (nI m) (nI H) (nI i) (nI (jp_X N i)) (nI (jb_cu N (jp_X N i) (2 ^ jb_n N - 1) + jb_pp N v (jp_X N i) k)) (nI k) h = F98_53 (DM (d + 1)) (nI m) (nI H) (nI i) (nI (jp_X N i)) (nI (jb_cu N (jp_X N i) (2 ^ jb_n N - 1) + jb_pp N v (jp_X N i) (k + 1))) (nI (k + 1)) h := by
        intro hc
        rw [e98_117, nI_1, show jb_pp N v (jp_X N i) (k + 1) = jb_pp N v (jp_X N i) k from (jn_ct_z (f := fun i_1 => jb_pcb N (jp_X N i) (v (2 * i_1)) (v (2 * i_1 + 1))) hc).symm]
      have fin1 : jb_pcb N (jp_X N i) (v (2 * k)) (v (2 * k + 1)) = true → F98_114 (DM (d + 1)) (nI m) (nI H) (nI i) (nI (jp_X N i)) (nI (jb_cu N (jp_X N i) (2 ^ jb_n N - 1) + jb_pp N v (jp_X N i) k)) (nI k) h = F98_53 (DM (d + 1)) (nI m) (nI H) (nI i) (nI (jp_X N i)) (nI (jb_cu N (jp_X N i) (2 ^ jb_n N - 1) + jb_pp N v (jp_X N i) (k + 1))) (nI (k + 1)) h := by
        intro hc
        rw [e98_114, nI_1, e98_117, nI_1, show jb_pp N v (jp_X N i) (k + 1) = jb_pp N v (jp_X N i) k + 1 from (jn_ct_p (f := fun i_1 => jb_pcb N (jp_X N i) (v (2 * i_1)) (v (2 * i_1 + 1))) hc).symm, Nat.add_assoc]
      have hXl : jp_X N i < 2 ^ 31 := by omega
      cases ht : jb_t N <;> cases c1 : (jp_X N i).testBit (v (2 * k)) <;> cases c2 : (jp_X N i).testBit (v (2 * k + 1)) <;> simp (disch := omega) only [jx_bI_s, jx_bL_s, jx_bV_s, eq_self, true_or, or_true, jx_if_t, jx_if_f, jq_b0, jq_b1, jq_bb, jq_b01, jx_if_in, jx_if_lt, jx_if_nlt, jx_if_le, jx_if_nle, jq_eqp, jq_eqn, nI_clamp, nI_add, pk_sub, pk_mul, jn_and, jn_or, jn_xor, jq_andn, jq_shl1, jq_bit, jq_mn, jq_mx, cond_true, cond_false, jq_jt, jq_jf, jq_e1, jq_e2, jq_e3, jq_e4, Bool.not_true, Bool.not_false, jq_0, jq_1, jq_2, jq_3, jq_4, jq_5, jq_6, jq_8, jq_12, jq_16, jq_20, jq_21, jq_24, jq_30, jq_32, jq_60, jq_84, jq_1000, jq_2436, jq_20001, a2, b2, dm_hasN, c1, c2, p2, ht] <;> first | rw [fin0 (by unfold jb_pcb; rw [c1, c2, ht]; rfl)] | rw [fin1 (by unfold jb_pcb; rw [c1, c2, ht]; rfl)]
    rw [e98_20, p5, p6, jp_side_sh hi hp]
    simp (disch := omega) only [jx_bI_s, jx_bL_s, jx_bV_s, eq_self, true_or, or_true, jx_if_t, jx_if_f, jq_b0, jq_b1, jq_bb, jq_b01, jx_if_in, jx_if_lt, jx_if_nlt, jx_if_le, jx_if_nle, jq_eqp, jq_eqn, nI_clamp, nI_add, pk_sub, pk_mul, jn_and, jn_or, jn_xor, jq_andn, jq_shl1, jq_bit, jq_mn, jq_mx, cond_true, cond_false, jq_jt, jq_jf, jq_e1, jq_e2, jq_e3, jq_e4, Bool.not_true, Bool.not_false, jq_0, jq_1, jq_2, jq_3, jq_4, jq_5, jq_6, jq_8, jq_12, jq_16, jq_20, jq_21, jq_24, jq_30, jq_32, jq_60, jq_84, jq_1000, jq_2436, jq_20001, e98_38, (pT _ (show jp_X N i < 2 ^ jb_p N by omega)).2, dm_bc, jb_cu_all hn, inner]
    rw [e98_53]
    simp (disch := omega) only [jx_bI_s, jx_bL_s, jx_bV_s, eq_self, true_or, or_true, jx_if_t, jx_if_f, jq_b0, jq_b1, jq_bb, jq_b01, jx_if_in, jx_if_lt, jx_if_nlt, jx_if_le, jx_if_nle, jq_eqp, jq_eqn, nI_clamp, nI_add, pk_sub, pk_mul, jn_and, jn_or, jn_xor, jq_andn, jq_shl1, jq_bit, jq_mn, jq_mx, cond_true, cond_false, jq_jt, jq_jf, jq_e1, jq_e2, jq_e3, jq_e4, Bool.not_true, Bool.not_false, jq_0, jq_1, jq_2, jq_3, jq_4, jq_5, jq_6, jq_8, jq_12, jq_16, jq_20, jq_21, jq_24, jq_30, jq_32, jq_60, jq_84, jq_1000, jq_2436, jq_20001, e98_130]
  · show F98_20 _ _ _ _ _ = _
    rw [e98_20, p5, jx_if_nlt (Nat.le_refl _) (by omega)]
theorem jb_with_eq (w : jb_wf N) {m : Nat} (hm : m ≤ 30) {v : Nat → Nat} (hv : ∀ q, q < 2 * m → v q < jb_p N) : (if jb_p N < 2 then 0 else jn_mn (fun s => decide (1 ≤ s)) (fun s => jb_cu N (jp_X N s) (2 ^ jb_n N - 1) + jb_pp N v (jp_X N s) m) (jb_n N + m) (jp_sd N)) = jn_mn (fun X => decide (1 ≤ X)) (fun X => jb_cu N X (2 ^ jb_n N - 1) + jb_pp N v X m) (if jb_p N < 2 then 0 else 1000) (2 ^ jb_p N - 1) := by
  have hn := w.2.1
  by_cases hp2 : jb_p N < 2
  · rw [if_pos hp2, if_pos hp2]
    have := jn_mn_le0 (ok := fun X => decide (1 ≤ X)) (c := fun X => jb_cu N X (2 ^ jb_n N - 1) + jb_pp N v X m) (v := 0) (2 ^ jb_p N - 1)
    omega
  · rw [if_neg hp2, if_neg hp2]
    have h4 : 4 ≤ 2 ^ jb_p N := (Nat.pow_le_pow_right (by decide) (by omega) : 2 ^ 2 ≤ 2 ^ jb_p N)
    have hppl : ∀ X, jb_pp N v X m ≤ m := fun X => jn_ct_le _ _
    have side : ∀ X, 1 ≤ X → X < 2 ^ jb_p N - 1 → ∃ s, 1 ≤ s ∧ s < jp_sd N ∧ jb_cu N (jp_X N s) (2 ^ jb_n N - 1) + jb_pp N v (jp_X N s) m = jb_cu N X (2 ^ jb_n N - 1) + jb_pp N v X m := fun X h1 h2 => by
      obtain ⟨s, s1, s2, s3⟩ := jp_side2 h1 h2
      refine ⟨s, s1, s2, ?_⟩
      rw [jb_cu_congr (X := jp_X N s) (Y := X) (fun r hr => s3 _ _ (w.2.2 r hr).1 (w.2.2 r hr).2.1)]
      congr 1
      exact jn_ct_congr _ (fun i hi => s3 _ _ (hv _ (by omega)) (hv _ (by omega)))
    refine jn_mn_same (fun s h1 h2 => ?_) (fun X h1 h2 => ?_) ?_ ⟨1, by omega, rfl, ?_⟩
    · have h3 : 1 ≤ s := by simpa using h2
      obtain ⟨a1, a2⟩ := jp_X_in h3 h1
      exact ⟨jp_X N s, a2, by simpa using a1, Nat.le_refl _⟩
    · obtain ⟨s, a1, a2, a3⟩ := side X (by simpa using h2) h1
      exact ⟨s, a2, by simpa using a1, Nat.le_of_eq a3⟩
    · obtain ⟨s, a1, a2, a3⟩ := side 1 (by omega) (by omega)
      refine ⟨s, a2, by simpa using a1, ?_⟩
      have := jb_cu_le N (jp_X N s) (2 ^ jb_n N - 1)
      have := hppl (jp_X N s)
      show jb_cu N (jp_X N s) (2 ^ jb_n N - 1) + jb_pp N v (jp_X N s) m ≤ _
      omega
    · have := jb_cu_le N 1 (2 ^ jb_n N - 1)
      have := hppl 1
      show jb_cu N 1 (2 ^ jb_n N - 1) + jb_pp N v 1 m ≤ 1000
      omega
/-- the reference asks the pairs that wait -/
theorem dm_askW {h : jx_H} {m p : Nat} {U : Nat → Int32} (hm : m ≤ 30) (hp : h.1 30 0 0 = nI p) (hU : ∀ q, q < 2 * m → h.1 45 0 q = U q) : ((∃ i, i < m ∧ (jb_ip p (U (2 * i)) = false ∨ jb_ip p (U (2 * i + 1)) = false ∨ U (2 * i) = U (2 * i + 1))) ∧ F174_25 (DM (d + 1)) (nI (2 * m)) (nI 0) h = some ([vi (-1)], jx_sI h 30 0 16 (h.1 30 0 16 + 1))) ∨ ((∀ i, i < m → jb_ip p (U (2 * i)) = true ∧ jb_ip p (U (2 * i + 1)) = true ∧ U (2 * i) ≠ U (2 * i + 1)) ∧ F174_25 (DM (d + 1)) (nI (2 * m)) (nI 0) h = F174_89 (DM (d + 1)) (nI (2 * m)) (nI 0) h) := by
  have loop : ∀ (k i : Nat), i + k = m → (∀ j, j < i → jb_ip p (U (2 * j)) = true ∧ jb_ip p (U (2 * j + 1)) = true ∧ U (2 * j) ≠ U (2 * j + 1)) → ((∃ i, i < m ∧ (jb_ip p (U (2 * i)) = false ∨ jb_ip p (U (2 * i + 1)) = false ∨ U (2 * i) = U (2 * i + 1))) ∧ F174_25 (DM (d + 1)) (nI (2 * m)) (nI (2 * i)) h = some ([vi (-1)], jx_sI h 30 0 16 (h.1 30 0 16 + 1))) ∨ ((∀ i, i < m → jb_ip p (U (2 * i)) = true ∧ jb_ip p (U (2 * i + 1)) = true ∧ U (2 * i) ≠ U (2 * i + 1)) ∧ F174_25 (DM (d + 1)) (nI (2 * m)) (nI (2 * i)) h = F174_89 (DM (d + 1)) (nI (2 * m)) (nI 0) h) := by
    intro k
    induction k with
    | zero =>
      intro i hi h1
      refine Or.inr ⟨fun j hj => h1 j (by omega), ?_⟩
      rw [e174_25]
      simp (disch := omega) only [jx_bI_s, jx_bL_s, jx_bV_s, eq_self, true_or, or_true, jx_if_t, jx_if_f, jq_b0, jq_b1, jq_bb, jq_b01, jx_if_in, jx_if_lt, jx_if_nlt, jx_if_le, jx_if_nle, jq_eqp, jq_eqn, nI_clamp, nI_add, pk_sub, pk_mul, jn_and, jn_or, jn_xor, jq_andn, jq_shl1, jq_bit, jq_mn, jq_mx, cond_true, cond_false, jq_jt, jq_jf, jq_e1, jq_e2, jq_e3, jq_e4, Bool.not_true, Bool.not_false, jq_0, jq_1, jq_2, jq_3, jq_4, jq_5, jq_6, jq_8, jq_12, jq_16, jq_20, jq_21, jq_24, jq_30, jq_32, jq_60, jq_84, jq_1000, jq_2436, jq_20001]
    | succ k ih =>
      intro i hi h1
      have u1 := hU (2 * i) (by omega)
      have u2 := hU (2 * i + 1) (by omega)
      rw [e174_25]
      cases c1 : jb_ip p (U (2 * i))
      · refine Or.inl ⟨⟨i, by omega, Or.inl c1⟩, ?_⟩
        simp (disch := omega) only [jx_bI_s, jx_bL_s, jx_bV_s, eq_self, true_or, or_true, jx_if_t, jx_if_f, jq_b0, jq_b1, jq_bb, jq_b01, jx_if_in, jx_if_lt, jx_if_nlt, jx_if_le, jx_if_nle, jq_eqp, jq_eqn, nI_clamp, nI_add, pk_sub, pk_mul, jn_and, jn_or, jn_xor, jq_andn, jq_shl1, jq_bit, jq_mn, jq_mx, cond_true, cond_false, jq_jt, jq_jf, jq_e1, jq_e2, jq_e3, jq_e4, Bool.not_true, Bool.not_false, jq_0, jq_1, jq_2, jq_3, jq_4, jq_5, jq_6, jq_8, jq_12, jq_16, jq_20, jq_21, jq_24, jq_30, jq_32, jq_60, jq_84, jq_1000, jq_2436, jq_20001, u1, dm_isPost _ hp, c1, e174_75, dm_fm]
      · cases c2 : jb_ip p (U (2 * i + 1))
        · refine Or.inl ⟨⟨i, by omega, Or.inr (Or.inl c2)⟩, ?_⟩
          simp (disch := omega) only [jx_bI_s, jx_bL_s, jx_bV_s, eq_self, true_or, or_true, jx_if_t, jx_if_f, jq_b0, jq_b1, jq_bb, jq_b01, jx_if_in, jx_if_lt, jx_if_nlt, jx_if_le, jx_if_nle, jq_eqp, jq_eqn, nI_clamp, nI_add, pk_sub, pk_mul, jn_and, jn_or, jn_xor, jq_andn, jq_shl1, jq_bit, jq_mn, jq_mx, cond_true, cond_false, jq_jt, jq_jf, jq_e1, jq_e2, jq_e3, jq_e4, Bool.not_true, Bool.not_false, jq_0, jq_1, jq_2, jq_3, jq_4, jq_5, jq_6, jq_8, jq_12, jq_16, jq_20, jq_21, jq_24, jq_30, jq_32, jq_60, jq_84, jq_1000, jq_2436, jq_20001, u1, u2, dm_isPost _ hp, c1, c2, e174_75, dm_fm]
        · by_cases c3 : U (2 * i) = U (2 * i + 1)
          · refine Or.inl ⟨⟨i, by omega, Or.inr (Or.inr c3)⟩, ?_⟩
            simp (disch := omega) only [jx_bI_s, jx_bL_s, jx_bV_s, eq_self, true_or, or_true, jx_if_t, jx_if_f, jq_b0, jq_b1, jq_bb, jq_b01, jx_if_in, jx_if_lt, jx_if_nlt, jx_if_le, jx_if_nle, jq_eqp, jq_eqn, nI_clamp, nI_add, pk_sub, pk_mul, jn_and, jn_or, jn_xor, jq_andn, jq_shl1, jq_bit, jq_mn, jq_mx, cond_true, cond_false, jq_jt, jq_jf, jq_e1, jq_e2, jq_e3, jq_e4, Bool.not_true, Bool.not_false, jq_0, jq_1, jq_2, jq_3, jq_4, jq_5, jq_6, jq_8, jq_12, jq_16, jq_20, jq_21, jq_24, jq_30, jq_32, jq_60, jq_84, jq_1000, jq_2436, jq_20001, u1, u2, dm_isPost _ hp, c1, c2, jx_ifp c3, e174_75, dm_fm]
          · have nx : nI (2 * i) + 2 = nI (2 * (i + 1)) := by
              rw [show (2 : Int32) = nI 2 from rfl, nI_add, Nat.mul_add]
            have st : F174_25 (DM (d + 1)) (nI (2 * m)) (nI (2 * i)) h = F174_25 (DM (d + 1)) (nI (2 * m)) (nI (2 * (i + 1))) h := by
              rw [e174_25, nx]
              simp (disch := omega) only [jx_bI_s, jx_bL_s, jx_bV_s, eq_self, true_or, or_true, jx_if_t, jx_if_f, jq_b0, jq_b1, jq_bb, jq_b01, jx_if_in, jx_if_lt, jx_if_nlt, jx_if_le, jx_if_nle, jq_eqp, jq_eqn, nI_clamp, nI_add, pk_sub, pk_mul, jn_and, jn_or, jn_xor, jq_andn, jq_shl1, jq_bit, jq_mn, jq_mx, cond_true, cond_false, jq_jt, jq_jf, jq_e1, jq_e2, jq_e3, jq_e4, Bool.not_true, Bool.not_false, jq_0, jq_1, jq_2, jq_3, jq_4, jq_5, jq_6, jq_8, jq_12, jq_16, jq_20, jq_21, jq_24, jq_30, jq_32, jq_60, jq_84, jq_1000, jq_2436, jq_20001, u1, u2, dm_isPost _ hp, c1, c2, jx_ifn c3]
            rw [← e174_25, st]
            exact ih (i + 1) (by omega) (fun j hj => by
              by_cases e : j = i
              · rw [e]; exact ⟨c1, c2, c3⟩
              · exact h1 j (by omega))
  exact loop m 0 (by omega) (fun q hq => by omega)
theorem dm_layW {h0 : jx_H} {m : Nat} {v : Nat → Nat} (hm : m ≤ 30) (hv : ∀ q, q < 2 * m → h0.1 45 0 q = nI (v q)) : ∀ (k i : Nat) (h : jx_H), i + k = m → (∀ c, c ≠ 33 → c ≠ 34 → h.1 c = h0.1 c) → (∀ r, r < 20 → h.1 33 0 r = h0.1 33 0 r ∧ h.1 34 0 r = h0.1 34 0 r) → (∀ j, j < i → h.1 33 0 (20 + j) = nI (v (2 * j)) ∧ h.1 34 0 (20 + j) = nI (v (2 * j + 1))) → ∃ h', F174_89 (DM (d + 1)) (nI (2 * m)) (nI (2 * i)) h = F174_89 (DM (d + 1)) (nI (2 * m)) (nI (2 * m)) h' ∧ (∀ c, c ≠ 33 → c ≠ 34 → h'.1 c = h0.1 c) ∧ (∀ r, r < 20 → h'.1 33 0 r = h0.1 33 0 r ∧ h'.1 34 0 r = h0.1 34 0 r) ∧ ∀ j, j < m → h'.1 33 0 (20 + j) = nI (v (2 * j)) ∧ h'.1 34 0 (20 + j) = nI (v (2 * j + 1)) := by
  intro k
  induction k with
  | zero =>
    intro i h hi f f2 f3
    have e : i = m := by omega
    subst e
    exact ⟨h, rfl, f, f2, f3⟩
  | succ k ih =>
    intro i h hi f f2 f3
    have v1 : h.1 45 0 (2 * i) = nI (v (2 * i)) := by rw [f 45 (by decide) (by decide)]; exact hv _ (by omega)
    have v2 : h.1 45 0 (2 * i + 1) = nI (v (2 * i + 1)) := by rw [f 45 (by decide) (by decide)]; exact hv _ (by omega)
    have nx : nI (2 * i) + 2 = nI (2 * (i + 1)) := by
      rw [show (2 : Int32) = nI 2 from rfl, nI_add, Nat.mul_add]
    have dv : nI (2 * i) / nI 2 = nI i := by rw [pk_div (by omega) (by decide) (by decide)]; congr 1; omega
    obtain ⟨h', a1, a2, a3, a4⟩ := ih (i + 1) (jx_sI (jx_sI h 33 0 (20 + i) (nI (v (2 * i)))) 34 0 (20 + i) (nI (v (2 * i + 1)))) (by omega) (fun c h1 h2 => by rw [jx_sk h2, jx_sk h1]; exact f c h1 h2) (fun r hr => by
      rw [jx_sk (show 33 ≠ 34 by decide), jx_sp (by omega), jx_sp (by omega), jx_sk (show 34 ≠ 33 by decide)]
      exact f2 r hr) (fun j hj => by
      rw [jx_sk (show 33 ≠ 34 by decide), jx_sv, jx_sv, jx_sk (show 34 ≠ 33 by decide)]
      by_cases e : j = i
      · rw [if_pos (by omega), if_pos (by omega), e]
        exact ⟨rfl, rfl⟩
      · rw [if_neg (by omega), if_neg (by omega)]
        exact f3 j (by omega))
    refine ⟨h', ?_, a2, a3, a4⟩
    rw [e174_89, nx]
    simp (disch := omega) only [jx_bI_s, jx_bL_s, jx_bV_s, eq_self, true_or, or_true, jx_if_t, jx_if_f, jq_b0, jq_b1, jq_bb, jq_b01, jx_if_in, jx_if_lt, jx_if_nlt, jx_if_le, jx_if_nle, jq_eqp, jq_eqn, nI_clamp, nI_add, pk_sub, pk_mul, jn_and, jn_or, jn_xor, jq_andn, jq_shl1, jq_bit, jq_mn, jq_mx, cond_true, cond_false, jq_jt, jq_jf, jq_e1, jq_e2, jq_e3, jq_e4, Bool.not_true, Bool.not_false, jq_0, jq_1, jq_2, jq_3, jq_4, jq_5, jq_6, jq_8, jq_12, jq_16, jq_20, jq_21, jq_24, jq_30, jq_32, jq_60, jq_84, jq_1000, jq_2436, jq_20001, dv, v1, v2]
    exact a1
end
theorem jt_33 {d : Nat} {hx hm : jx_H} (I : jb_Inv hx hm) : jl_g d 97 174 [] hx hm := by
  obtain ⟨len, l60, w2, w3, w4⟩ := I.2.2.2.2.1
  have J : jb_Inv (jx_sI hx 0 0 6 (nI 0)) (jx_sI hm 30 0 14 (nI 0)) := I.wt (fun c h1 h2 => jx_sk h1) (jx_sp (by decide)) (fun q hq => jx_sp hq) (fun c h1 h2 => jx_sk h1) ⟨0, by omega, jx_ss, jx_ss, fun i hi => by omega⟩
  have w4' : ∀ i, i < len → (jx_sI hx 0 0 6 (nI 0)).1 13 0 i = (jx_sI hm 30 0 14 (nI 0)).1 45 0 i := fun i hi => by
    rw [jx_sk (by decide), jx_sk (by decide)]
    exact w4 i hi
  by_cases hod : len % 2 = 0
  · obtain ⟨⟨N, w, x, m⟩, q1, q2, q3, q4, q5, qz⟩ := id J
    obtain ⟨h', rd, fr, P⟩ := dm_read (d := d + 37) w qz x
    have I' : jb_Inv h' (jx_sI hm 30 0 14 (nI 0)) := J.sx fr.SX jb_SM.rf
    have hp := w.1
    have hn := w.2.1
    have h8 := jn_pow8 hp
    have h20 := jn_pow20 hn
    have i20 := Nat.two_pow_pos (jb_n N)
    generalize hk : len / 2 = k
    have hlen : len = 2 * k := by omega
    have div : nI len / nI 2 = nI k := by rw [pk_div (by omega) (by decide) (by decide), hk]
    have mo : nI len - nI k * nI 2 = nI 0 := by
      rw [pk_mul, pk_sub (by omega), hlen]
      congr 1
      omega
    have pr := dm_pairsa (d := d + 36) (h := jx_sI hx 0 0 6 (nI 0)) (p := jb_p N) (NN := k) x.1 (by omega) (V := fun q => (jx_sI hx 0 0 6 (nI 0)).1 13 0 q) (fun _ _ => rfl)
    have ak := dm_askW (d := d + 38) (h := jx_sI hm 30 0 14 (nI 0)) (m := k) (p := jb_p N) (U := fun q => (jx_sI hm 30 0 14 (nI 0)).1 45 0 q) (by omega) m.1 (fun _ _ => rfl)
    have preX : ∀ r, (jx_bI (DM (d + 39) 36 [vr 0 0, vr 13 0, vi (nI k)] (jx_sI hx 0 0 6 (nI 0))) fun y1 h1 => (jx_if (y1 = nI 0) ((jx_bV (DM (d + 39) 38 [vr 14 0, vr 1 0] h1) fun h2 => ((jx_bI (DM (d + 39) 98 [vr 14 0, vr 13 0, vi (nI k)] h2) fun y3 h3 => some ([vi y3], h3))))) ((jx_bI (DM (d + 39) 8 [vr 0 0, vi (-nI 1)] h1) fun y4 h4 => some ([vi y4], h4))))) = r → DM (d + 40) 97 [vr 0 0] hx = r := by
      intro r hr
      rw [d97, e97_0, w2]
      simp (disch := omega) only [jx_bI_s, jx_bL_s, jx_bV_s, eq_self, true_or, or_true, jx_if_t, jx_if_f, jq_b0, jq_b1, jq_bb, jq_b01, jx_if_in, jx_if_lt, jx_if_nlt, jx_if_le, jx_if_nle, jq_eqp, jq_eqn, nI_clamp, nI_add, jn_and, jn_or, jn_xor, jq_andn, jq_shl1, jq_bit, jq_mn, jq_mx, cond_true, cond_false, jq_jt, jq_jf, jq_e1, jq_e2, jq_e3, jq_e4, Bool.not_true, Bool.not_false, jq_0, jq_1, jq_2, jq_3, jq_4, jq_5, jq_6, jq_8, jq_12, jq_16, jq_20, jq_21, jq_24, jq_30, jq_32, jq_60, jq_84, jq_1000, jq_2436, jq_20001, div, mo]
      exact hr
    have preM : ∀ r, F174_25 (DM (d + 39)) (nI (2 * k)) (nI 0) (jx_sI hm 30 0 14 (nI 0)) = r → DM (d + 40) 174 [vr 30 0] hm = r := by
      intro r hr
      rw [d174, e174_0, w3]
      simp (disch := omega) only [jx_bI_s, jx_bL_s, jx_bV_s, eq_self, true_or, or_true, jx_if_t, jx_if_f, jq_b0, jq_b1, jq_bb, jq_b01, jx_if_in, jx_if_lt, jx_if_nlt, jx_if_le, jx_if_nle, jq_eqp, jq_eqn, nI_clamp, nI_add, jn_and, jn_or, jn_xor, jq_andn, jq_shl1, jq_bit, jq_mn, jq_mx, cond_true, cond_false, jq_jt, jq_jf, jq_e1, jq_e2, jq_e3, jq_e4, Bool.not_true, Bool.not_false, jq_0, jq_1, jq_2, jq_3, jq_4, jq_5, jq_6, jq_8, jq_12, jq_16, jq_20, jq_21, jq_24, jq_30, jq_32, jq_60, jq_84, jq_1000, jq_2436, jq_20001, div, mo]
      rw [hlen]
      exact hr
    generalize jx_sI hx 0 0 6 (nI 0) = gx at *
    generalize jx_sI hm 30 0 14 (nI 0) = gm at *
    have bad : (∃ i, i < k ∧ (jb_ip (jb_p N) (gm.1 45 0 (2 * i)) = false ∨ jb_ip (jb_p N) (gm.1 45 0 (2 * i + 1)) = false ∨ gm.1 45 0 (2 * i) = gm.1 45 0 (2 * i + 1))) → ∀ y : Int32, y ≠ 0 → DM (d + 39) 36 [vr 0 0, vr 13 0, vi (nI k)] gx = some ([vi y], gx) → jl_g d 97 174 [] hx hm := by
      intro hb y ny hy
      rcases ak with ⟨_, k1⟩ | ⟨k1, _⟩
      · refine ⟨-1, _, _, preX _ ?_, preM _ k1, J.fd⟩
        rw [hy, jx_bI_s, jx_ifn (show ¬ y = nI 0 from ny), dm_fx, jx_bI_s]
        rfl
      · obtain ⟨i, hi, hb⟩ := hb
        obtain ⟨c1, c2, c3⟩ := k1 i hi
        rcases hb with hb | hb | hb
        · rw [hb] at c1; cases c1
        · rw [hb] at c2; cases c2
        · exact absurd hb c3
    rcases pr with ⟨⟨q, q1, q2⟩, p2⟩ | ⟨p1, ⟨i, i1, i2⟩, p3⟩ | ⟨p1, p2, p3⟩
    · refine bad ⟨q / 2, by omega, ?_⟩ _ (by decide) p2
      have q2 : jb_ip (jb_p N) (gx.1 13 0 q) = false := q2
      rw [w4' q (by omega)] at q2
      by_cases c : q % 2 = 0
      · left
        rw [show 2 * (q / 2) = q by omega]
        exact q2
      · right; left
        rw [show 2 * (q / 2) + 1 = q by omega]
        exact q2
    · refine bad ⟨i, i1, Or.inr (Or.inr ?_)⟩ _ (by decide) p3
      have i2 : gx.1 13 0 (2 * i) = gx.1 13 0 (2 * i + 1) := i2
      rw [w4' _ (by omega), w4' _ (by omega)] at i2
      exact i2
    · rcases ak with ⟨⟨i, hi, hb⟩, _⟩ | ⟨_, k1⟩
      · exfalso
        rcases hb with hb | hb | hb
        · have hb : jb_ip (jb_p N) (gm.1 45 0 (2 * i)) = false := hb
          rw [← w4' _ (by omega)] at hb
          rw [show jb_ip (jb_p N) (gx.1 13 0 (2 * i)) = true from p1 _ (by omega)] at hb
          cases hb
        · have hb : jb_ip (jb_p N) (gm.1 45 0 (2 * i + 1)) = false := hb
          rw [← w4' _ (by omega)] at hb
          rw [show jb_ip (jb_p N) (gx.1 13 0 (2 * i + 1)) = true from p1 _ (by omega)] at hb
          cases hb
        · have hb : gm.1 45 0 (2 * i) = gm.1 45 0 (2 * i + 1) := hb
          rw [← w4' _ (by omega), ← w4' _ (by omega)] at hb
          exact p2 i hi hb
      · obtain ⟨v, hv⟩ : ∃ v : Nat → Nat, ∀ q, q < 2 * k → v q < jb_p N ∧ gx.1 13 0 q = nI (v q) := by
          refine ⟨fun q => (gx.1 13 0 q).toNatClampNeg, fun q hq => ?_⟩
          obtain ⟨j, hj, e⟩ := jb_ip_t (by omega) (p1 q hq)
          have e : gx.1 13 0 q = nI j := e
          show (gx.1 13 0 q).toNatClampNeg < _ ∧ gx.1 13 0 q = nI ((gx.1 13 0 q).toNatClampNeg)
          rw [e, nI_clamp (by omega)]
          exact ⟨hj, rfl⟩
        have hk30 : k ≤ 30 := by omega
        obtain ⟨g2, b1, b2, b3, b4⟩ := dm_layW (d := d + 38) (h0 := gm) (m := k) (v := v) hk30 (fun q hq => by rw [← w4' q (by omega)]; exact (hv q hq).2) k 0 gm (by omega) (fun _ _ _ => rfl) (fun _ _ => ⟨rfl, rfl⟩) (fun j hj => by omega)
        have sm : jb_SM gm g2 := ⟨fun c _ h1 h2 => b2 c h1 h2, b3⟩
        have m2 : jb_M g2 N := m.kept hn sm
        have hc : ∀ X, X < 2 ^ jb_p N → DM (d + 36 + 2) 138 [vr 30 0, vi (nI X), vi (nI (20 + k)), vi (nI (2 ^ jb_n N - 1))] g2 = some ([vi (nI (jb_cu N X (2 ^ jb_n N - 1) + jb_pp N v X k))], g2) := by
          intro X hX
          have hX31 : X < 2 ^ 31 := by omega
          obtain ⟨A, hA⟩ : ∃ A : Nat → Bool, ∀ r, (nI X >>> (g2.1 33 0 r &&& 31)) &&& 1 = jn_b (A r) := ⟨fun r => (jn_any (nI X) (g2.1 33 0 r)).choose, fun r => (jn_any (nI X) (g2.1 33 0 r)).choose_spec⟩
          obtain ⟨B, hB⟩ : ∃ B : Nat → Bool, ∀ r, (nI X >>> (g2.1 34 0 r &&& 31)) &&& 1 = jn_b (B r) := ⟨fun r => (jn_any (nI X) (g2.1 34 0 r)).choose, fun r => (jn_any (nI X) (g2.1 34 0 r)).choose_spec⟩
          have e1 := dm_cutOf (d := d + 36) (X := X) (M := 20 + k) (T := 2 ^ jb_n N - 1) (h := g2) (t := jb_t N) (A := A) (B := B) (by omega) (by omega) m2.2.2.1 (fun r _ => hA r) (fun r _ => hB r)
          rw [e1]
          have Ar : ∀ r z, z < 32 → g2.1 33 0 r = nI z → A r = X.testBit z := fun r z hz e => by
            have this := hA r
            rw [e, jn_bit hX31 hz] at this
            exact (jn_b_inj.1 this).symm
          have Br : ∀ r z, z < 32 → g2.1 34 0 r = nI z → B r = X.testBit z := fun r z hz e => by
            have this := hB r
            rw [e, jn_bit hX31 hz] at this
            exact (jn_b_inj.1 this).symm
          have e2 : jn_ct (jb_G A B (jb_t N) (2 ^ jb_n N - 1)) (20 + k) = jb_cu N X (2 ^ jb_n N - 1) + jb_pp N v X k := by
            rw [jn_ct_app]
            congr 1
            · rw [jn_ct_cut (n := jb_n N) hn (f := fun r => jb_G A B (jb_t N) (2 ^ jb_n N - 1) r && decide (r < 20)) ?_ |> fun z => (jn_ct_congr 20 (fun r hr => by simp [hr])).trans z]
              · refine jn_ct_congr _ (fun r hr => ?_)
                obtain ⟨n1, n2, _⟩ := m2.2.2.2 r hr
                obtain ⟨u1, u2, _⟩ := w.2.2 r hr
                unfold jb_G jb_cb
                rw [Ar r _ (by omega) n1, Br r _ (by omega) n2, jn_all_t]
                have : decide (20 ≤ r) = false := by simp; omega
                rw [this]
                simp [show r < 20 by omega]
              · intro r hr
                by_cases c : r < 20
                · unfold jb_G
                  rw [jn_all_t]
                  have c1 : decide (20 ≤ r) = false := by simp; omega
                  have c2 : decide (r < jb_n N) = false := by simp; omega
                  rw [c1, c2]
                  simp
                · simp [c]
            · refine jn_ct_congr _ (fun i hi => ?_)
              obtain ⟨n1, n2⟩ := b4 i hi
              have u1 := (hv (2 * i) (by omega)).1
              have u2 := (hv (2 * i + 1) (by omega)).1
              unfold jb_G jb_pcb
              rw [Ar _ _ (by omega) n1, Br _ _ (by omega) n2]
              simp
          rw [e2]
        have hN := dm_netHoldOf (d := d + 36) (M := 20 + k) (T := 2 ^ jb_n N - 1) hp m2.1 hc (fun X => by
          have := jb_cu_le N X (2 ^ jb_n N - 1)
          have := jn_ct_le (fun i => jb_pcb N X (v (2 * i)) (v (2 * i + 1))) k
          show _ + jn_ct _ _ ≤ 50
          omega)
        have dv : nI (2 * k) / nI 2 = nI k := by rw [pk_div (by omega) (by decide) (by decide)]; congr 1; omega
        refine ⟨nI (jn_mn (fun X => decide (1 ≤ X)) (fun X => jb_cu N X (2 ^ jb_n N - 1) + jb_pp N v X k) (if jb_p N < 2 then 0 else 1000) (2 ^ jb_p N - 1)), h', g2, preX _ ?_, preM _ (k1.trans (b1.trans ?_)), I'.sx jb_SX.rf sm⟩
        · have wx := dm_withX (d := d + 37) w P (m := k) hk30 (v := v) (fun q hq => ⟨(hv q hq).1, by
            rw [fr.1 13 (by omega)]
            exact (hv q hq).2⟩)
          rw [jb_with_eq w hk30 (fun q hq => (hv q hq).1)] at wx
          rw [p3, jx_bI_s, jx_ifp rfl, rd, jx_bV_s, wx, jx_bI_s]
        · rw [e174_89]
          simp (disch := omega) only [jx_bI_s, jx_bL_s, jx_bV_s, eq_self, true_or, or_true, jx_if_t, jx_if_f, jq_b0, jq_b1, jq_bb, jq_b01, jx_if_in, jx_if_lt, jx_if_nlt, jx_if_le, jx_if_nle, jq_eqp, jq_eqn, nI_clamp, nI_add, pk_sub, pk_mul, jn_and, jn_or, jn_xor, jq_andn, jq_shl1, jq_bit, jq_mn, jq_mx, cond_true, cond_false, jq_jt, jq_jf, jq_e1, jq_e2, jq_e3, jq_e4, Bool.not_true, Bool.not_false, jq_0, jq_1, jq_2, jq_3, jq_4, jq_5, jq_6, jq_8, jq_12, jq_16, jq_20, jq_21, jq_24, jq_30, jq_32, jq_60, jq_84, jq_1000, jq_2436, jq_20001, dv, dm_allR (n := jb_n N) (by omega) m2.2.1, hN]
  · have mo : nI len - nI len / nI 2 * nI 2 = nI 1 := by
      rw [pk_rem (by omega) (by decide) (by decide)]
      congr 1
      omega
    refine ⟨-3, _, _, ?_, ?_, J.fd⟩
    · rw [d97, e97_0, w2]
      simp (disch := omega) only [jx_bI_s, jx_bL_s, jx_bV_s, eq_self, true_or, or_true, jx_if_t, jx_if_f, jq_b0, jq_b1, jq_bb, jq_b01, jx_if_in, jx_if_lt, jx_if_nlt, jx_if_le, jx_if_nle, jq_eqp, jq_eqn, nI_clamp, nI_add, jn_and, jn_or, jn_xor, jq_andn, jq_shl1, jq_bit, jq_mn, jq_mx, cond_true, cond_false, jq_jt, jq_jf, jq_e1, jq_e2, jq_e3, jq_e4, Bool.not_true, Bool.not_false, jq_0, jq_1, jq_2, jq_3, jq_4, jq_5, jq_6, jq_8, jq_12, jq_16, jq_20, jq_21, jq_24, jq_30, jq_32, jq_60, jq_84, jq_1000, jq_2436, jq_20001, mo, dm_fx]
    · rw [d174, e174_0, w3]
      simp (disch := omega) only [jx_bI_s, jx_bL_s, jx_bV_s, eq_self, true_or, or_true, jx_if_t, jx_if_f, jq_b0, jq_b1, jq_bb, jq_b01, jx_if_in, jx_if_lt, jx_if_nlt, jx_if_le, jx_if_nle, jq_eqp, jq_eqn, nI_clamp, nI_add, jn_and, jn_or, jn_xor, jq_andn, jq_shl1, jq_bit, jq_mn, jq_mx, cond_true, cond_false, jq_jt, jq_jf, jq_e1, jq_e2, jq_e3, jq_e4, Bool.not_true, Bool.not_false, jq_0, jq_1, jq_2, jq_3, jq_4, jq_5, jq_6, jq_8, jq_12, jq_16, jq_20, jq_21, jq_24, jq_30, jq_32, jq_60, jq_84, jq_1000, jq_2436, jq_20001, mo, dm_fm]
