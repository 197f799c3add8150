/-! ===== layer 2: trees, the reference's counting ===== -/
/-- one when the roads of E join all posts -/
noncomputable def jr_g (N : jb_N) (E : Nat) : Nat := @ite _ (∀ x, x < jb_p N → jb_rc N 0 E 0 x) (Classical.propDecidable _) 1 0
/-- k more roads out of the last m of n, each set weighed by G -/
def jr_c (G : Nat → Nat) (n : Nat) : Nat → Nat → Nat → Nat
  | _, 0, E => G E
  | 0, _ + 1, _ => 0
  | m + 1, k + 1, E => jr_c G n m k (E ||| 2 ^ (n - (m + 1))) + jr_c G n m (k + 1) E
theorem jr_c0 (G : Nat → Nat) (n m E : Nat) : jr_c G n m 0 E = G E := by
  cases m with
  | zero => rfl
  | succ m => rfl
theorem jr_or_df {E i : Nat} (h : E < 2 ^ i) : jn_df (E ||| 2 ^ i) (2 ^ i) = E := by
  refine Nat.eq_of_testBit_eq (fun j => ?_)
  rw [jn_df_t, Nat.testBit_or, jn_2k]
  by_cases c : i = j
  · rw [← c, Nat.testBit_lt_two_pow h]
    simp
  · simp [c]
theorem jr_m1 (j : Nat) : nI (j + 1) + -nI 1 = nI j := by
  rw [← nI_add, Int32.add_assoc, Int32.add_right_neg, Int32.add_zero]
theorem jr_M50 {h h' : jx_H} {N : jb_N} (m : jb_M h N) (f : ∀ c, c ≠ 50 → h'.1 c = h.1 c) : jb_M h' N := by
  unfold jb_M at *
  rw [f 30 (by decide), f 33 (by decide), f 34 (by decide), f 35 (by decide), f 36 (by decide)]
  exact m
section
variable {d : Nat} {N : jb_N}
theorem jr_go (w : jb_wf N) {l : Nat} (hl : l + 1 = jb_p N) : ∀ k m j i E (c : Int64) (h : jx_H), j + k = l → i + m = jb_n N → E < 2 ^ i → jb_M h N → h.1 50 0 j = nI i → ∃ h', (∀ c, c ≠ 50 → h'.1 c = h.1 c) ∧ (∀ q, q < j → h'.1 50 0 q = h.1 50 0 q) ∧ F162_19 (DM (d + 4)) (nI l) c (nI j) (nI E) h = F162_53 (DM (d + 4)) (nI l) (c + lN (jr_c (jr_g N) (jb_n N) m k E)) (nI j) (nI E) h' := by
  have hp := w.1
  have hn := w.2.1
  intro k
  induction k with
  | zero =>
    intro m j i E c h hj hi hE M a
    have hE31 : E < 2 ^ 31 := Nat.lt_of_lt_of_le hE (Nat.pow_le_pow_right (by decide) (by omega))
    obtain ⟨R, r1, r2, r3⟩ := dm_reachM (d := d + 2) (W := 0) (T := E) w M (by omega) hE31 (a := 0) (by omega) (Nat.zero_testBit _)
    have r2 : DM (d + 4) 145 [vr 30 0, vi (nI 0), vi (nI 0), vi (nI E)] h = some ([vi (nI R)], h) := r2
    have al : DM (d + 4) 135 [vr 30 0] h = some ([vi (nI (2 ^ jb_p N - 1))], h) := dm_all (d := d + 3) (by omega) M.1
    have p8 : 2 ^ jb_p N ≤ 2 ^ 8 := Nat.pow_le_pow_right (by decide) hp
    have p0 := Nat.two_pow_pos (jb_p N)
    refine ⟨h, fun _ _ => rfl, fun _ _ => rfl, ?_⟩
    rw [jr_c0, e162_19]
    have ej : j = l := by omega
    by_cases g : ∀ x, x < jb_p N → jb_rc N 0 E 0 x
    · have eR : R = 2 ^ jb_p N - 1 := by
        refine Nat.eq_of_testBit_eq (fun x => ?_)
        rw [Nat.testBit_two_pow_sub_one]
        by_cases c : x < jb_p N
        · rw [(r3 x).2 (g x c)]
          simp [c]
        · rw [Nat.testBit_lt_two_pow (Nat.lt_of_lt_of_le r1 (Nat.pow_le_pow_right (by decide) (by omega)))]
          simp [c]
      have eg : jr_g N E = 1 := by
        unfold jr_g
        rw [if_pos g]
      simp (disch := omega) only [jx_bI_s, jx_bL_s, jx_bV_s, eq_self, true_or, or_true, jx_if_t, jx_if_f, jq_b0, jq_b1, jq_bb, jq_b01, jx_if_in, jx_if_lt, jx_if_nlt, jx_if_le, jx_if_nle, jq_eqp, jq_eqn, nI_clamp, nI_add, pk_sub, pk_mul, jn_and, jn_or, jn_xor, jq_andn, jq_shl1, jq_bit, jq_mn, jq_mx, cond_true, cond_false, jq_jt, jq_jf, jq_e1, jq_e2, jq_e3, jq_e4, Bool.not_true, Bool.not_false, jq_0, jq_1, jq_2, jq_3, jq_4, jq_5, jq_6, jq_8, jq_12, jq_16, jq_20, jq_21, jq_24, jq_30, jq_32, jq_60, jq_84, jq_1000, jq_2436, jq_20001, ej, r2, al, eR, e162_51, eg]
      rfl
    · have eR : R ≠ 2 ^ jb_p N - 1 := fun e => g (fun x hx => (r3 x).1 (by
        rw [e, Nat.testBit_two_pow_sub_one]
        simp [hx]))
      have eg : jr_g N E = 0 := by
        unfold jr_g
        rw [if_neg g]
      simp (disch := omega) only [jx_bI_s, jx_bL_s, jx_bV_s, eq_self, true_or, or_true, jx_if_t, jx_if_f, jq_b0, jq_b1, jq_bb, jq_b01, jx_if_in, jx_if_lt, jx_if_nlt, jx_if_le, jx_if_nle, jq_eqp, jq_eqn, nI_clamp, nI_add, pk_sub, pk_mul, jn_and, jn_or, jn_xor, jq_andn, jq_shl1, jq_bit, jq_mn, jq_mx, cond_true, cond_false, jq_jt, jq_jf, jq_e1, jq_e2, jq_e3, jq_e4, Bool.not_true, Bool.not_false, jq_0, jq_1, jq_2, jq_3, jq_4, jq_5, jq_6, jq_8, jq_12, jq_16, jq_20, jq_21, jq_24, jq_30, jq_32, jq_60, jq_84, jq_1000, jq_2436, jq_20001, ej, r2, al, e162_51, eg]
      rfl
  | succ k ih =>
    intro m
    induction m with
    | zero =>
      intro j i E c h hj hi hE M a
      refine ⟨h, fun _ _ => rfl, fun _ _ => rfl, ?_⟩
      have e0 : jr_c (jr_g N) (jb_n N) 0 (k + 1) E = 0 := rfl
      have ei : i = jb_n N := by omega
      have z : c + lN 0 = c := Int64.add_zero c
      rw [e0, z, e162_19, e162_53]
      simp (disch := omega) only [jx_bI_s, jx_bL_s, jx_bV_s, eq_self, true_or, or_true, jx_if_t, jx_if_f, jq_b0, jq_b1, jq_bb, jq_b01, jx_if_in, jx_if_lt, jx_if_nlt, jx_if_le, jx_if_nle, jq_eqp, jq_eqn, nI_clamp, nI_add, pk_sub, pk_mul, jn_and, jn_or, jn_xor, jq_andn, jq_shl1, jq_bit, jq_mn, jq_mx, cond_true, cond_false, jq_jt, jq_jf, jq_e1, jq_e2, jq_e3, jq_e4, Bool.not_true, Bool.not_false, jq_0, jq_1, jq_2, jq_3, jq_4, jq_5, jq_6, jq_8, jq_12, jq_16, jq_20, jq_21, jq_24, jq_30, jq_32, jq_60, jq_84, jq_1000, jq_2436, jq_20001, a, M.2.1, ei]
      simp only [e162_121, e162_75]
    | succ m ihm =>
      intro j i E c h hj hi hE M a
      have ei : jb_n N - (m + 1) = i := by omega
      have e1 : jr_c (jr_g N) (jb_n N) (m + 1) (k + 1) E = jr_c (jr_g N) (jb_n N) m k (E ||| 2 ^ i) + jr_c (jr_g N) (jb_n N) m (k + 1) E := by
        rw [← ei]
        rfl
      have hE2 : E ||| 2 ^ i < 2 ^ (i + 1) := jn_or_lt (Nat.lt_of_lt_of_le hE (Nat.pow_le_pow_right (by decide) (by omega))) (Nat.pow_lt_pow_right (by decide) (by omega))
      have hE31 : E < 2 ^ (i + 1) := Nat.lt_of_lt_of_le hE (Nat.pow_le_pow_right (by decide) (by omega))
      have M2 : jb_M (jx_sI h 50 0 (j + 1) (nI (i + 1))) N := jr_M50 M (fun c hc => jx_sk hc)
      obtain ⟨h1, a1, a2, a3⟩ := ih m (j + 1) (i + 1) (E ||| 2 ^ i) c _ (by omega) (by omega) hE2 M2 jx_ss
      have b0 : h1.1 50 0 j = nI i := by rw [a2 j (by omega), jx_sp (by omega), a]
      have M3 : jb_M (jx_sI h1 50 0 j (nI (i + 1))) N := jr_M50 (h := h) M (fun c hc => by rw [jx_sk hc, a1 c hc, jx_sk hc])
      obtain ⟨h2, c1, c2, c3⟩ := ihm j (i + 1) E (c + lN (jr_c (jr_g N) (jb_n N) m k (E ||| 2 ^ i))) _ (by omega) (by omega) hE31 M3 jx_ss
      refine ⟨h2, fun c hc => by rw [c1 c hc, jx_sk hc, a1 c hc, jx_sk hc], fun q hq => by rw [c2 q hq, jx_sp (by omega), a2 q (by omega), jx_sp (by omega)], ?_⟩
      rw [e1, ← lN_add, ← Int64.add_assoc, ← c3, e162_19]
      simp (disch := omega) only [jx_bI_s, jx_bL_s, jx_bV_s, eq_self, true_or, or_true, jx_if_t, jx_if_f, jq_b0, jq_b1, jq_bb, jq_b01, jx_if_in, jx_if_lt, jx_if_nlt, jx_if_le, jx_if_nle, jq_eqp, jq_eqn, nI_clamp, nI_add, pk_sub, pk_mul, jn_and, jn_or, jn_xor, jq_andn, jq_shl1, jq_bit, jq_mn, jq_mx, cond_true, cond_false, jq_jt, jq_jf, jq_e1, jq_e2, jq_e3, jq_e4, Bool.not_true, Bool.not_false, jq_0, jq_1, jq_2, jq_3, jq_4, jq_5, jq_6, jq_8, jq_12, jq_16, jq_20, jq_21, jq_24, jq_30, jq_32, jq_60, jq_84, jq_1000, jq_2436, jq_20001, a, M.2.1, e162_145]
      rw [a3, e162_53]
      simp (disch := omega) only [jx_bI_s, jx_bL_s, jx_bV_s, eq_self, true_or, or_true, jx_if_t, jx_if_f, jq_b0, jq_b1, jq_bb, jq_b01, jx_if_in, jx_if_lt, jx_if_nlt, jx_if_le, jx_if_nle, jq_eqp, jq_eqn, nI_clamp, nI_add, pk_sub, pk_mul, jn_and, jn_or, jn_xor, jq_andn, jq_shl1, jq_bit, jq_mn, jq_mx, cond_true, cond_false, jq_jt, jq_jf, jq_e1, jq_e2, jq_e3, jq_e4, Bool.not_true, Bool.not_false, jq_0, jq_1, jq_2, jq_3, jq_4, jq_5, jq_6, jq_8, jq_12, jq_16, jq_20, jq_21, jq_24, jq_30, jq_32, jq_60, jq_84, jq_1000, jq_2436, jq_20001, jr_m1, b0, e162_75, jr_or_df hE]
end
