/-! ===== layer 2: chances of a turned net; the step ===== -/
theorem jn_sm_even {a : Nat → Nat} : ∀ m, jn_sm a (2 * m) = jn_sm (fun v => a (2 * v) + a (2 * v + 1)) m := by
  intro m
  induction m with
  | zero => rfl
  | succ m ih =>
    show jn_sm a (2 * m) + a (2 * m) + a (2 * m + 1) = jn_sm (fun v => a (2 * v) + a (2 * v + 1)) m + (a (2 * m) + a (2 * m + 1))
    rw [ih]
    omega
theorem jn_sm_add {a b : Nat → Nat} : ∀ m, jn_sm (fun v => a v + b v) m = jn_sm a m + jn_sm b m := by
  intro m
  induction m with
  | zero => rfl
  | succ m ih =>
    show jn_sm _ m + (a m + b m) = jn_sm a m + a m + (jn_sm b m + b m)
    rw [ih]
    omega
noncomputable def jc_h (N : jb_N) (T : Nat) : Nat := @ite _ (jb_hg N 0 T) (Classical.propDecidable _) 1 0
theorem jc_h1 {N : jb_N} {T : Nat} (h : jb_hg N 0 T) : jc_h N T = 1 := if_pos h
theorem jc_h0 {N : jb_N} {T : Nat} (h : ¬ jb_hg N 0 T) : jc_h N T = 0 := if_neg h
def jc_w1 (N : jb_N) (T r : Nat) : Nat := if T.testBit r = true then jb_g N r else 8 - jb_g N r
/-- the chance's weight of T -/
noncomputable def jc_F (N : jb_N) (T : Nat) : Nat := jc_h N T * jn_pd (jc_w1 N T) (jb_n N)
/-- k roads are open -/
noncomputable def jc_w (N : jb_N) : Nat → Nat → Nat
  | 0, C => jc_h N C
  | k + 1, C => jb_g N (jb_n N - (k + 1)) * jc_w N k (C ||| 2 ^ (jb_n N - (k + 1))) + (8 - jb_g N (jb_n N - (k + 1))) * jc_w N k C
section
variable {d : Nat} {N : jb_N}
theorem jb_hg_mono {T T' : Nat} (h : jn_sb T T') (k : jb_hg N 0 T) : jb_hg N 0 T' := ⟨k.1, fun q h1 h2 x h3 h4 => jb_rc_mono (fun _ c => c) h (k.2 q h1 h2 x h3 h4)⟩
theorem jc_sum : ∀ k C, k ≤ jb_n N → C < 2 ^ (jb_n N - k) → jn_sm (fun u => jc_F N (C + u * 2 ^ (jb_n N - k))) (2 ^ k) = jn_pd (jc_w1 N C) (jb_n N - k) * jc_w N k C := by
  intro k
  induction k with
  | zero =>
    intro C hk hC
    show 0 + jc_F N (C + 0 * _) = _
    rw [Nat.zero_mul, Nat.add_zero, Nat.zero_add, Nat.sub_zero]
    unfold jc_F
    rw [Nat.mul_comm]
    rfl
  | succ k ih =>
    intro C hk hC
    generalize hi : jb_n N - (k + 1) = i at *
    have hik : jb_n N - k = i + 1 := by omega
    rw [hik] at ih
    have hpi := Nat.two_pow_pos i
    have hp1 : 2 ^ (i + 1) = 2 * 2 ^ i := by rw [Nat.pow_succ, Nat.mul_comm]
    have hCi : C.testBit i = false := Nat.testBit_lt_two_pow hC
    have hor : C ||| 2 ^ i = C + 2 ^ i := jn_or_add C (2 ^ i) (fun j hj => jn_2f.2 (fun e => by rw [e, hCi] at hj; cases hj))
    have a1 := ih C (by omega) (by omega)
    have a2 := ih (C ||| 2 ^ i) (by omega) (by rw [hor]; omega)
    rw [Nat.pow_succ, Nat.mul_comm, jn_sm_even, jn_sm_add]
    have e1 : jn_sm (fun v => jc_F N (C + 2 * v * 2 ^ i)) (2 ^ k) = jn_sm (fun u => jc_F N (C + u * 2 ^ (i + 1))) (2 ^ k) := jn_sm_congr _ (fun v _ => by
      rw [hp1, ← Nat.mul_assoc, Nat.mul_comm v 2])
    have e2 : jn_sm (fun v => jc_F N (C + (2 * v + 1) * 2 ^ i)) (2 ^ k) = jn_sm (fun u => jc_F N ((C ||| 2 ^ i) + u * 2 ^ (i + 1))) (2 ^ k) := jn_sm_congr _ (fun v _ => by
      rw [hp1, hor, Nat.add_mul, Nat.one_mul, ← Nat.mul_assoc, Nat.mul_comm v 2]
      congr 1
      omega)
    rw [e1, e2, a1, a2]
    show jn_pd (jc_w1 N C) i * jc_w1 N C i * jc_w N k C + jn_pd (jc_w1 N (C ||| 2 ^ i)) i * jc_w1 N (C ||| 2 ^ i) i * jc_w N k (C ||| 2 ^ i) = jn_pd (jc_w1 N C) i * (jb_g N (jb_n N - (k + 1)) * jc_w N k (C ||| 2 ^ (jb_n N - (k + 1))) + (8 - jb_g N (jb_n N - (k + 1))) * jc_w N k C)
    rw [hi]
    have f1 : jc_w1 N C i = 8 - jb_g N i := if_neg (by rw [hCi]; decide)
    have f2 : jc_w1 N (C ||| 2 ^ i) i = jb_g N i := if_pos (by rw [Nat.testBit_or, jn_2k]; simp)
    have f3 : jn_pd (jc_w1 N (C ||| 2 ^ i)) i = jn_pd (jc_w1 N C) i := jn_pd_congr _ (fun r hr => by
      unfold jc_w1
      rw [Nat.testBit_or, jn_2f.2 (show r ≠ i by omega), Bool.or_false])
    rw [f1, f2, f3, Nat.mul_add, Nat.mul_assoc, Nat.mul_assoc]
    omega
theorem jc_w_0 : ∀ k C, k ≤ jb_n N → ¬ jb_hg N 0 (C ||| jn_df (2 ^ jb_n N - 1) (2 ^ (jb_n N - k) - 1)) → jc_w N k C = 0 := by
  intro k
  induction k with
  | zero =>
    intro C _ h
    refine jc_h0 (fun c => h (jb_hg_mono (fun i hi => ?_) c))
    rw [Nat.testBit_or, hi]
    rfl
  | succ k ih =>
    intro C hk h
    have sub : ∀ C', jn_sb C' (C ||| 2 ^ (jb_n N - (k + 1))) → ¬ jb_hg N 0 (C' ||| jn_df (2 ^ jb_n N - 1) (2 ^ (jb_n N - k) - 1)) := fun C' hC' c => h (jb_hg_mono (fun i hi => by
      rw [Nat.testBit_or, Bool.or_eq_true, jn_df_t, jn_all_t, jn_all_t] at hi
      rw [Nat.testBit_or, Bool.or_eq_true, jn_df_t, jn_all_t, jn_all_t]
      rcases hi with hi | hi
      · have := hC' i hi
        rw [Nat.testBit_or, Bool.or_eq_true, jn_2k, decide_eq_true_eq] at this
        rcases this with k1 | k1
        · exact Or.inl k1
        · right
          simp
          omega
      · right
        simp at hi ⊢
        omega) c)
    show _ * jc_w N k _ + _ * jc_w N k C = 0
    rw [ih _ (by omega) (sub _ (fun i hi => hi)), ih C (by omega) (sub C (fun i hi => by rw [Nat.testBit_or, hi]; rfl))]
    rfl
theorem dm_sumX {h : jx_H} (w : jb_wf N) (x : jb_X h 0 N) (P : jp_P h N) (g0 : h.1 26 0 0 = nI 1) (g1 : h.1 26 0 1 = nI 1) : ∀ k C, k ≤ jb_n N → C < 2 ^ jb_n N → jb_hg N 0 (C ||| jn_df (2 ^ jb_n N - 1) (2 ^ (jb_n N - k) - 1)) → DM (d + k + 3) 92 [vr 26 0, vi (nI (jb_n N - k)), vi (nI C)] h = some ([vl (lN (jc_w N k C))], h) := by
  have hn := w.2.1
  have h20 := jn_pow20 hn
  have i20 := Nat.two_pow_pos (jb_n N)
  obtain ⟨p0, p1, p2, p3, p4, p5, p6⟩ := P.1
  intro k
  induction k with
  | zero =>
    intro C _ hC hh
    have e0 : jn_df (2 ^ jb_n N - 1) (2 ^ (jb_n N - 0) - 1) = 0 := jn_df_self _
    rw [e0, Nat.or_zero] at hh
    have : jc_w N 0 C = 1 := jc_h1 hh
    rw [d92, e92_0, g0, p1, this]
    simp (disch := omega) only [jx_bI_s, jx_bL_s, jx_bV_s, eq_self, true_or, or_true, jx_if_t, jx_if_f, jq_b0, jq_b1, jq_bb, jq_b01, jx_if_in, jx_if_lt, jx_if_nlt, jx_if_le, jx_if_nle, jq_eqp, jq_eqn, nI_clamp, nI_add, pk_sub, pk_mul, jn_and, jn_or, jn_xor, jq_andn, jq_shl1, jq_bit, jq_mn, jq_mx, cond_true, cond_false, jq_jt, jq_jf, jq_e1, jq_e2, jq_e3, jq_e4, Bool.not_true, Bool.not_false, jq_0, jq_1, jq_2, jq_3, jq_4, jq_5, jq_6, jq_8, jq_12, jq_16, jq_20, jq_21, jq_24, jq_30, jq_32, jq_60, jq_84, jq_1000, jq_2436, jq_20001]
    rfl
  | succ k ih =>
    intro C hk hC hh
    generalize hi : jb_n N - (k + 1) = i at *
    have hik : jb_n N - k = i + 1 := by omega
    rw [hik] at ih
    have hin : i < jb_n N := by omega
    have h2i := jn_2lt hin
    have hg := (w.2.2 i hin).2.2.2.2
    have x5 := (x.2.2.2 i hin).2.2.2
    have hC2 : C ||| 2 ^ i < 2 ^ jb_n N := jn_or_lt hC h2i
    have hwt : C ||| jn_df (2 ^ jb_n N - 1) (2 ^ (i + 1) - 1) < 2 ^ jb_n N := jn_or_lt hC (jn_df_lt (by omega))
    have hpi : 2 ^ (i + 1) ≤ 2 ^ jb_n N := Nat.pow_le_pow_right (by decide) (by omega)
    have hpi0 := Nat.two_pow_pos (i + 1)
    have ew : jc_w N (k + 1) C = jb_g N i * jc_w N k (C ||| 2 ^ i) + (8 - jb_g N i) * jc_w N k C := by
      show jb_g N (jb_n N - (k + 1)) * _ + _ = _
      rw [hi]
    have hh2 : jb_hg N 0 ((C ||| 2 ^ i) ||| jn_df (2 ^ jb_n N - 1) (2 ^ (i + 1) - 1)) := jb_hg_mono (fun j hj => by
      rw [Nat.testBit_or, Bool.or_eq_true, jn_df_t, jn_all_t, jn_all_t] at hj
      rw [Nat.testBit_or, Bool.or_eq_true, Nat.testBit_or, Bool.or_eq_true, jn_df_t, jn_all_t, jn_all_t, jn_2k]
      rcases hj with hj | hj
      · exact Or.inl (Or.inl hj)
      · by_cases e : i = j
        · left; right
          simp [e]
        · right
          simp at hj ⊢
          omega) hh
    obtain ⟨B, b1, b2⟩ := dm_hangsX (d := d + k + 2) w P (T := C ||| jn_df (2 ^ jb_n N - 1) (2 ^ (i + 1) - 1)) (by omega)
    have c1 := ih (C ||| 2 ^ i) (by omega) hC2 hh2
    have eg : (nI (jb_g N i)).toInt64 = lN (jb_g N i) := nI_l (by omega)
    have e8 : (nI (8 - jb_g N i)).toInt64 = lN (8 - jb_g N i) := nI_l (by omega)
    have tail : ∀ v : Nat, F92_47 (DM (d + k + 3)) (nI i) (nI C) (nI (jb_g N i)) (lN v) h = some ([vl (lN (v + (8 - jb_g N i) * jc_w N k C))], h) := by
      intro v
      rw [e92_47, g0, p4]
      by_cases g8 : jb_g N i < 8
      · cases B
        · have z : jc_w N k C = 0 := jc_w_0 k C (by omega) (fun c => by
            rw [hik] at c
            have := b2.2 c
            cases this)
          rw [z, Nat.mul_zero]
          simp (disch := omega) only [jx_bI_s, jx_bL_s, jx_bV_s, eq_self, true_or, or_true, jx_if_t, jx_if_f, jq_b0, jq_b1, jq_bb, jq_b01, jx_if_in, jx_if_lt, jx_if_nlt, jx_if_le, jx_if_nle, jq_eqp, jq_eqn, nI_clamp, nI_add, pk_sub, pk_mul, jn_and, jn_or, jn_xor, jq_andn, jq_shl1, jq_bit, jq_mn, jq_mx, cond_true, cond_false, jq_jt, jq_jf, jq_e1, jq_e2, jq_e3, jq_e4, Bool.not_true, Bool.not_false, jq_0, jq_1, jq_2, jq_3, jq_4, jq_5, jq_6, jq_8, jq_12, jq_16, jq_20, jq_21, jq_24, jq_30, jq_32, jq_60, jq_84, jq_1000, jq_2436, jq_20001, dm_first, b1, e92_104, g0, Nat.add_zero]
        · have c2 := ih C (by omega) hC (b2.1 rfl)
          simp (disch := omega) only [jx_bI_s, jx_bL_s, jx_bV_s, eq_self, true_or, or_true, jx_if_t, jx_if_f, jq_b0, jq_b1, jq_bb, jq_b01, jx_if_in, jx_if_lt, jx_if_nlt, jx_if_le, jx_if_nle, jq_eqp, jq_eqn, nI_clamp, nI_add, pk_sub, pk_mul, jn_and, jn_or, jn_xor, jq_andn, jq_shl1, jq_bit, jq_mn, jq_mx, cond_true, cond_false, jq_jt, jq_jf, jq_e1, jq_e2, jq_e3, jq_e4, Bool.not_true, Bool.not_false, jq_0, jq_1, jq_2, jq_3, jq_4, jq_5, jq_6, jq_8, jq_12, jq_16, jq_20, jq_21, jq_24, jq_30, jq_32, jq_60, jq_84, jq_1000, jq_2436, jq_20001, dm_first, b1, c2, e8, lN_mul, lN_add, e92_104, g0]
      · have z : 8 - jb_g N i = 0 := by omega
        rw [z, Nat.zero_mul]
        simp (disch := omega) only [jx_bI_s, jx_bL_s, jx_bV_s, eq_self, true_or, or_true, jx_if_t, jx_if_f, jq_b0, jq_b1, jq_bb, jq_b01, jx_if_in, jx_if_lt, jx_if_nlt, jx_if_le, jx_if_nle, jq_eqp, jq_eqn, nI_clamp, nI_add, pk_sub, pk_mul, jn_and, jn_or, jn_xor, jq_andn, jq_shl1, jq_bit, jq_mn, jq_mx, cond_true, cond_false, jq_jt, jq_jf, jq_e1, jq_e2, jq_e3, jq_e4, Bool.not_true, Bool.not_false, jq_0, jq_1, jq_2, jq_3, jq_4, jq_5, jq_6, jq_8, jq_12, jq_16, jq_20, jq_21, jq_24, jq_30, jq_32, jq_60, jq_84, jq_1000, jq_2436, jq_20001, dm_first, e92_104, g0, Nat.add_zero]
    rw [show d + (k + 1) + 3 = (d + k + 3) + 1 by omega, d92, e92_0, g0, g1, p1, ew]
    by_cases gz : 0 < jb_g N i
    · simp (disch := omega) only [jx_bI_s, jx_bL_s, jx_bV_s, eq_self, true_or, or_true, jx_if_t, jx_if_f, jq_b0, jq_b1, jq_bb, jq_b01, jx_if_in, jx_if_lt, jx_if_nlt, jx_if_le, jx_if_nle, jq_eqp, jq_eqn, nI_clamp, nI_add, pk_sub, pk_mul, jn_and, jn_or, jn_xor, jq_andn, jq_shl1, jq_bit, jq_mn, jq_mx, cond_true, cond_false, jq_jt, jq_jf, jq_e1, jq_e2, jq_e3, jq_e4, Bool.not_true, Bool.not_false, jq_0, jq_1, jq_2, jq_3, jq_4, jq_5, jq_6, jq_8, jq_12, jq_16, jq_20, jq_21, jq_24, jq_30, jq_32, jq_60, jq_84, jq_1000, jq_2436, jq_20001, x5, e92_23, c1, eg, lN_mul]
      exact tail _
    · have z : jb_g N i = 0 := by omega
      have t0 := tail 0
      rw [z] at t0
      rw [z, Nat.zero_mul]
      rw [z] at x5
      simp (disch := omega) only [jx_bI_s, jx_bL_s, jx_bV_s, eq_self, true_or, or_true, jx_if_t, jx_if_f, jq_b0, jq_b1, jq_bb, jq_b01, jx_if_in, jx_if_lt, jx_if_nlt, jx_if_le, jx_if_nle, jq_eqp, jq_eqn, nI_clamp, nI_add, pk_sub, pk_mul, jn_and, jn_or, jn_xor, jq_andn, jq_shl1, jq_bit, jq_mn, jq_mx, cond_true, cond_false, jq_jt, jq_jf, jq_e1, jq_e2, jq_e3, jq_e4, Bool.not_true, Bool.not_false, jq_0, jq_1, jq_2, jq_3, jq_4, jq_5, jq_6, jq_8, jq_12, jq_16, jq_20, jq_21, jq_24, jq_30, jq_32, jq_60, jq_84, jq_1000, jq_2436, jq_20001, x5, e92_23]
      exact t0
theorem jn_pd_le {f : Nat → Nat} : ∀ n, (∀ i, i < n → f i ≤ 8) → jn_pd f n ≤ 8 ^ n := by
  intro n
  induction n with
  | zero => intro _; exact Nat.le_refl _
  | succ n ih =>
    intro h
    rw [Nat.pow_succ]
    exact Nat.mul_le_mul (ih (fun i hi => h i (by omega))) (h n (by omega))
theorem jn_pd_0 {f : Nat → Nat} {n m : Nat} (h : n ≤ m) (e : jn_pd f n = 0) : jn_pd f m = 0 := by
  obtain ⟨k, rfl⟩ := Nat.le.dest h
  clear h
  induction k with
  | zero => exact e
  | succ k ih =>
    show jn_pd f (n + k) * f (n + k) = 0
    rw [ih, Nat.zero_mul]
theorem dm_turnM {h : jx_H} (w : jb_wf N) (m : jb_M h N) (h12 : jb_n N ≤ 12) : DM (d + 5) 169 [vr 30 0] h = some ([vl (lN (jn_sm (jc_F N) (2 ^ jb_n N)))], h) := by
  have hn := w.2.1
  have h20 := jn_pow20 hn
  have i20 := Nat.two_pow_pos (jb_n N)
  have hw8 : ∀ T r, r < jb_n N → jc_w1 N T r ≤ 8 := fun T r hr => by
    have := (w.2.2 r hr).2.2.2.2
    unfold jc_w1
    split <;> omega
  rw [d169, e169_0]
  refine (jn_loop (fun T => F169_4 (DM (d + 4)) (lN (jn_sm (jc_F N) T)) (nI T) h) (Nat.zero_le (2 ^ jb_n N)) (fun T _ hT => ?_)).trans ?_
  · show F169_4 _ _ _ _ = F169_4 _ (lN (jn_sm (jc_F N) T + jc_F N T)) _ _
    obtain ⟨B, b1, b2⟩ := dm_hangsM (d := d + 1) (W := 0) w m (T := T) (by omega) (by omega)
    have hB : jc_h N T = if B = true then 1 else 0 := by
      cases B
      · rw [jc_h0 (fun c => by cases b2.2 c)]
        rfl
      · rw [jc_h1 (b2.1 rfl)]
        rfl
    have fin : ∀ v : Nat, F169_89 (DM (d + 4)) (lN (jn_sm (jc_F N) T)) (nI T) (lN v) h = F169_4 (DM (d + 4)) (lN (jn_sm (jc_F N) T + v)) (nI (T + 1)) h := by
      intro v
      rw [e169_89, e169_94, lN_add, nI_1]
    have big : (8 : Nat) ^ 12 < 2 ^ 63 := by decide
    have pos : ∀ v : Nat, 0 < v → v ≤ 8 ^ 12 → ∀ a b : Option jx_R, jx_if (nI 0 < lg_cmp (lN v) 0) a b = a := fun v h1 h2 a b => jx_ifp ((lg_cmp_gt _ _).2 ((pk_lLT (a := 0) (b := v) (by decide) (Nat.lt_of_le_of_lt h2 big)).2 h1))
    have npos : ∀ a b : Option jx_R, jx_if (nI 0 < lg_cmp (lN 0) 0) a b = b := fun a b => jx_ifn (by decide)
    have loop : ∀ k i, i + k = jb_n N → F169_31 (DM (d + 4)) (lN (jn_sm (jc_F N) T)) (nI T) (lN (jc_h N T * jn_pd (jc_w1 N T) i)) (nI i) h = F169_4 (DM (d + 4)) (lN (jn_sm (jc_F N) T + jc_F N T)) (nI (T + 1)) h := by
      intro k
      induction k with
      | zero =>
        intro i hi
        have e : i = jb_n N := by omega
        subst e
        rw [e169_31, m.2.1]
        simp (disch := omega) only [jx_bI_s, jx_bL_s, jx_bV_s, eq_self, true_or, or_true, jx_if_t, jx_if_f, jq_b0, jq_b1, jq_bb, jq_b01, jx_if_in, jx_if_lt, jx_if_nlt, jx_if_le, jx_if_nle, jq_eqp, jq_eqn, nI_clamp, nI_add, pk_sub, pk_mul, jn_and, jn_or, jn_xor, jq_andn, jq_shl1, jq_bit, jq_mn, jq_mx, cond_true, cond_false, jq_jt, jq_jf, jq_e1, jq_e2, jq_e3, jq_e4, Bool.not_true, Bool.not_false, jq_0, jq_1, jq_2, jq_3, jq_4, jq_5, jq_6, jq_8, jq_12, jq_16, jq_20, jq_21, jq_24, jq_30, jq_32, jq_60, jq_84, jq_1000, jq_2436, jq_20001]
        exact fin _
      | succ k ih =>
        intro i hi
        have hin : i < jb_n N := by omega
        obtain ⟨_, _, _, w4⟩ := m.2.2.2 i hin
        have hg := (w.2.2 i hin).2.2.2.2
        have eg : (nI (jb_g N i)).toInt64 = lN (jb_g N i) := nI_l (by omega)
        have e8 : (nI (8 - jb_g N i)).toInt64 = lN (8 - jb_g N i) := nI_l (by omega)
        by_cases z : jc_h N T * jn_pd (jc_w1 N T) i = 0
        · have zF : jc_F N T = 0 := by
            unfold jc_F
            rcases Nat.mul_eq_zero.1 z with z | z
            · rw [z, Nat.zero_mul]
            · rw [jn_pd_0 (show i ≤ jb_n N by omega) z, Nat.mul_zero]
          rw [z, zF, e169_31, m.2.1]
          simp (disch := omega) only [jx_bI_s, jx_bL_s, jx_bV_s, eq_self, true_or, or_true, jx_if_t, jx_if_f, jq_b0, jq_b1, jq_bb, jq_b01, jx_if_in, jx_if_lt, jx_if_nlt, jx_if_le, jx_if_nle, jq_eqp, jq_eqn, nI_clamp, nI_add, pk_sub, pk_mul, jn_and, jn_or, jn_xor, jq_andn, jq_shl1, jq_bit, jq_mn, jq_mx, cond_true, cond_false, jq_jt, jq_jf, jq_e1, jq_e2, jq_e3, jq_e4, Bool.not_true, Bool.not_false, jq_0, jq_1, jq_2, jq_3, jq_4, jq_5, jq_6, jq_8, jq_12, jq_16, jq_20, jq_21, jq_24, jq_30, jq_32, jq_60, jq_84, jq_1000, jq_2436, jq_20001, npos]
          exact fin 0
        · have hle : jc_h N T * jn_pd (jc_w1 N T) i ≤ 8 ^ 12 := by
            have h1 : jc_h N T ≤ 1 := by rw [hB]; split <;> omega
            have h2 := jn_pd_le (f := jc_w1 N T) i (fun r hr => hw8 T r (by omega))
            have h3 : (8 : Nat) ^ i ≤ 8 ^ 12 := Nat.pow_le_pow_right (by decide) (by omega)
            have h4 := Nat.mul_le_mul h1 h2
            omega
          have nxt := ih (i + 1) (by omega)
          rw [show jn_pd (jc_w1 N T) (i + 1) = jn_pd (jc_w1 N T) i * jc_w1 N T i from rfl, ← Nat.mul_assoc, ← lN_mul] at nxt
          rw [e169_31, m.2.1]
          cases hb : T.testBit i
          · rw [show jc_w1 N T i = 8 - jb_g N i from if_neg (by rw [hb]; decide)] at nxt
            simp (disch := omega) only [jx_bI_s, jx_bL_s, jx_bV_s, eq_self, true_or, or_true, jx_if_t, jx_if_f, jq_b0, jq_b1, jq_bb, jq_b01, jx_if_in, jx_if_lt, jx_if_nlt, jx_if_le, jx_if_nle, jq_eqp, jq_eqn, nI_clamp, nI_add, pk_sub, pk_mul, jn_and, jn_or, jn_xor, jq_andn, jq_shl1, jq_bit, jq_mn, jq_mx, cond_true, cond_false, jq_jt, jq_jf, jq_e1, jq_e2, jq_e3, jq_e4, Bool.not_true, Bool.not_false, jq_0, jq_1, jq_2, jq_3, jq_4, jq_5, jq_6, jq_8, jq_12, jq_16, jq_20, jq_21, jq_24, jq_30, jq_32, jq_60, jq_84, jq_1000, jq_2436, jq_20001, pos _ (Nat.pos_of_ne_zero z) hle, dm_inN, hb, w4, e8, e169_80, e169_83]
            exact nxt
          · rw [show jc_w1 N T i = jb_g N i from if_pos hb] at nxt
            simp (disch := omega) only [jx_bI_s, jx_bL_s, jx_bV_s, eq_self, true_or, or_true, jx_if_t, jx_if_f, jq_b0, jq_b1, jq_bb, jq_b01, jx_if_in, jx_if_lt, jx_if_nlt, jx_if_le, jx_if_nle, jq_eqp, jq_eqn, nI_clamp, nI_add, pk_sub, pk_mul, jn_and, jn_or, jn_xor, jq_andn, jq_shl1, jq_bit, jq_mn, jq_mx, cond_true, cond_false, jq_jt, jq_jf, jq_e1, jq_e2, jq_e3, jq_e4, Bool.not_true, Bool.not_false, jq_0, jq_1, jq_2, jq_3, jq_4, jq_5, jq_6, jq_8, jq_12, jq_16, jq_20, jq_21, jq_24, jq_30, jq_32, jq_60, jq_84, jq_1000, jq_2436, jq_20001, pos _ (Nat.pos_of_ne_zero z) hle, dm_inN, hb, w4, eg, e169_80, e169_83]
            exact nxt
    have l0 := loop (jb_n N) 0 (by omega)
    rw [show jn_pd (jc_w1 N T) 0 = 1 from rfl, Nat.mul_one, hB] at l0
    rw [e169_4]
    cases B
    · simp (disch := omega) only [jx_bI_s, jx_bL_s, jx_bV_s, eq_self, true_or, or_true, jx_if_t, jx_if_f, jq_b0, jq_b1, jq_bb, jq_b01, jx_if_in, jx_if_lt, jx_if_nlt, jx_if_le, jx_if_nle, jq_eqp, jq_eqn, nI_clamp, nI_add, pk_sub, pk_mul, jn_and, jn_or, jn_xor, jq_andn, jq_shl1, jq_bit, jq_mn, jq_mx, cond_true, cond_false, jq_jt, jq_jf, jq_e1, jq_e2, jq_e3, jq_e4, Bool.not_true, Bool.not_false, jq_0, jq_1, jq_2, jq_3, jq_4, jq_5, jq_6, jq_8, jq_12, jq_16, jq_20, jq_21, jq_24, jq_30, jq_32, jq_60, jq_84, jq_1000, jq_2436, jq_20001, dm_allR (n := jb_n N) (by omega) m.2.1, b1, e169_26]
      exact l0
    · simp (disch := omega) only [jx_bI_s, jx_bL_s, jx_bV_s, eq_self, true_or, or_true, jx_if_t, jx_if_f, jq_b0, jq_b1, jq_bb, jq_b01, jx_if_in, jx_if_lt, jx_if_nlt, jx_if_le, jx_if_nle, jq_eqp, jq_eqn, nI_clamp, nI_add, pk_sub, pk_mul, jn_and, jn_or, jn_xor, jq_andn, jq_shl1, jq_bit, jq_mn, jq_mx, cond_true, cond_false, jq_jt, jq_jf, jq_e1, jq_e2, jq_e3, jq_e4, Bool.not_true, Bool.not_false, jq_0, jq_1, jq_2, jq_3, jq_4, jq_5, jq_6, jq_8, jq_12, jq_16, jq_20, jq_21, jq_24, jq_30, jq_32, jq_60, jq_84, jq_1000, jq_2436, jq_20001, dm_allR (n := jb_n N) (by omega) m.2.1, b1, e169_26]
      exact l0
  · show F169_4 _ _ _ _ = _
    rw [e169_4]
    simp (disch := omega) only [jx_bI_s, jx_bL_s, jx_bV_s, eq_self, true_or, or_true, jx_if_t, jx_if_f, jq_b0, jq_b1, jq_bb, jq_b01, jx_if_in, jx_if_lt, jx_if_nlt, jx_if_le, jx_if_nle, jq_eqp, jq_eqn, nI_clamp, nI_add, pk_sub, pk_mul, jn_and, jn_or, jn_xor, jq_andn, jq_shl1, jq_bit, jq_mn, jq_mx, cond_true, cond_false, jq_jt, jq_jf, jq_e1, jq_e2, jq_e3, jq_e4, Bool.not_true, Bool.not_false, jq_0, jq_1, jq_2, jq_3, jq_4, jq_5, jq_6, jq_8, jq_12, jq_16, jq_20, jq_21, jq_24, jq_30, jq_32, jq_60, jq_84, jq_1000, jq_2436, jq_20001, dm_allR (n := jb_n N) (by omega) m.2.1]
end
/-! the step -/
theorem jb_disc {N : jb_N} (w : jb_wf N) (ht : jb_t N = false) (hp1 : 1 ≤ jb_p N) (h : ¬ jb_hg N 0 (2 ^ jb_n N - 1)) : jc_T N (2 ^ jb_p N - 1) = 0 := by
  have i8 := Nat.two_pow_pos (jb_p N)
  have hR := fun y => jb_R_t w (W := 0) (T := 2 ^ jb_n N - 1) (a := 0) (x := y) (by omega)
  have hRl := jb_R_lt (N := N) (W := 0) (T := 2 ^ jb_n N - 1) (a := 0)
  refine jc_zero w ht (2 ^ jb_p N - 1) (jb_R N 0 (2 ^ jb_n N - 1) 0) (jn_allr (by omega)) ((hR 0).2 jb_rc.rf) (fun i hi => jn_allr (jn_hi hRl hi)) (fun e => h ?_) (fun r hr => ?_)
  · refine ⟨by omega, fun q hq _ x hx _ => ?_⟩
    have a := (hR q).1 (by rw [e]; exact jn_allr hq)
    have b := (hR x).1 (by rw [e]; exact jn_allr hx)
    exact (jb_rc_sym ht a).tr b
  · cases hb : jp_btb N (jb_R N 0 (2 ^ jb_n N - 1) 0) (jn_df (2 ^ jb_p N - 1) (jb_R N 0 (2 ^ jb_n N - 1) 0)) r with
    | false => rfl
    | true =>
      exfalso
      have cl := jb_rc_cl N 0 (2 ^ jb_n N - 1) 0 r hr (jn_allr hr) (Nat.zero_testBit _) (Nat.zero_testBit _)
      rcases jp_btb_t.1 hb with ⟨k1, k2⟩ | ⟨k0, k1, k2⟩
      · rw [jn_df_t, (hR _).2 (cl.1 ((hR _).1 k1))] at k2
        simp at k2
      · rw [jn_df_t, (hR _).2 (cl.2 k0 ((hR _).1 k1))] at k2
        simp at k2
theorem jb_SM2 {h0 h : jx_H} (f : h.1 = h0.1) : jb_SM h0 h := ⟨fun c _ _ _ => by rw [f], fun r _ => ⟨by rw [f], by rw [f]⟩⟩
theorem jt_31 {d : Nat} {hx hm : jx_H} (I : jb_Inv hx hm) : jl_gL d 90 168 [] hx hm := by
  obtain ⟨N, w, x, m, h', rd, I', x', P⟩ := I.rd d
  have hn := w.2.1
  have hp := w.1
  have h8 := jn_pow8 hp
  have h20 := jn_pow20 hn
  have i8 := Nat.two_pow_pos (jb_p N)
  have i20 := Nat.two_pow_pos (jb_n N)
  -- with the fields of Chances
  have fr : ∀ c, c ≠ 26 → (jx_sI (jx_sI h' 26 0 0 (nI 1)) 26 0 1 (nI 1)).1 c = h'.1 c := fun c hc => by rw [jx_sk hc, jx_sk hc]
  have P2 : jp_P (jx_sI (jx_sI h' 26 0 0 (nI 1)) 26 0 1 (nI 1)) N := by
    unfold jp_P jp_H jp_T at *
    rw [fr 14 (by decide), fr 15 (by decide), fr 16 (by decide), fr 17 (by decide), fr 18 (by decide)]
    exact P
  have x2 : jb_X (jx_sI (jx_sI h' 26 0 0 (nI 1)) 26 0 1 (nI 1)) 0 N := x'.kept (fun c h1 h2 => by rw [fr c (by omega)])
  have I2 : jb_Inv (jx_sI (jx_sI h' 26 0 0 (nI 1)) 26 0 1 (nI 1)) hm := I'.sx (jb_SX1 (k := 26) (by unfold jb_sx; omega) (by decide) (by decide) (by decide) (by decide) fr) jb_SM.rf
  have g0 : (jx_sI (jx_sI h' 26 0 0 (nI 1)) 26 0 1 (nI 1)).1 26 0 0 = nI 1 := by rw [jx_sp (by decide), jx_ss]
  have g1 : (jx_sI (jx_sI h' 26 0 0 (nI 1)) 26 0 1 (nI 1)).1 26 0 1 = nI 1 := jx_ss
  have p4 : h'.1 14 0 4 = nI (2 ^ jb_n N - 1) := P.1.2.2.2.2.1
  generalize hH : jx_sI (jx_sI h' 26 0 0 (nI 1)) 26 0 1 (nI 1) = H at *
  obtain ⟨B, b1, b2⟩ := dm_hangsX (d := d + 37) w P2 (T := 2 ^ jb_n N - 1) (by omega)
  have xp : ∀ r H', (¬ (jb_t N = true ∧ 12 < jb_n N)) → F91_0 (DM (d + 38)) h' = some ([vl r], H') → DM (d + 40) 90 [vr 0 0] hx = some ([vl r], H') := by
    intro r H' hno hr
    rw [d90, e90_0, x.2.2.1, x.2.1]
    cases ht : jb_t N
    · simp (disch := omega) only [jx_bI_s, jx_bL_s, jx_bV_s, eq_self, true_or, or_true, jx_if_t, jx_if_f, jq_b0, jq_b1, jq_bb, jq_b01, jx_if_in, jx_if_lt, jx_if_nlt, jx_if_le, jx_if_nle, jq_eqp, jq_eqn, nI_clamp, nI_add, pk_sub, pk_mul, jn_and, jn_or, jn_xor, jq_andn, jq_shl1, jq_bit, jq_mn, jq_mx, cond_true, cond_false, jq_jt, jq_jf, jq_e1, jq_e2, jq_e3, jq_e4, Bool.not_true, Bool.not_false, jq_0, jq_1, jq_2, jq_3, jq_4, jq_5, jq_6, jq_8, jq_12, jq_16, jq_20, jq_21, jq_24, jq_30, jq_32, jq_60, jq_84, jq_1000, jq_2436, jq_20001, e90_30, rd, d91, hr]
    · have : jb_n N ≤ 12 := by
        apply Classical.byContradiction
        intro c
        exact hno ⟨ht, by omega⟩
      simp (disch := omega) only [jx_bI_s, jx_bL_s, jx_bV_s, eq_self, true_or, or_true, jx_if_t, jx_if_f, jq_b0, jq_b1, jq_bb, jq_b01, jx_if_in, jx_if_lt, jx_if_nlt, jx_if_le, jx_if_nle, jq_eqp, jq_eqn, nI_clamp, nI_add, pk_sub, pk_mul, jn_and, jn_or, jn_xor, jq_andn, jq_shl1, jq_bit, jq_mn, jq_mx, cond_true, cond_false, jq_jt, jq_jf, jq_e1, jq_e2, jq_e3, jq_e4, Bool.not_true, Bool.not_false, jq_0, jq_1, jq_2, jq_3, jq_4, jq_5, jq_6, jq_8, jq_12, jq_16, jq_20, jq_21, jq_24, jq_30, jq_32, jq_60, jq_84, jq_1000, jq_2436, jq_20001, e90_30, rd, d91, hr]
  have e91 : F91_0 (DM (d + 38)) h' = (bif B then (bif jb_t N then (jx_bL (DM (d + 38) 92 [vr 26 0, vi (nI 0), vi (nI 0)] H) fun y3 h3 => F91_52 (DM (d + 38)) y3 h3) else (jx_bL (DM (d + 38) 93 [vr 26 0] H) fun y2 h2 => F91_52 (DM (d + 38)) y2 h2)) else some ([vl 0], H)) := by
    have pt : H.1 14 0 2 = jn_b (jb_t N) := P2.1.2.2.1
    rw [e91_0]
    cases B
    · simp (disch := omega) only [jx_bI_s, jx_bL_s, jx_bV_s, eq_self, true_or, or_true, jx_if_t, jx_if_f, jq_b0, jq_b1, jq_bb, jq_b01, jx_if_in, jx_if_lt, jx_if_nlt, jx_if_le, jx_if_nle, jq_eqp, jq_eqn, nI_clamp, nI_add, pk_sub, pk_mul, jn_and, jn_or, jn_xor, jq_andn, jq_shl1, jq_bit, jq_mn, jq_mx, cond_true, cond_false, jq_jt, jq_jf, jq_e1, jq_e2, jq_e3, jq_e4, Bool.not_true, Bool.not_false, jq_0, jq_1, jq_2, jq_3, jq_4, jq_5, jq_6, jq_8, jq_12, jq_16, jq_20, jq_21, jq_24, jq_30, jq_32, jq_60, jq_84, jq_1000, jq_2436, jq_20001, p4, hH, b1]
    · cases ht : jb_t N
      · rw [ht] at pt
        simp (disch := omega) only [jx_bI_s, jx_bL_s, jx_bV_s, eq_self, true_or, or_true, jx_if_t, jx_if_f, jq_b0, jq_b1, jq_bb, jq_b01, jx_if_in, jx_if_lt, jx_if_nlt, jx_if_le, jx_if_nle, jq_eqp, jq_eqn, nI_clamp, nI_add, pk_sub, pk_mul, jn_and, jn_or, jn_xor, jq_andn, jq_shl1, jq_bit, jq_mn, jq_mx, cond_true, cond_false, jq_jt, jq_jf, jq_e1, jq_e2, jq_e3, jq_e4, Bool.not_true, Bool.not_false, jq_0, jq_1, jq_2, jq_3, jq_4, jq_5, jq_6, jq_8, jq_12, jq_16, jq_20, jq_21, jq_24, jq_30, jq_32, jq_60, jq_84, jq_1000, jq_2436, jq_20001, p4, hH, b1, g0, pt]
      · rw [ht] at pt
        simp (disch := omega) only [jx_bI_s, jx_bL_s, jx_bV_s, eq_self, true_or, or_true, jx_if_t, jx_if_f, jq_b0, jq_b1, jq_bb, jq_b01, jx_if_in, jx_if_lt, jx_if_nlt, jx_if_le, jx_if_nle, jq_eqp, jq_eqn, nI_clamp, nI_add, pk_sub, pk_mul, jn_and, jn_or, jn_xor, jq_andn, jq_shl1, jq_bit, jq_mn, jq_mx, cond_true, cond_false, jq_jt, jq_jf, jq_e1, jq_e2, jq_e3, jq_e4, Bool.not_true, Bool.not_false, jq_0, jq_1, jq_2, jq_3, jq_4, jq_5, jq_6, jq_8, jq_12, jq_16, jq_20, jq_21, jq_24, jq_30, jq_32, jq_60, jq_84, jq_1000, jq_2436, jq_20001, p4, hH, b1, g0, pt]
  have mp : ∀ r H', (¬ (jb_t N = true ∧ 12 < jb_n N)) → F168_24 (DM (d + 39)) hm = some ([vl r], H') → DM (d + 40) 168 [vr 30 0] hm = some ([vl r], H') := by
    intro r H' hno hr
    rw [d168, e168_0, m.2.2.1, m.2.1]
    cases ht : jb_t N
    · simp (disch := omega) only [jx_bI_s, jx_bL_s, jx_bV_s, eq_self, true_or, or_true, jx_if_t, jx_if_f, jq_b0, jq_b1, jq_bb, jq_b01, jx_if_in, jx_if_lt, jx_if_nlt, jx_if_le, jx_if_nle, jq_eqp, jq_eqn, nI_clamp, nI_add, pk_sub, pk_mul, jn_and, jn_or, jn_xor, jq_andn, jq_shl1, jq_bit, jq_mn, jq_mx, cond_true, cond_false, jq_jt, jq_jf, jq_e1, jq_e2, jq_e3, jq_e4, Bool.not_true, Bool.not_false, jq_0, jq_1, jq_2, jq_3, jq_4, jq_5, jq_6, jq_8, jq_12, jq_16, jq_20, jq_21, jq_24, jq_30, jq_32, jq_60, jq_84, jq_1000, jq_2436, jq_20001]
      exact hr
    · have : jb_n N ≤ 12 := by
        apply Classical.byContradiction
        intro c
        exact hno ⟨ht, by omega⟩
      simp (disch := omega) only [jx_bI_s, jx_bL_s, jx_bV_s, eq_self, true_or, or_true, jx_if_t, jx_if_f, jq_b0, jq_b1, jq_bb, jq_b01, jx_if_in, jx_if_lt, jx_if_nlt, jx_if_le, jx_if_nle, jq_eqp, jq_eqn, nI_clamp, nI_add, pk_sub, pk_mul, jn_and, jn_or, jn_xor, jq_andn, jq_shl1, jq_bit, jq_mn, jq_mx, cond_true, cond_false, jq_jt, jq_jf, jq_e1, jq_e2, jq_e3, jq_e4, Bool.not_true, Bool.not_false, jq_0, jq_1, jq_2, jq_3, jq_4, jq_5, jq_6, jq_8, jq_12, jq_16, jq_20, jq_21, jq_24, jq_30, jq_32, jq_60, jq_84, jq_1000, jq_2436, jq_20001]
      exact hr
  by_cases long : jb_t N = true ∧ 12 < jb_n N
  · refine ⟨(-7 : Int32).toInt64, _, _, ?_, ?_, I.fd⟩
    · rw [d90, e90_0, x.2.2.1, x.2.1, long.1, show (-7 : Int32) = -nI 7 from rfl]
      have := long.2
      simp (disch := omega) only [jx_bI_s, jx_bL_s, jx_bV_s, eq_self, true_or, or_true, jx_if_t, jx_if_f, jq_b0, jq_b1, jq_bb, jq_b01, jx_if_in, jx_if_lt, jx_if_nlt, jx_if_le, jx_if_nle, jq_eqp, jq_eqn, nI_clamp, nI_add, pk_sub, pk_mul, jn_and, jn_or, jn_xor, jq_andn, jq_shl1, jq_bit, jq_mn, jq_mx, cond_true, cond_false, jq_jt, jq_jf, jq_e1, jq_e2, jq_e3, jq_e4, Bool.not_true, Bool.not_false, jq_0, jq_1, jq_2, jq_3, jq_4, jq_5, jq_6, jq_8, jq_12, jq_16, jq_20, jq_21, jq_24, jq_30, jq_32, jq_60, jq_84, jq_1000, jq_2436, jq_20001, dm_fx]
    · rw [d168, e168_0, m.2.2.1, m.2.1, long.1, show (-7 : Int32) = -nI 7 from rfl]
      have := long.2
      simp (disch := omega) only [jx_bI_s, jx_bL_s, jx_bV_s, eq_self, true_or, or_true, jx_if_t, jx_if_f, jq_b0, jq_b1, jq_bb, jq_b01, jx_if_in, jx_if_lt, jx_if_nlt, jx_if_le, jx_if_nle, jq_eqp, jq_eqn, nI_clamp, nI_add, pk_sub, pk_mul, jn_and, jn_or, jn_xor, jq_andn, jq_shl1, jq_bit, jq_mn, jq_mx, cond_true, cond_false, jq_jt, jq_jf, jq_e1, jq_e2, jq_e3, jq_e4, Bool.not_true, Bool.not_false, jq_0, jq_1, jq_2, jq_3, jq_4, jq_5, jq_6, jq_8, jq_12, jq_16, jq_20, jq_21, jq_24, jq_30, jq_32, jq_60, jq_84, jq_1000, jq_2436, jq_20001, dm_fm]
  by_cases hp0 : jb_p N = 0
  · have hB : B = false := by
      cases B with
      | false => rfl
      | true => have := (b2.1 rfl).1; omega
    subst hB
    refine ⟨0, H, hm, xp _ _ long (by rw [e91]; rfl), mp _ _ long ?_, I2⟩
    rw [e168_24, m.1, hp0]
    simp (disch := omega) only [jx_bI_s, jx_bL_s, jx_bV_s, eq_self, true_or, or_true, jx_if_t, jx_if_f, jq_b0, jq_b1, jq_bb, jq_b01, jx_if_in, jx_if_lt, jx_if_nlt, jx_if_le, jx_if_nle, jq_eqp, jq_eqn, nI_clamp, nI_add, pk_sub, pk_mul, jn_and, jn_or, jn_xor, jq_andn, jq_shl1, jq_bit, jq_mn, jq_mx, cond_true, cond_false, jq_jt, jq_jf, jq_e1, jq_e2, jq_e3, jq_e4, Bool.not_true, Bool.not_false, jq_0, jq_1, jq_2, jq_3, jq_4, jq_5, jq_6, jq_8, jq_12, jq_16, jq_20, jq_21, jq_24, jq_30, jq_32, jq_60, jq_84, jq_1000, jq_2436, jq_20001, e168_53]
  · cases ht : jb_t N
    · obtain ⟨hm', k1, k2⟩ := dm_chM (d := d + 35) (h0 := hm) w m ht (by omega) (2 ^ jb_p N - 1) 1 hm (by omega) (by omega) rfl (fun Y y1 y2 => by omega)
      have hM : F168_24 (DM (d + 39)) hm = some ([vl (jc_T N (2 ^ jb_p N - 1))], hm') := by
        rw [e168_24, m.1, m.2.2.1, ht]
        simp (disch := omega) only [jx_bI_s, jx_bL_s, jx_bV_s, eq_self, true_or, or_true, jx_if_t, jx_if_f, jq_b0, jq_b1, jq_bb, jq_b01, jx_if_in, jx_if_lt, jx_if_nlt, jx_if_le, jx_if_nle, jq_eqp, jq_eqn, nI_clamp, nI_add, pk_sub, pk_mul, jn_and, jn_or, jn_xor, jq_andn, jq_shl1, jq_bit, jq_mn, jq_mx, cond_true, cond_false, jq_jt, jq_jf, jq_e1, jq_e2, jq_e3, jq_e4, Bool.not_true, Bool.not_false, jq_0, jq_1, jq_2, jq_3, jq_4, jq_5, jq_6, jq_8, jq_12, jq_16, jq_20, jq_21, jq_24, jq_30, jq_32, jq_60, jq_84, jq_1000, jq_2436, jq_20001, d170, e170_0, k1, e168_53]
      cases B
      · have z := jb_disc w ht (by omega) (fun c => by cases b2.2 c)
        rw [z] at hM
        exact ⟨0, H, hm', xp _ _ long (by rw [e91]; rfl), mp _ _ long hM, I2.sx jb_SX.rf (jb_SM2 k2)⟩
      · have hpe : 2 ^ jb_p N = 2 * 2 ^ (jb_p N - 1) := by
          rw [show jb_p N = (jb_p N - 1) + 1 by omega, Nat.pow_succ, Nat.mul_comm, Nat.add_sub_cancel]
        obtain ⟨H', q1, q2⟩ := dm_plainX (d := d + 34) (h0 := H) w x2 P2 (by omega) g0 g1 (2 ^ (jb_p N - 1)) 0 H (by omega) rfl (fun z hz => by omega)
        have q1 : F93_2 (DM (d + 37)) (nI 1) H = some ([vl (jc_T N (2 ^ jb_p N - 1))], H') := q1
        refine ⟨jc_T N (2 ^ jb_p N - 1), H', hm', xp _ _ long ?_, mp _ _ long hM, I2.sx ⟨fun c _ => by rw [q2], fun z => by unfold jb_zero at *; rw [q2]; exact z⟩ (jb_SM2 k2)⟩
        rw [e91, ht, cond_true, cond_false, d93, e93_0, show (1 : Int32) = nI 1 from rfl, q1, jx_bL_s, e91_52]
    · have h12 : jb_n N ≤ 12 := by
        apply Classical.byContradiction
        intro c
        exact long ⟨ht, by omega⟩
      have hM : F168_24 (DM (d + 39)) hm = some ([vl (lN (jn_sm (jc_F N) (2 ^ jb_n N)))], hm) := by
        rw [e168_24, m.1, m.2.2.1, ht]
        simp (disch := omega) only [jx_bI_s, jx_bL_s, jx_bV_s, eq_self, true_or, or_true, jx_if_t, jx_if_f, jq_b0, jq_b1, jq_bb, jq_b01, jx_if_in, jx_if_lt, jx_if_nlt, jx_if_le, jx_if_nle, jq_eqp, jq_eqn, nI_clamp, nI_add, pk_sub, pk_mul, jn_and, jn_or, jn_xor, jq_andn, jq_shl1, jq_bit, jq_mn, jq_mx, cond_true, cond_false, jq_jt, jq_jf, jq_e1, jq_e2, jq_e3, jq_e4, Bool.not_true, Bool.not_false, jq_0, jq_1, jq_2, jq_3, jq_4, jq_5, jq_6, jq_8, jq_12, jq_16, jq_20, jq_21, jq_24, jq_30, jq_32, jq_60, jq_84, jq_1000, jq_2436, jq_20001, dm_turnM w m h12, e168_53]
      have hs := jc_sum (N := N) (jb_n N) 0 (Nat.le_refl _) (by rw [Nat.sub_self]; decide)
      have es : jn_sm (jc_F N) (2 ^ jb_n N) = jc_w N (jb_n N) 0 := by
        rw [Nat.sub_self] at hs
        rw [show jn_pd (jc_w1 N 0) 0 = 1 from rfl, Nat.one_mul] at hs
        rw [← hs]
        refine jn_sm_congr _ (fun u _ => ?_)
        rw [Nat.pow_zero, Nat.mul_one, Nat.zero_add]
      have eall : (0 : Nat) ||| jn_df (2 ^ jb_n N - 1) (2 ^ (jb_n N - jb_n N) - 1) = 2 ^ jb_n N - 1 := by
        rw [Nat.sub_self, Nat.zero_or]
        apply Nat.eq_of_testBit_eq
        intro i
        rw [jn_df_t, show 2 ^ 0 - 1 = 0 from rfl, Nat.zero_testBit]
        simp
      rw [es] at hM
      cases B
      · have z := jc_w_0 (N := N) (jb_n N) 0 (Nat.le_refl _) (by rw [eall]; exact fun c => by cases b2.2 c)
        rw [z] at hM
        exact ⟨0, H, hm, xp _ _ long (by rw [e91]; rfl), mp _ _ long hM, I2⟩
      · have c := dm_sumX (d := d + 35 - jb_n N) w x2 P2 g0 g1 (jb_n N) 0 (Nat.le_refl _) i20 (by rw [eall]; exact b2.1 rfl)
        rw [show d + 35 - jb_n N + jb_n N + 3 = d + 38 by omega, Nat.sub_self] at c
        refine ⟨lN (jc_w N (jb_n N) 0), H, hm, xp _ _ long ?_, mp _ _ long hM, I2⟩
        rw [e91, ht, cond_true, cond_true, c, jx_bL_s, e91_52]
