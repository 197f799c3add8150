/-! ===== layer 2: forests; what sets lack ===== -/
def jn_mx (f : Nat → Nat) : Nat → Nat
  | 0 => 0
  | n + 1 => max (jn_mx f n) (f n)
theorem jn_mx_le {f : Nat → Nat} {b : Nat} : ∀ n, (∀ i, i < n → f i ≤ b) → jn_mx f n ≤ b := by
  intro n
  induction n with
  | zero => intro _; exact Nat.zero_le _
  | succ n ih =>
    intro h
    exact Nat.max_le.2 ⟨ih (fun i hi => h i (by omega)), h n (by omega)⟩
theorem jn_mx_ge {f : Nat → Nat} : ∀ {n i : Nat}, i < n → f i ≤ jn_mx f n := by
  intro n
  induction n with
  | zero => intro i h; omega
  | succ n ih =>
    intro i h
    by_cases e : i = n
    · subst e
      exact Nat.le_max_right _ _
    · exact Nat.le_trans (ih (by omega)) (Nat.le_max_left _ _)
theorem jn_mx_at {f : Nat → Nat} : ∀ (n : Nat), jn_mx f n = 0 ∨ ∃ i, i < n ∧ jn_mx f n = f i := by
  intro n
  induction n with
  | zero => exact Or.inl rfl
  | succ n ih =>
    by_cases h : jn_mx f n ≤ f n
    · right
      exact ⟨n, by omega, Nat.max_eq_right h⟩
    · have e : jn_mx f (n + 1) = jn_mx f n := Nat.max_eq_left (by omega)
      rw [e]
      rcases ih with ih | ⟨i, h1, h2⟩
      · exact Or.inl ih
      · exact Or.inr ⟨i, by omega, h2⟩
theorem jn_mx_congr {f g : Nat → Nat} : ∀ n, (∀ i, i < n → f i = g i) → jn_mx f n = jn_mx g n := by
  intro n
  induction n with
  | zero => intro _; rfl
  | succ n ih =>
    intro h
    show max (jn_mx f n) (f n) = max (jn_mx g n) (g n)
    rw [ih (fun i hi => h i (by omega)), h n (by omega)]
def jb_fo (N : jb_N) (X : Nat) : Nat := if jn_pc X ≤ 1 then 0 else (jb_wi N X + (jn_pc X - 1) - 1) / (jn_pc X - 1)
theorem jb_fo_le {N : jb_N} (hn : jb_n N ≤ 20) (X : Nat) : jb_fo N X ≤ 60 := by
  unfold jb_fo
  have h1 : jb_wi N X ≤ jb_n N := jn_ct_le _ _
  have h2 := jn_pc_le X
  split
  · omega
  · exact Nat.le_trans (Nat.div_le_self _ _) (by omega)
theorem jp_wi {N : jb_N} (hn : jb_n N ≤ 20) (X : Nat) : jn_pc (jp_st N X &&& jp_en N X) = jb_wi N X := by
  unfold jp_st jp_en
  rw [jn_mk_and, jn_pc_mk _ (by omega)]
  rfl
section
variable {d : Nat} {h : jx_H} {N : jb_N}
theorem jn_pc_pos {X p : Nat} (hp : p ≤ 32) (hX : X < 2 ^ p) (h1 : 1 ≤ X) : 1 ≤ jn_pc X := by
  obtain ⟨q, hq⟩ := jn_some h1
  have := jn_hi hX hq
  exact jn_ct_pos.2 ⟨q, by omega, hq⟩
theorem dm_forestX (w : jb_wf N) (P : jp_P h N) : DM (d + 2) 78 [vr 22 0, vr 14 0] h = some ([vi (nI (jn_mx (jb_fo N) (2 ^ jb_p N)))], h) := by
  obtain ⟨⟨p0, p1, p2, p3, p4, p5, p6⟩, pT⟩ := P
  have hn := w.2.1
  have hp := w.1
  have h8 := jn_pow8 hp
  have h20 := jn_pow20 hn
  have i8 := Nat.two_pow_pos (jb_p N)
  have e1 : jn_mx (jb_fo N) 1 = 0 := by
    show max 0 (jb_fo N 0) = 0
    rfl
  rw [d78, e78_0]
  refine Eq.trans (?_ : _ = F78_4 (DM (d + 1)) (nI (jn_mx (jb_fo N) 1)) (nI 1) h) ?_
  · rw [e1]
    rfl
  refine (jn_loop (fun i => F78_4 (DM (d + 1)) (nI (jn_mx (jb_fo N) i)) (nI i) h) (show 1 ≤ 2 ^ jb_p N by omega) (fun i hi1 hi => ?_)).trans ?_
  · show F78_4 _ _ _ _ = F78_4 _ (nI (max (jn_mx (jb_fo N) i) (jb_fo N i))) _ _
    have hm := jn_mx_le (f := jb_fo N) (b := 60) i (fun j _ => jb_fo_le hn j)
    have hf := jb_fo_le hn i
    have hpc := jn_pc_pos (p := jb_p N) (by omega) hi hi1
    have hpl := jn_pc_le i
    have hst := jp_st_lt N i
    have hal : jp_st N i &&& jp_en N i < 2 ^ jb_n N := jn_and_lt hst
    have hwi : jb_wi N i ≤ jb_n N := jn_ct_le _ _
    obtain ⟨⟨t1, t2, _⟩, _⟩ := pT i hi
    rw [e78_4, p3]
    by_cases c : jn_pc i ≤ 1
    · rw [show jb_fo N i = 0 from if_pos c, Nat.max_zero]
      simp (disch := omega) only [jx_bI_s, jx_bL_s, jx_bV_s, eq_self, true_or, or_true, jx_if_t, jx_if_f, jq_b0, jq_b1, jq_bb, jq_b01, jx_if_in, jx_if_lt, jx_if_nlt, jx_if_le, jx_if_nle, jq_eqp, jq_eqn, nI_clamp, nI_add, pk_sub, pk_mul, jn_and, jn_or, jn_xor, jq_andn, jq_shl1, jq_bit, jq_mn, jq_mx, cond_true, cond_false, jq_jt, jq_jf, jq_e1, jq_e2, jq_e3, jq_e4, Bool.not_true, Bool.not_false, jq_0, jq_1, jq_2, jq_3, jq_4, jq_5, jq_6, jq_8, jq_12, jq_16, jq_20, jq_21, jq_24, jq_30, jq_32, jq_60, jq_84, jq_1000, jq_2436, jq_20001, dm_bc, e78_20, e78_58]
    · have ef : jb_fo N i = (jb_wi N i + (jn_pc i - 1) - 1) / (jn_pc i - 1) := if_neg c
      rw [ef] at hf ⊢
      simp (disch := omega) only [jx_bI_s, jx_bL_s, jx_bV_s, eq_self, true_or, or_true, jx_if_t, jx_if_f, jq_b0, jq_b1, jq_bb, jq_b01, jx_if_in, jx_if_lt, jx_if_nlt, jx_if_le, jx_if_nle, jq_eqp, jq_eqn, nI_clamp, nI_add, pk_sub, pk_mul, jn_and, jn_or, jn_xor, jq_andn, jq_shl1, jq_bit, jq_mn, jq_mx, cond_true, cond_false, jq_jt, jq_jf, jq_e1, jq_e2, jq_e3, jq_e4, Bool.not_true, Bool.not_false, jq_0, jq_1, jq_2, jq_3, jq_4, jq_5, jq_6, jq_8, jq_12, jq_16, jq_20, jq_21, jq_24, jq_30, jq_32, jq_60, jq_84, jq_1000, jq_2436, jq_20001, dm_bc, e78_20, e78_58, t1, t2, jp_wi hn, pk_div]
  · show F78_4 _ _ _ _ = _
    rw [e78_4, p3]
    simp (disch := omega) only [jx_bI_s, jx_bL_s, jx_bV_s, eq_self, true_or, or_true, jx_if_t, jx_if_f, jq_b0, jq_b1, jq_bb, jq_b01, jx_if_in, jx_if_lt, jx_if_nlt, jx_if_le, jx_if_nle, jq_eqp, jq_eqn, nI_clamp, nI_add, pk_sub, pk_mul, jn_and, jn_or, jn_xor, jq_andn, jq_shl1, jq_bit, jq_mn, jq_mx, cond_true, cond_false, jq_jt, jq_jf, jq_e1, jq_e2, jq_e3, jq_e4, Bool.not_true, Bool.not_false, jq_0, jq_1, jq_2, jq_3, jq_4, jq_5, jq_6, jq_8, jq_12, jq_16, jq_20, jq_21, jq_24, jq_30, jq_32, jq_60, jq_84, jq_1000, jq_2436, jq_20001]
theorem dm_forestM (w : jb_wf N) (m : jb_M h N) : F159_18 (DM (d + 2)) (nI 0) (nI 0) h = some ([vi (nI (jn_mx (jb_fo N) (2 ^ jb_p N)))], h) := by
  have hn := w.2.1
  have hp := w.1
  have h8 := jn_pow8 hp
  have i8 := Nat.two_pow_pos (jb_p N)
  refine (jn_loop (fun i => F159_18 (DM (d + 2)) (nI (jn_mx (jb_fo N) i)) (nI i) h) (Nat.zero_le (2 ^ jb_p N)) (fun i _ hi => ?_)).trans ?_
  · show F159_18 _ _ _ _ = F159_18 _ (nI (max (jn_mx (jb_fo N) i) (jb_fo N i))) _ _
    have hm := jn_mx_le (f := jb_fo N) (b := 60) i (fun j _ => jb_fo_le hn j)
    have hf := jb_fo_le hn i
    have hpl := jn_pc_le i
    have hwi : jb_wi N i ≤ jb_n N := jn_ct_le _ _
    rw [e159_18]
    by_cases c0 : i = 0
    · subst c0
      have e0 : jn_pc 0 = 0 := by decide
      have ef : jb_fo N 0 = 0 := by
        unfold jb_fo
        rw [if_pos (by rw [e0]; decide)]
      rw [ef, Nat.max_zero]
      have lt : jx_if (nI 0 - nI 1 < nI 1) (F159_53 (DM (d + 2)) (nI (jn_mx (jb_fo N) 0)) (nI 0) (nI 0) h) (jx_bI (DM (d + 2) 160 [vr 30 0, vi (nI 0)] h) fun y1 h1 => (jx_if ((nI 0 - nI 1) = nI 0) none (F159_53 (DM (d + 2)) (nI (jn_mx (jb_fo N) 0)) (nI 0) (((y1 + (nI 0 - nI 1)) - nI 1) / (nI 0 - nI 1)) h1))) = (F159_53 (DM (d + 2)) (nI (jn_mx (jb_fo N) 0)) (nI 0) (nI 0) h) := jx_ifp (by decide)
      simp (disch := omega) only [jx_bI_s, jx_bL_s, jx_bV_s, eq_self, true_or, or_true, jx_if_t, jx_if_f, jq_b0, jq_b1, jq_bb, jq_b01, jx_if_in, jx_if_lt, jx_if_nlt, jx_if_le, jx_if_nle, jq_eqp, jq_eqn, nI_clamp, nI_add, pk_sub, pk_mul, jn_and, jn_or, jn_xor, jq_andn, jq_shl1, jq_bit, jq_mn, jq_mx, cond_true, cond_false, jq_jt, jq_jf, jq_e1, jq_e2, jq_e3, jq_e4, Bool.not_true, Bool.not_false, jq_0, jq_1, jq_2, jq_3, jq_4, jq_5, jq_6, jq_8, jq_12, jq_16, jq_20, jq_21, jq_24, jq_30, jq_32, jq_60, jq_84, jq_1000, jq_2436, jq_20001, dm_all (n := jb_p N) (by omega) m.1, dm_countOf, e0, e159_33]
      rw [lt]
      simp (disch := omega) only [jx_bI_s, jx_bL_s, jx_bV_s, eq_self, true_or, or_true, jx_if_t, jx_if_f, jq_b0, jq_b1, jq_bb, jq_b01, jx_if_in, jx_if_lt, jx_if_nlt, jx_if_le, jx_if_nle, jq_eqp, jq_eqn, nI_clamp, nI_add, pk_sub, pk_mul, jn_and, jn_or, jn_xor, jq_andn, jq_shl1, jq_bit, jq_mn, jq_mx, cond_true, cond_false, jq_jt, jq_jf, jq_e1, jq_e2, jq_e3, jq_e4, Bool.not_true, Bool.not_false, jq_0, jq_1, jq_2, jq_3, jq_4, jq_5, jq_6, jq_8, jq_12, jq_16, jq_20, jq_21, jq_24, jq_30, jq_32, jq_60, jq_84, jq_1000, jq_2436, jq_20001, e159_53, e159_55, e159_67]
    · have hpc := jn_pc_pos (p := jb_p N) (by omega) hi (by omega)
      by_cases c : jn_pc i ≤ 1
      · rw [show jb_fo N i = 0 from if_pos c, Nat.max_zero]
        simp (disch := omega) only [jx_bI_s, jx_bL_s, jx_bV_s, eq_self, true_or, or_true, jx_if_t, jx_if_f, jq_b0, jq_b1, jq_bb, jq_b01, jx_if_in, jx_if_lt, jx_if_nlt, jx_if_le, jx_if_nle, jq_eqp, jq_eqn, nI_clamp, nI_add, pk_sub, pk_mul, jn_and, jn_or, jn_xor, jq_andn, jq_shl1, jq_bit, jq_mn, jq_mx, cond_true, cond_false, jq_jt, jq_jf, jq_e1, jq_e2, jq_e3, jq_e4, Bool.not_true, Bool.not_false, jq_0, jq_1, jq_2, jq_3, jq_4, jq_5, jq_6, jq_8, jq_12, jq_16, jq_20, jq_21, jq_24, jq_30, jq_32, jq_60, jq_84, jq_1000, jq_2436, jq_20001, dm_all (n := jb_p N) (by omega) m.1, dm_countOf, e159_33, e159_53, e159_55, e159_67]
      · have ef : jb_fo N i = (jb_wi N i + (jn_pc i - 1) - 1) / (jn_pc i - 1) := if_neg c
        rw [ef] at hf ⊢
        by_cases cl : (jb_wi N i + (jn_pc i - 1) - 1) / (jn_pc i - 1) ≤ jn_mx (jb_fo N) i
        · rw [Nat.max_eq_left cl]
          simp (disch := omega) only [jx_bI_s, jx_bL_s, jx_bV_s, eq_self, true_or, or_true, jx_if_t, jx_if_f, jq_b0, jq_b1, jq_bb, jq_b01, jx_if_in, jx_if_lt, jx_if_nlt, jx_if_le, jx_if_nle, jq_eqp, jq_eqn, nI_clamp, nI_add, pk_sub, pk_mul, jn_and, jn_or, jn_xor, jq_andn, jq_shl1, jq_bit, jq_mn, jq_mx, cond_true, cond_false, jq_jt, jq_jf, jq_e1, jq_e2, jq_e3, jq_e4, Bool.not_true, Bool.not_false, jq_0, jq_1, jq_2, jq_3, jq_4, jq_5, jq_6, jq_8, jq_12, jq_16, jq_20, jq_21, jq_24, jq_30, jq_32, jq_60, jq_84, jq_1000, jq_2436, jq_20001, dm_all (n := jb_p N) (by omega) m.1, dm_countOf, e159_33, dm_withinM w m, pk_div, e159_53, e159_55, e159_67]
        · rw [Nat.max_eq_right (by omega)]
          simp (disch := omega) only [jx_bI_s, jx_bL_s, jx_bV_s, eq_self, true_or, or_true, jx_if_t, jx_if_f, jq_b0, jq_b1, jq_bb, jq_b01, jx_if_in, jx_if_lt, jx_if_nlt, jx_if_le, jx_if_nle, jq_eqp, jq_eqn, nI_clamp, nI_add, pk_sub, pk_mul, jn_and, jn_or, jn_xor, jq_andn, jq_shl1, jq_bit, jq_mn, jq_mx, cond_true, cond_false, jq_jt, jq_jf, jq_e1, jq_e2, jq_e3, jq_e4, Bool.not_true, Bool.not_false, jq_0, jq_1, jq_2, jq_3, jq_4, jq_5, jq_6, jq_8, jq_12, jq_16, jq_20, jq_21, jq_24, jq_30, jq_32, jq_60, jq_84, jq_1000, jq_2436, jq_20001, dm_all (n := jb_p N) (by omega) m.1, dm_countOf, e159_33, dm_withinM w m, pk_div, e159_53, e159_55, e159_67]
  · show F159_18 _ _ _ _ = _
    rw [e159_18]
    simp (disch := omega) only [jx_bI_s, jx_bL_s, jx_bV_s, eq_self, true_or, or_true, jx_if_t, jx_if_f, jq_b0, jq_b1, jq_bb, jq_b01, jx_if_in, jx_if_lt, jx_if_nlt, jx_if_le, jx_if_nle, jq_eqp, jq_eqn, nI_clamp, nI_add, pk_sub, pk_mul, jn_and, jn_or, jn_xor, jq_andn, jq_shl1, jq_bit, jq_mn, jq_mx, cond_true, cond_false, jq_jt, jq_jf, jq_e1, jq_e2, jq_e3, jq_e4, Bool.not_true, Bool.not_false, jq_0, jq_1, jq_2, jq_3, jq_4, jq_5, jq_6, jq_8, jq_12, jq_16, jq_20, jq_21, jq_24, jq_30, jq_32, jq_60, jq_84, jq_1000, jq_2436, jq_20001, dm_all (n := jb_p N) (by omega) m.1]
end
theorem jt_26 {d : Nat} {hx hm : jx_H} (I : jb_Inv hx hm) : jl_g d 77 159 [] hx hm := by
  obtain ⟨N, w, x, m, h', rd, I', x', P⟩ := I.rd d
  cases ht : jb_t N
  · refine ⟨nI (jn_mx (jb_fo N) (2 ^ jb_p N)), h', hm, ?_, ?_, I'⟩
    · rw [d77, e77_0, x.2.2.1, ht]
      simp (disch := omega) only [jx_bI_s, jx_bL_s, jx_bV_s, eq_self, true_or, or_true, jx_if_t, jx_if_f, jq_b0, jq_b1, jq_bb, jq_b01, jx_if_in, jx_if_lt, jx_if_nlt, jx_if_le, jx_if_nle, jq_eqp, jq_eqn, nI_clamp, nI_add, pk_sub, pk_mul, jn_and, jn_or, jn_xor, jq_andn, jq_shl1, jq_bit, jq_mn, jq_mx, cond_true, cond_false, jq_jt, jq_jf, jq_e1, jq_e2, jq_e3, jq_e4, Bool.not_true, Bool.not_false, jq_0, jq_1, jq_2, jq_3, jq_4, jq_5, jq_6, jq_8, jq_12, jq_16, jq_20, jq_21, jq_24, jq_30, jq_32, jq_60, jq_84, jq_1000, jq_2436, jq_20001, rd, dm_forestX w P]
    · rw [d159, e159_0, m.2.2.1, ht]
      simp (disch := omega) only [jx_bI_s, jx_bL_s, jx_bV_s, eq_self, true_or, or_true, jx_if_t, jx_if_f, jq_b0, jq_b1, jq_bb, jq_b01, jx_if_in, jx_if_lt, jx_if_nlt, jx_if_le, jx_if_nle, jq_eqp, jq_eqn, nI_clamp, nI_add, pk_sub, pk_mul, jn_and, jn_or, jn_xor, jq_andn, jq_shl1, jq_bit, jq_mn, jq_mx, cond_true, cond_false, jq_jt, jq_jf, jq_e1, jq_e2, jq_e3, jq_e4, Bool.not_true, Bool.not_false, jq_0, jq_1, jq_2, jq_3, jq_4, jq_5, jq_6, jq_8, jq_12, jq_16, jq_20, jq_21, jq_24, jq_30, jq_32, jq_60, jq_84, jq_1000, jq_2436, jq_20001, dm_forestM w m]
  · refine ⟨-8, _, _, ?_, ?_, I.fd⟩
    · rw [d77, e77_0, x.2.2.1, ht]
      simp (disch := omega) only [jx_bI_s, jx_bL_s, jx_bV_s, eq_self, true_or, or_true, jx_if_t, jx_if_f, jq_b0, jq_b1, jq_bb, jq_b01, jx_if_in, jx_if_lt, jx_if_nlt, jx_if_le, jx_if_nle, jq_eqp, jq_eqn, nI_clamp, nI_add, pk_sub, pk_mul, jn_and, jn_or, jn_xor, jq_andn, jq_shl1, jq_bit, jq_mn, jq_mx, cond_true, cond_false, jq_jt, jq_jf, jq_e1, jq_e2, jq_e3, jq_e4, Bool.not_true, Bool.not_false, jq_0, jq_1, jq_2, jq_3, jq_4, jq_5, jq_6, jq_8, jq_12, jq_16, jq_20, jq_21, jq_24, jq_30, jq_32, jq_60, jq_84, jq_1000, jq_2436, jq_20001, dm_fx]
    · rw [d159, e159_0, m.2.2.1, ht]
      simp (disch := omega) only [jx_bI_s, jx_bL_s, jx_bV_s, eq_self, true_or, or_true, jx_if_t, jx_if_f, jq_b0, jq_b1, jq_bb, jq_b01, jx_if_in, jx_if_lt, jx_if_nlt, jx_if_le, jx_if_nle, jq_eqp, jq_eqn, nI_clamp, nI_add, pk_sub, pk_mul, jn_and, jn_or, jn_xor, jq_andn, jq_shl1, jq_bit, jq_mn, jq_mx, cond_true, cond_false, jq_jt, jq_jf, jq_e1, jq_e2, jq_e3, jq_e4, Bool.not_true, Bool.not_false, jq_0, jq_1, jq_2, jq_3, jq_4, jq_5, jq_6, jq_8, jq_12, jq_16, jq_20, jq_21, jq_24, jq_30, jq_32, jq_60, jq_84, jq_1000, jq_2436, jq_20001, dm_fm]
/-- what sets within X lack together -/
def jh_ok (N : jb_N) (X P : Nat) : Bool := decide (1 ≤ P) && (decide (jn_df P X = 0) && decide (P ≠ 2 ^ jb_p N - 1))
def jh_T (N : jb_N) (k : Nat) : Nat → Nat → Nat
  | 0 => fun _ => 0
  | i + 1 => fun Y => if Y = i then jn_mx (fun P => if jh_ok N i P = true then (k - jb_cu N P (2 ^ jb_n N - 1)) + jh_T N k i (jn_df i P) else 0) (i + 1) else jh_T N k i Y
def jh_L (N : jb_N) (k X : Nat) : Nat := jh_T N k (X + 1) X
theorem jh_T_L {N : jb_N} {k : Nat} : ∀ {i Y : Nat}, Y < i → jh_T N k i Y = jh_L N k Y := by
  intro i
  induction i with
  | zero => intro Y h; omega
  | succ i ih =>
    intro Y h
    by_cases e : Y = i
    · subst e
      rfl
    · show (if Y = i then _ else jh_T N k i Y) = _
      rw [if_neg e]
      exact ih (by omega)
theorem jn_df0 {P X : Nat} : jn_df P X = 0 ↔ jn_sb P X := by
  constructor
  · intro h i hi
    have := jn_df_t P X i
    rw [h, Nat.zero_testBit, hi] at this
    cases hb : X.testBit i with
    | true => rfl
    | false => rw [hb] at this; cases this
  · intro h
    apply Nat.eq_of_testBit_eq
    intro i
    rw [jn_df_t, Nat.zero_testBit]
    cases hb : P.testBit i with
    | false => rfl
    | true => rw [h i hb]; rfl
theorem jh_ok_t {N : jb_N} {X P : Nat} : jh_ok N X P = true ↔ 1 ≤ P ∧ jn_sb P X ∧ P ≠ 2 ^ jb_p N - 1 := by
  unfold jh_ok
  rw [Bool.and_eq_true, Bool.and_eq_true, decide_eq_true_eq, decide_eq_true_eq, decide_eq_true_eq, jn_df0]
theorem jn_df_less {X P : Nat} (h1 : 1 ≤ P) (h2 : jn_sb P X) : jn_df X P < X := by
  have hs : jn_sb (jn_df X P) X := fun i hi => by
    rw [jn_df_t, Bool.and_eq_true] at hi
    exact hi.1
  have hle := jn_sb_le hs
  by_cases e : jn_df X P = X
  · obtain ⟨q, hq⟩ := jn_some h1
    have := h2 q hq
    rw [← e, jn_df_t, hq] at this
    simp at this
  · omega
theorem jh_L_eq {N : jb_N} {k X : Nat} : jh_L N k X = jn_mx (fun P => if jh_ok N X P = true then (k - jb_cu N P (2 ^ jb_n N - 1)) + jh_L N k (jn_df X P) else 0) (X + 1) := by
  show (if X = X then _ else _) = _
  rw [if_pos rfl]
  refine jn_mx_congr _ (fun P _ => ?_)
  by_cases ok : jh_ok N X P = true
  · rw [if_pos ok, if_pos ok]
    obtain ⟨a, b, _⟩ := jh_ok_t.1 ok
    rw [jh_T_L (jn_df_less a b)]
  · rw [if_neg ok, if_neg ok]
theorem jh_L_ge {N : jb_N} {k X P : Nat} (h1 : 1 ≤ P) (h2 : jn_sb P X) (h3 : P ≠ 2 ^ jb_p N - 1) : (k - jb_cu N P (2 ^ jb_n N - 1)) + jh_L N k (jn_df X P) ≤ jh_L N k X := by
  have := jn_mx_ge (f := fun P => if jh_ok N X P = true then (k - jb_cu N P (2 ^ jb_n N - 1)) + jh_L N k (jn_df X P) else 0) (n := X + 1) (i := P) (by have := jn_sb_le h2; omega)
  rw [← jh_L_eq] at this
  rw [if_pos (jh_ok_t.2 ⟨h1, h2, h3⟩)] at this
  exact this
theorem jh_L_at {N : jb_N} {k X : Nat} : jh_L N k X = 0 ∨ ∃ P, 1 ≤ P ∧ jn_sb P X ∧ P ≠ 2 ^ jb_p N - 1 ∧ jh_L N k X = (k - jb_cu N P (2 ^ jb_n N - 1)) + jh_L N k (jn_df X P) := by
  rw [jh_L_eq]
  rcases jn_mx_at (f := fun P => if jh_ok N X P = true then (k - jb_cu N P (2 ^ jb_n N - 1)) + jh_L N k (jn_df X P) else 0) (X + 1) with h | ⟨P, p1, p2⟩
  · exact Or.inl h
  · by_cases ok : jh_ok N X P = true
    · right
      rw [if_pos ok] at p2
      obtain ⟨a, b, c⟩ := jh_ok_t.1 ok
      exact ⟨P, a, b, c, p2⟩
    · left
      rw [if_neg ok] at p2
      exact p2
theorem jn_df_sb {X P : Nat} : jn_sb (jn_df X P) X := fun i hi => by
  rw [jn_df_t, Bool.and_eq_true] at hi
  exact hi.1
theorem jh_mono {N : jb_N} {k : Nat} : ∀ {T S : Nat}, jn_sb T S → jh_L N k T ≤ jh_L N k S := by
  intro T
  induction T using Nat.strongRecOn with
  | ind T ih =>
    intro S h
    rcases jh_L_at (N := N) (k := k) (X := T) with e | ⟨P, p1, p2, p3, p4⟩
    · rw [e]; exact Nat.zero_le _
    · have h1 := ih (jn_df T P) (jn_df_less p1 p2) (S := jn_df S P) (fun i hi => by
        rw [jn_df_t, Bool.and_eq_true] at hi
        rw [jn_df_t, Bool.and_eq_true]
        exact ⟨h i hi.1, hi.2⟩)
      have h2 := jh_L_ge (N := N) (k := k) p1 (fun i hi => h i (p2 i hi)) p3
      omega
/-- the way of the class is enough -/
theorem jh_up {N : jb_N} {k : Nat} : ∀ {S e V : Nat}, S.testBit e = true → jh_L N k (S ^^^ 2 ^ e) + (k - jb_cu N (2 ^ e) (2 ^ jb_n N - 1)) ≤ V → (∀ Y, 1 ≤ Y → jn_sb Y (S ^^^ 2 ^ e) → (2 ^ e ||| Y) ≠ 2 ^ jb_p N - 1 → k + jh_L N k (jn_df (S ^^^ 2 ^ e) Y) - jb_cu N (2 ^ e ||| Y) (2 ^ jb_n N - 1) ≤ V) → jh_L N k S ≤ V := by
  intro S
  induction S using Nat.strongRecOn with
  | ind S ih =>
    intro e V he h1 h2
    have hxt : ∀ i, (S ^^^ 2 ^ e).testBit i = true ↔ S.testBit i = true ∧ i ≠ e := fun i => by
      rw [Nat.testBit_xor, jn_2k]
      by_cases k : e = i
      · subst k
        simp [he]
      · have k' : i ≠ e := fun c => k c.symm
        simp [k, k']
    rcases jh_L_at (N := N) (k := k) (X := S) with e0 | ⟨P, p1, p2, p3, p4⟩
    · rw [e0]; exact Nat.zero_le _
    · rw [p4]
      cases hPe : P.testBit e
      · -- e stays behind
        have hPr : jn_sb P (S ^^^ 2 ^ e) := fun i hi => (hxt i).2 ⟨p2 i hi, fun c => by rw [c, hPe] at hi; cases hi⟩
        have hde : (jn_df S P).testBit e = true := by rw [jn_df_t, he, hPe]; rfl
        have hdx : jn_df S P ^^^ 2 ^ e = jn_df (S ^^^ 2 ^ e) P := by
          apply Nat.eq_of_testBit_eq
          intro i
          rw [Nat.testBit_xor, jn_df_t, jn_df_t, Nat.testBit_xor, jn_2k]
          by_cases c : e = i
          · subst c
            simp [he, hPe]
          · simp [c]
        have g1 := jh_L_ge (N := N) (k := k) p1 hPr p3
        have := ih (jn_df S P) (jn_df_less p1 p2) (e := e) (V := V - (k - jb_cu N P (2 ^ jb_n N - 1))) hde (by rw [hdx]; omega) (fun Y y1 y2 y3 => by
          rw [hdx] at y2 ⊢
          have yr : jn_sb Y (S ^^^ 2 ^ e) := fun i hi => jn_df_sb i (y2 i hi)
          have o := h2 Y y1 yr y3
          have hPY : jn_sb P (jn_df (S ^^^ 2 ^ e) Y) := fun i hi => by
            rw [jn_df_t, hPr i hi, Bool.true_and]
            cases hb : Y.testBit i with
            | false => rfl
            | true =>
              have := y2 i hb
              rw [jn_df_t, hi] at this
              simp at this
          have g2 := jh_L_ge (N := N) (k := k) p1 hPY p3
          have ec : jn_df (jn_df (S ^^^ 2 ^ e) Y) P = jn_df (jn_df (S ^^^ 2 ^ e) P) Y := by
            apply Nat.eq_of_testBit_eq
            intro i
            rw [jn_df_t, jn_df_t, jn_df_t, jn_df_t]
            cases (S ^^^ 2 ^ e).testBit i <;> cases Y.testBit i <;> cases P.testBit i <;> rfl
          rw [ec] at g2
          omega)
        omega
      · -- e goes with P
        have hPx : ∀ i, (P ^^^ 2 ^ e).testBit i = true ↔ P.testBit i = true ∧ i ≠ e := fun i => by
          rw [Nat.testBit_xor, jn_2k]
          by_cases k : e = i
          · subst k
            simp [hPe]
          · have k' : i ≠ e := fun c => k c.symm
            simp [k, k']
        have hY : jn_sb (P ^^^ 2 ^ e) (S ^^^ 2 ^ e) := fun i hi => (hxt i).2 ⟨p2 i ((hPx i).1 hi).1, ((hPx i).1 hi).2⟩
        have hPo : 2 ^ e ||| (P ^^^ 2 ^ e) = P := by
          apply Nat.eq_of_testBit_eq
          intro i
          rw [Nat.testBit_or, ← jn_split hPe]
        have hdf : jn_df (S ^^^ 2 ^ e) (P ^^^ 2 ^ e) = jn_df S P := by
          apply Nat.eq_of_testBit_eq
          intro i
          rw [jn_df_t, jn_df_t, Nat.testBit_xor, Nat.testBit_xor, jn_2k]
          by_cases c : e = i
          · subst c
            simp [he, hPe]
          · simp [c]
        by_cases hY0 : P ^^^ 2 ^ e = 0
        · have eP : P = 2 ^ e := by
            rw [hY0, Nat.or_zero] at hPo
            exact hPo.symm
          rw [hY0] at hdf
          have e0 : jn_df (S ^^^ 2 ^ e) 0 = S ^^^ 2 ^ e := by
            apply Nat.eq_of_testBit_eq
            intro i
            rw [jn_df_t, Nat.zero_testBit]
            simp
          rw [← hdf, e0]
          rw [eP]
          omega
        · have o := h2 (P ^^^ 2 ^ e) (by omega) hY (by rw [hPo]; exact p3)
          rw [hPo, hdf] at o
          have mo : jh_L N k (jn_df S P) ≤ jh_L N k (S ^^^ 2 ^ e) := by
            rw [← hdf]
            exact jh_mono jn_df_sb
          omega
