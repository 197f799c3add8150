/-! ===== layer 2: trees packed side by side ===== -/
/-- partings of the posts: v tells each post's part; how many parts the first q posts have -/
def jk_us (v : Nat → Nat) : Nat → Nat
  | 0 => 0
  | q + 1 => max (jk_us v q) (v q + 1)
def jk_rg (p : Nat) (v : Nat → Nat) : Prop := ∀ q, q < p → v q ≤ jk_us v q
theorem jk_us_congr {v u : Nat → Nat} : ∀ q, (∀ j, j < q → v j = u j) → jk_us v q = jk_us u q := by
  intro q
  induction q with
  | zero => intro _; rfl
  | succ q ih =>
    intro h
    show max (jk_us v q) (v q + 1) = max (jk_us u q) (u q + 1)
    rw [ih (fun j hj => h j (by omega)), h q (by omega)]
theorem jk_us_le {p : Nat} {v : Nat → Nat} (h : jk_rg p v) : ∀ q, q ≤ p → jk_us v q ≤ q := by
  intro q
  induction q with
  | zero => intro _; exact Nat.le_refl _
  | succ q ih =>
    intro hq
    have h1 := ih (by omega)
    have h2 := h q (by omega)
    show max _ _ ≤ _
    omega
theorem jk_us_mono {v : Nat → Nat} (a k : Nat) : jk_us v a ≤ jk_us v (a + k) := by
  induction k with
  | zero => exact Nat.le_refl _
  | succ k ih => exact Nat.le_trans ih (Nat.le_max_left _ _)
theorem jk_us_up {p : Nat} {v : Nat → Nat} (h : jk_rg p v) (a : Nat) : ∀ k, a + k ≤ p → jk_us v (a + k) ≤ jk_us v a + k := by
  intro k
  induction k with
  | zero => intro _; exact Nat.le_refl _
  | succ k ih =>
    intro hk
    have h1 := ih (by omega)
    have h2 := h (a + k) (by omega)
    show max (jk_us v (a + k)) (v (a + k) + 1) ≤ _
    omega
theorem jk_us1 {v : Nat → Nat} {q : Nat} (h : 1 ≤ q) : 1 ≤ jk_us v q := by
  obtain ⟨k, rfl⟩ := Nat.le.dest h
  refine Nat.le_trans ?_ (jk_us_mono 1 k)
  show 1 ≤ max 0 (v 0 + 1)
  omega
theorem jk_lt_us {v : Nat → Nat} {j q : Nat} (h : j < q) : v j < jk_us v q := by
  obtain ⟨k, rfl⟩ := Nat.le.dest (show j + 1 ≤ q from h)
  refine Nat.lt_of_lt_of_le ?_ (jk_us_mono (j + 1) k)
  show v j < max _ (v j + 1)
  omega
/-- roads between parts, among the first q posts -/
def jk_cr (N : jb_N) (v : Nat → Nat) (q : Nat) : Nat := jn_ct (fun r => decide (jb_f N r < q) && (decide (jb_s N r < q) && decide (v (jb_f N r) ≠ v (jb_s N r)))) (jb_n N)
theorem jk_cr_congr {N : jb_N} {v u : Nat → Nat} {q : Nat} (h : ∀ j, j < q → v j = u j) : jk_cr N v q = jk_cr N u q := jn_ct_congr _ (fun r _ => by
  by_cases c1 : jb_f N r < q
  · by_cases c2 : jb_s N r < q
    · rw [h _ c1, h _ c2]
    · simp [c2]
  · simp [c1])
theorem jk_cr_mono {N : jb_N} {v : Nat → Nat} {a b : Nat} (h : a ≤ b) : jk_cr N v a ≤ jk_cr N v b := jn_ct_mono _ (fun r _ hr => by
  simp only [Bool.and_eq_true, decide_eq_true_eq] at hr ⊢
  exact ⟨by omega, by omega, hr.2.2⟩)
def jk_val (N : jb_N) (v : Nat → Nat) : Nat := jk_cr N v (jb_p N) / (jk_us v (jb_p N) - 1)
/-- mask of the first q posts' part i -/
def jk_mk (v : Nat → Nat) (i q : Nat) : Nat := jn_mk (fun j => decide (v j = i)) q
section
variable {d : Nat} {N : jb_N}
theorem jk_cr_step (w : jb_wf N) (ht : jb_t N = false) {v : Nat → Nat} {q : Nat} (hq : q < jb_p N) : jn_pc (jp_bt N (2 ^ q) (jn_df (2 ^ q - 1) (jk_mk v (v q) q))) + jk_cr N v q = jk_cr N v (q + 1) := by
  have hn := w.2.1
  unfold jp_bt
  rw [jn_pc_mk _ (by omega)]
  have mk : ∀ j, (jn_df (2 ^ q - 1) (jk_mk v (v q) q)).testBit j = (decide (j < q) && decide (v j ≠ v q)) := fun j => by
    rw [jn_all_df]
    unfold jk_mk
    rw [jn_mk_t]
    by_cases c : j < q
    · by_cases c2 : v j = v q
      · simp [c, c2]
      · simp [c, c2]
    · simp [c]
  have bt : ∀ r, jp_btb N (2 ^ q) (jn_df (2 ^ q - 1) (jk_mk v (v q) q)) r = ((decide (q = jb_f N r) && (decide (jb_s N r < q) && decide (v (jb_s N r) ≠ v q))) || (decide (q = jb_s N r) && (decide (jb_f N r < q) && decide (v (jb_f N r) ≠ v q)))) := fun r => by
    unfold jp_btb
    rw [ht, jn_2k, jn_2k, mk, mk]
    rfl
  have a1 := jn_ct_add (f := jp_btb N (2 ^ q) (jn_df (2 ^ q - 1) (jk_mk v (v q) q))) (g := fun r => decide (jb_f N r < q) && (decide (jb_s N r < q) && decide (v (jb_f N r) ≠ v (jb_s N r)))) (u := fun r => decide (jb_f N r < q + 1) && (decide (jb_s N r < q + 1) && decide (v (jb_f N r) ≠ v (jb_s N r)))) (v := fun _ => false) (jb_n N) (fun r hr => by
    rw [bt r]
    have w3 := (w.2.2 r hr).2.2.1
    by_cases c1 : jb_f N r = q
    · have c2 : jb_s N r ≠ q := fun c => w3 (by rw [c1, c])
      by_cases c3 : jb_s N r < q
      · by_cases c4 : v (jb_s N r) = v q
        · simp [c1, c3, c4]
        · simp [c1, c3, c4, Ne.symm c2, show jb_s N r < q + 1 by omega, show ¬ v q = v (jb_s N r) from fun c => c4 c.symm]
      · simp [c1, c3, Ne.symm c2]
    · by_cases c2 : jb_s N r = q
      · by_cases c3 : jb_f N r < q
        · by_cases c4 : v (jb_f N r) = v q
          · simp [c2, c3, c4]
          · simp [c2, c3, c4, show ¬ q = jb_f N r from fun c => c1 c.symm, show jb_f N r < q + 1 by omega]
        · simp [c2, c3, show ¬ q = jb_f N r from fun c => c1 c.symm]
      · have d1 : ¬ q = jb_f N r := fun c => c1 c.symm
        have d2 : ¬ q = jb_s N r := fun c => c2 c.symm
        by_cases c3 : jb_f N r < q
        · by_cases c4 : jb_s N r < q
          · simp [d1, d2, c3, c4, show jb_f N r < q + 1 by omega, show jb_s N r < q + 1 by omega]
          · simp [d1, d2, c4]
        · simp [d1, d2, c3])
  have a2 := jn_ct_add (u := jp_btb N (2 ^ q) (jn_df (2 ^ q - 1) (jk_mk v (v q) q))) (v := fun r => decide (jb_f N r < q) && (decide (jb_s N r < q) && decide (v (jb_f N r) ≠ v (jb_s N r)))) (f := fun r => decide (jb_f N r < q + 1) && (decide (jb_s N r < q + 1) && decide (v (jb_f N r) ≠ v (jb_s N r)))) (g := fun _ => false) (jb_n N) (fun r hr => by
    rw [bt r]
    have w3 := (w.2.2 r hr).2.2.1
    by_cases c1 : jb_f N r = q
    · have c2 : jb_s N r ≠ q := fun c => w3 (by rw [c1, c])
      by_cases c3 : jb_s N r < q
      · by_cases c4 : v (jb_s N r) = v q
        · simp [c1, c3, c4]
        · simp [c1, c3, c4, Ne.symm c2, show jb_s N r < q + 1 by omega, show ¬ v q = v (jb_s N r) from fun c => c4 c.symm]
      · simp [c1, c3, Ne.symm c2, show ¬ jb_s N r < q + 1 by omega]
    · by_cases c2 : jb_s N r = q
      · by_cases c3 : jb_f N r < q
        · by_cases c4 : v (jb_f N r) = v q
          · simp [c2, c3, c4]
          · simp [c2, c3, c4, show ¬ q = jb_f N r from fun c => c1 c.symm, show jb_f N r < q + 1 by omega]
        · simp [c2, c3, show ¬ q = jb_f N r from fun c => c1 c.symm, show ¬ jb_f N r < q + 1 by omega]
      · have d1 : ¬ q = jb_f N r := fun c => c1 c.symm
        have d2 : ¬ q = jb_s N r := fun c => c2 c.symm
        by_cases c3 : jb_f N r < q
        · by_cases c4 : jb_s N r < q
          · simp [d1, d2, c3, c4, show jb_f N r < q + 1 by omega, show jb_s N r < q + 1 by omega]
          · simp [d1, d2, c4, show ¬ jb_s N r < q + 1 by omega]
        · simp [d1, d2, c3, show ¬ jb_f N r < q + 1 by omega])
  have z : jn_ct (fun _ => false) (jb_n N) = 0 := jn_ct_zero _ (fun _ _ => rfl)
  unfold jk_cr
  omega
def jk_up (v : Nat → Nat) (q i j : Nat) : Nat := if j = q then i else v j
theorem jk_up_lt {v : Nat → Nat} {q i j : Nat} (h : j < q) : jk_up v q i j = v j := if_neg (by omega)
theorem jk_up_s {v : Nat → Nat} {q i : Nat} : jk_up v q i q = i := if_pos rfl
/-- what the class's search from post q on does with the least so far -/
def jk_ps (N : jb_N) (v : Nat → Nat) (q B B' : Nat) : Prop := B' ≤ B ∧ (∀ u, jk_rg (jb_p N) u → (∀ j, j < q → u j = v j) → 2 ≤ jk_us u (jb_p N) → B' ≤ jk_val N u) ∧ (B' = B ∨ ∃ u, jk_rg (jb_p N) u ∧ 2 ≤ jk_us u (jb_p N) ∧ B' = jk_val N u)
theorem jk_P22 {h0 h : jx_H} (P : jp_P h0 N) (f : ∀ c, c ≠ 22 → c ≠ 23 → h.1 c = h0.1 c) : jp_P h N := by
  unfold jp_P jp_H jp_T at *
  rw [f 14 (by decide) (by decide), f 15 (by decide) (by decide), f 16 (by decide) (by decide), f 17 (by decide) (by decide), f 18 (by decide) (by decide)]
  exact P
theorem dm_part {h0 : jx_H} (w : jb_wf N) (P0 : jp_P h0 N) (ht : jb_t N = false) : ∀ (k q B : Nat) (v : Nat → Nat) (h : jx_H), q + k = jb_p N → jk_rg q v → B ≤ 20 → (∀ c, c ≠ 22 → c ≠ 23 → h.1 c = h0.1 c) → h.1 22 0 0 = nI 1 → h.1 22 0 1 = nI B → (∀ i, i < jk_us v q → h.1 23 0 i = nI (jk_mk v i q)) → ∃ B' h', DM (d + k + 2) 76 [vr 22 0, vi (nI q), vi (nI (jk_us v q)), vi (nI (jk_cr N v q))] h = some ([], h') ∧ (∀ c, c ≠ 22 → c ≠ 23 → h'.1 c = h0.1 c) ∧ h'.1 22 0 0 = nI 1 ∧ h'.1 22 0 1 = nI B' ∧ (∀ i, i < jk_us v q → h'.1 23 0 i = nI (jk_mk v i q)) ∧ jk_ps N v q B B' := by
  have hn := w.2.1
  have hp := w.1
  have h8 := jn_pow8 hp
  have h20 := jn_pow20 hn
  intro k
  induction k with
  | zero =>
    intro q B v h hq hv hB f g0 g1 g2
    have P := jk_P22 P0 f
    have hul := jk_us_le hv q (Nat.le_refl _)
    have hcl : jk_cr N v q ≤ jb_n N := jn_ct_le _ _
    have e : q = jb_p N := by omega
    subst e
    have cong : ∀ u, (∀ j, j < jb_p N → u j = v j) → jk_us u (jb_p N) = jk_us v (jb_p N) ∧ jk_val N u = jk_val N v := fun u hu => by
      have e1 := jk_us_congr (v := u) (u := v) (jb_p N) hu
      refine ⟨e1, ?_⟩
      unfold jk_val
      rw [e1, jk_cr_congr hu]
    by_cases c2 : jk_us v (jb_p N) < 2
    · refine ⟨B, h, ?_, f, g0, g1, g2, Nat.le_refl _, fun u _ hu hu2 => ?_, Or.inl rfl⟩
      · rw [d76, e76_0, g0, P.1.1, show jk_us v (jb_p N) = jk_us v (jb_p N) from rfl]
        simp (disch := omega) only [jx_bI_s, jx_bL_s, jx_bV_s, eq_self, true_or, or_true, jx_if_t, jx_if_f, jq_b0, jq_b1, jq_bb, jq_b01, jx_if_in, jx_if_lt, jx_if_nlt, jx_if_le, jx_if_nle, jq_eqp, jq_eqn, nI_clamp, nI_add, pk_sub, pk_mul, jn_and, jn_or, jn_xor, jq_andn, jq_shl1, jq_bit, jq_mn, jq_mx, cond_true, cond_false, jq_jt, jq_jf, jq_e1, jq_e2, jq_e3, jq_e4, Bool.not_true, Bool.not_false, jq_0, jq_1, jq_2, jq_3, jq_4, jq_5, jq_6, jq_8, jq_12, jq_16, jq_20, jq_21, jq_24, jq_30, jq_32, jq_60, jq_84, jq_1000, jq_2436, jq_20001, e76_13, e76_32]
      · rw [(cong u hu).1] at hu2
        omega
    · have hdiv : nI (jk_cr N v (jb_p N)) / nI (jk_us v (jb_p N) - 1) = nI (jk_val N v) := pk_div (by omega) (by omega) (by omega)
      have hvl : jk_val N v ≤ 20 := Nat.le_trans (Nat.div_le_self _ _) (by omega)
      have sub : jk_us v (jb_p N) + jb_p N - jb_p N = jk_us v (jb_p N) := by omega
      by_cases c3 : jk_val N v < B
      · refine ⟨jk_val N v, jx_sI h 22 0 1 (nI (jk_val N v)), ?_, fun c h1 h2 => by rw [jx_sk h1]; exact f c h1 h2, by rw [jx_sp (by decide)]; exact g0, jx_ss, fun i hi => by rw [jx_sk (by decide)]; exact g2 i hi, by omega, fun u _ hu _ => by rw [(cong u hu).2]; exact Nat.le_refl _, Or.inr ⟨v, hv, by omega, rfl⟩⟩
        rw [d76, e76_0, g0, P.1.1]
        simp (disch := omega) only [jx_bI_s, jx_bL_s, jx_bV_s, eq_self, true_or, or_true, jx_if_t, jx_if_f, jq_b0, jq_b1, jq_bb, jq_b01, jx_if_in, jx_if_lt, jx_if_nlt, jx_if_le, jx_if_nle, jq_eqp, jq_eqn, nI_clamp, nI_add, pk_sub, pk_mul, jn_and, jn_or, jn_xor, jq_andn, jq_shl1, jq_bit, jq_mn, jq_mx, cond_true, cond_false, jq_jt, jq_jf, jq_e1, jq_e2, jq_e3, jq_e4, Bool.not_true, Bool.not_false, jq_0, jq_1, jq_2, jq_3, jq_4, jq_5, jq_6, jq_8, jq_12, jq_16, jq_20, jq_21, jq_24, jq_30, jq_32, jq_60, jq_84, jq_1000, jq_2436, jq_20001, sub, e76_13, hdiv, g1, g0, P.1.1]
      · refine ⟨B, h, ?_, f, g0, g1, g2, Nat.le_refl _, fun u _ hu _ => by rw [(cong u hu).2]; omega, Or.inl rfl⟩
        rw [d76, e76_0, g0, P.1.1]
        simp (disch := omega) only [jx_bI_s, jx_bL_s, jx_bV_s, eq_self, true_or, or_true, jx_if_t, jx_if_f, jq_b0, jq_b1, jq_bb, jq_b01, jx_if_in, jx_if_lt, jx_if_nlt, jx_if_le, jx_if_nle, jq_eqp, jq_eqn, nI_clamp, nI_add, pk_sub, pk_mul, jn_and, jn_or, jn_xor, jq_andn, jq_shl1, jq_bit, jq_mn, jq_mx, cond_true, cond_false, jq_jt, jq_jf, jq_e1, jq_e2, jq_e3, jq_e4, Bool.not_true, Bool.not_false, jq_0, jq_1, jq_2, jq_3, jq_4, jq_5, jq_6, jq_8, jq_12, jq_16, jq_20, jq_21, jq_24, jq_30, jq_32, jq_60, jq_84, jq_1000, jq_2436, jq_20001, sub, e76_13, hdiv, g1, e76_32]
  | succ k ih =>
    intro q B v h hq hv hB f g0 g1 g2
    have P := jk_P22 P0 f
    have hul := jk_us_le hv q (Nat.le_refl _)
    have hcl : jk_cr N v q ≤ jb_n N := jn_ct_le _ _
    have hqp : q < jb_p N := by omega
    have h2q := jn_2lt hqp
    have hq0 := Nat.two_pow_pos q
    have sub : jk_us v q + jb_p N - q = jk_us v q + (k + 1) := by omega
    have usu : ∀ u, jk_rg (jb_p N) u → (∀ j, j < q → u j = v j) → jk_us u (jb_p N) ≤ jk_us v q + (k + 1) := fun u hu hj => by
      have h1 := jk_us_up hu q (k + 1) (by omega)
      rw [hq, jk_us_congr q hj] at h1
      exact h1
    have cru : ∀ u, (∀ j, j < q → u j = v j) → jk_cr N v q ≤ jk_cr N u (jb_p N) := fun u hj => by
      rw [← jk_cr_congr hj]
      exact jk_cr_mono (by omega)
    have dep : d + (k + 1) + 2 = (d + k + 2) + 1 := by omega
    by_cases c2 : jk_us v q + (k + 1) < 2
    · refine ⟨B, h, ?_, f, g0, g1, g2, Nat.le_refl _, fun u hu hj hu2 => ?_, Or.inl rfl⟩
      · rw [dep, d76, e76_0, g0, P.1.1]
        simp (disch := omega) only [jx_bI_s, jx_bL_s, jx_bV_s, eq_self, true_or, or_true, jx_if_t, jx_if_f, jq_b0, jq_b1, jq_bb, jq_b01, jx_if_in, jx_if_lt, jx_if_nlt, jx_if_le, jx_if_nle, jq_eqp, jq_eqn, nI_clamp, nI_add, pk_sub, pk_mul, jn_and, jn_or, jn_xor, jq_andn, jq_shl1, jq_bit, jq_mn, jq_mx, cond_true, cond_false, jq_jt, jq_jf, jq_e1, jq_e2, jq_e3, jq_e4, Bool.not_true, Bool.not_false, jq_0, jq_1, jq_2, jq_3, jq_4, jq_5, jq_6, jq_8, jq_12, jq_16, jq_20, jq_21, jq_24, jq_30, jq_32, jq_60, jq_84, jq_1000, jq_2436, jq_20001, sub, e76_13, e76_32]
      · have := usu u hu hj
        omega
    · have hdiv : nI (jk_cr N v q) / nI (jk_us v q + (k + 1) - 1) = nI (jk_cr N v q / (jk_us v q + (k + 1) - 1)) := pk_div (by omega) (by omega) (by omega)
      have hdl : jk_cr N v q / (jk_us v q + (k + 1) - 1) ≤ 20 := Nat.le_trans (Nat.div_le_self _ _) (by omega)
      by_cases c3 : jk_cr N v q / (jk_us v q + (k + 1) - 1) < B
      · -- each part in turn
        have loop : ∀ (z i B : Nat) (h : jx_H), i + z = jk_us v q + 1 → B ≤ 20 → (∀ c, c ≠ 22 → c ≠ 23 → h.1 c = h0.1 c) → h.1 22 0 0 = nI 1 → h.1 22 0 1 = nI B → (∀ i, i < jk_us v q → h.1 23 0 i = nI (jk_mk v i q)) → ∃ B' h', F76_63 (DM (d + k + 2)) (nI q) (nI (jk_us v q)) (nI (jk_cr N v q)) (nI (2 ^ q - 1)) (nI i) h = some ([], h') ∧ (∀ c, c ≠ 22 → c ≠ 23 → h'.1 c = h0.1 c) ∧ h'.1 22 0 0 = nI 1 ∧ h'.1 22 0 1 = nI B' ∧ (∀ i, i < jk_us v q → h'.1 23 0 i = nI (jk_mk v i q)) ∧ B' ≤ B ∧ (∀ u, jk_rg (jb_p N) u → (∀ j, j < q → u j = v j) → i ≤ u q → 2 ≤ jk_us u (jb_p N) → B' ≤ jk_val N u) ∧ (B' = B ∨ ∃ u, jk_rg (jb_p N) u ∧ 2 ≤ jk_us u (jb_p N) ∧ B' = jk_val N u) := by
          intro z
          induction z with
          | zero =>
            intro i B h hi hB f g0 g1 g2
            refine ⟨B, h, ?_, f, g0, g1, g2, Nat.le_refl _, fun u hu hj hu2 _ => ?_, Or.inl rfl⟩
            · rw [e76_63]
              simp (disch := omega) only [jx_bI_s, jx_bL_s, jx_bV_s, eq_self, true_or, or_true, jx_if_t, jx_if_f, jq_b0, jq_b1, jq_bb, jq_b01, jx_if_in, jx_if_lt, jx_if_nlt, jx_if_le, jx_if_nle, jq_eqp, jq_eqn, nI_clamp, nI_add, pk_sub, pk_mul, jn_and, jn_or, jn_xor, jq_andn, jq_shl1, jq_bit, jq_mn, jq_mx, cond_true, cond_false, jq_jt, jq_jf, jq_e1, jq_e2, jq_e3, jq_e4, Bool.not_true, Bool.not_false, jq_0, jq_1, jq_2, jq_3, jq_4, jq_5, jq_6, jq_8, jq_12, jq_16, jq_20, jq_21, jq_24, jq_30, jq_32, jq_60, jq_84, jq_1000, jq_2436, jq_20001, e76_180]
            · have h1 := hu q hqp
              rw [jk_us_congr q hj] at h1
              omega
          | succ z ihz =>
            intro i B h hi hB f g0 g1 g2
            have P := jk_P22 P0 f
            have hmkl : jk_mk v i q < 2 ^ q := jn_mk_lt _ _
            obtain ⟨bf, hbf, hst⟩ : ∃ bf, bf = jk_mk v i q ∧ F76_63 (DM (d + k + 2)) (nI q) (nI (jk_us v q)) (nI (jk_cr N v q)) (nI (2 ^ q - 1)) (nI i) h = F76_107 (DM (d + k + 2)) (nI q) (nI (jk_us v q)) (nI (jk_cr N v q)) (nI (2 ^ q - 1)) (nI i) (jn_b (decide (i = jk_us v q))) (nI bf) h := by
              refine ⟨_, rfl, ?_⟩
              rw [e76_63]
              by_cases e : i = jk_us v q
              · have z0 : jk_mk v i q = 0 := jn_mk_0 (fun j hj => by
                  have := jk_lt_us (v := v) hj
                  simp
                  omega)
                rw [decide_eq_true e, z0]
                simp (disch := omega) only [jx_bI_s, jx_bL_s, jx_bV_s, eq_self, true_or, or_true, jx_if_t, jx_if_f, jq_b0, jq_b1, jq_bb, jq_b01, jx_if_in, jx_if_lt, jx_if_nlt, jx_if_le, jx_if_nle, jq_eqp, jq_eqn, nI_clamp, nI_add, pk_sub, pk_mul, jn_and, jn_or, jn_xor, jq_andn, jq_shl1, jq_bit, jq_mn, jq_mx, cond_true, cond_false, jq_jt, jq_jf, jq_e1, jq_e2, jq_e3, jq_e4, Bool.not_true, Bool.not_false, jq_0, jq_1, jq_2, jq_3, jq_4, jq_5, jq_6, jq_8, jq_12, jq_16, jq_20, jq_21, jq_24, jq_30, jq_32, jq_60, jq_84, jq_1000, jq_2436, jq_20001, e76_87, e76_105]
              · rw [decide_eq_false e]
                simp (disch := omega) only [jx_bI_s, jx_bL_s, jx_bV_s, eq_self, true_or, or_true, jx_if_t, jx_if_f, jq_b0, jq_b1, jq_bb, jq_b01, jx_if_in, jx_if_lt, jx_if_nlt, jx_if_le, jx_if_nle, jq_eqp, jq_eqn, nI_clamp, nI_add, pk_sub, pk_mul, jn_and, jn_or, jn_xor, jq_andn, jq_shl1, jq_bit, jq_mn, jq_mx, cond_true, cond_false, jq_jt, jq_jf, jq_e1, jq_e2, jq_e3, jq_e4, Bool.not_true, Bool.not_false, jq_0, jq_1, jq_2, jq_3, jq_4, jq_5, jq_6, jq_8, jq_12, jq_16, jq_20, jq_21, jq_24, jq_30, jq_32, jq_60, jq_84, jq_1000, jq_2436, jq_20001, e76_87, e76_105, g2 i (by omega)]
            have hdf : jn_df (2 ^ q - 1) (jk_mk v i q) < 2 ^ q := jn_df_lt (by omega)
            have hbt := jp_bt_lt N (2 ^ q) (jn_df (2 ^ q - 1) (jk_mk v i q))
            have up1 : ∀ j, j < q → jk_up v q i j = v j := fun j hj => jk_up_lt hj
            have rg1 : jk_rg (q + 1) (jk_up v q i) := fun j hj => by
              by_cases e : j = q
              · rw [e, jk_up_s, jk_us_congr q up1]
                omega
              · rw [jk_up_lt (by omega), jk_us_congr (u := v) j (fun t ht => up1 t (by omega))]
                exact hv j (by omega)
            have us1 : jk_us (jk_up v q i) (q + 1) = max (jk_us v q) (i + 1) := by
              show max (jk_us (jk_up v q i) q) (jk_up v q i q + 1) = _
              rw [jk_us_congr q up1, jk_up_s]
            have cs := jk_cr_step w ht (v := jk_up v q i) hqp
            have mkc : ∀ t, jk_mk (jk_up v q i) t q = jk_mk v t q := fun t => jn_mk_congr (fun j hj => by rw [up1 j hj])
            rw [jk_up_s, mkc, jk_cr_congr up1] at cs
            have mk1 : ∀ t, jk_mk (jk_up v q i) t (q + 1) = if t = i then jk_mk v i q ||| 2 ^ q else jk_mk v t q := fun t => by
              by_cases e : t = i
              · rw [if_pos e, e, ← mkc i]
                exact (jn_mk_or (by rw [jk_up_s]; simp)).symm
              · rw [if_neg e, ← mkc t]
                exact jn_mk_no (by rw [jk_up_s]; simp; omega)
            have hmo : jk_mk v i q ||| 2 ^ q < 2 ^ jb_p N := jn_or_lt (by omega) h2q
            have hpcl := jn_pc_len hbt (show jb_n N ≤ 32 by omega)
            have mxa : i = jk_us v q → max (jk_us v q) (i + 1) = jk_us v q + 1 := fun e => by omega
            have mxb : i ≠ jk_us v q → max (jk_us v q) (i + 1) = jk_us v q := fun e => by omega
            have mxc : ∀ t, t < jk_us v q → t < max (jk_us v q) (i + 1) := fun t ht => by omega
            obtain ⟨B1, h1, a1, a2, a3, a4, a5, a6, a7, a8⟩ := ih (q + 1) B (jk_up v q i) (jx_sI h 23 0 i (nI (jk_mk v i q ||| 2 ^ q))) (by omega) rg1 hB (fun c h1 h2 => by rw [jx_sk h2]; exact f c h1 h2) (by rw [jx_sk (by decide)]; exact g0) (by rw [jx_sk (by decide)]; exact g1) (fun t ht => by
              rw [us1] at ht
              rw [jx_sv, mk1]
              by_cases e : t = i
              · rw [if_pos e, if_pos e]
              · rw [if_neg e, if_neg e]
                exact g2 t (by omega))
            obtain ⟨B2, h2, b1, b2, b3, b4, b5, b6, b7, b8⟩ := ihz (i + 1) B1 (jx_sI h1 23 0 i (nI (jk_mk v i q))) (by omega) (by omega) (fun c h1 h2 => by rw [jx_sk h2]; exact a2 c h1 h2) (by rw [jx_sk (by decide)]; exact a3) (by rw [jx_sk (by decide)]; exact a4) (fun t ht => by
              rw [jx_sv]
              by_cases e : t = i
              · rw [if_pos e, e]
              · rw [if_neg e, a5 t (by rw [us1]; exact mxc t ht), mk1, if_neg e])
            refine ⟨B2, h2, ?_, b2, b3, b4, b5, by omega, fun u hu hj hui hu2 => ?_, ?_⟩
            · rw [us1, ← cs, Nat.add_comm (jn_pc _)] at a1
              rw [hst, hbf, e76_107, g0]
              by_cases e : i = jk_us v q
              · rw [decide_eq_true e]
                rw [mxa e] at a1
                simp (disch := omega) only [jx_bI_s, jx_bL_s, jx_bV_s, eq_self, true_or, or_true, jx_if_t, jx_if_f, jq_b0, jq_b1, jq_bb, jq_b01, jx_if_in, jx_if_lt, jx_if_nlt, jx_if_le, jx_if_nle, jq_eqp, jq_eqn, nI_clamp, nI_add, pk_sub, pk_mul, jn_and, jn_or, jn_xor, jq_andn, jq_shl1, jq_bit, jq_mn, jq_mx, cond_true, cond_false, jq_jt, jq_jf, jq_e1, jq_e2, jq_e3, jq_e4, Bool.not_true, Bool.not_false, jq_0, jq_1, jq_2, jq_3, jq_4, jq_5, jq_6, jq_8, jq_12, jq_16, jq_20, jq_21, jq_24, jq_30, jq_32, jq_60, jq_84, jq_1000, jq_2436, jq_20001, dm_bt w P h2q (show jn_df (2 ^ q - 1) (jk_mk v i q) < 2 ^ jb_p N by omega), dm_bc, e76_158, a1]
                exact b1
              · rw [decide_eq_false e]
                rw [mxb e] at a1
                simp (disch := omega) only [jx_bI_s, jx_bL_s, jx_bV_s, eq_self, true_or, or_true, jx_if_t, jx_if_f, jq_b0, jq_b1, jq_bb, jq_b01, jx_if_in, jx_if_lt, jx_if_nlt, jx_if_le, jx_if_nle, jq_eqp, jq_eqn, nI_clamp, nI_add, pk_sub, pk_mul, jn_and, jn_or, jn_xor, jq_andn, jq_shl1, jq_bit, jq_mn, jq_mx, cond_true, cond_false, jq_jt, jq_jf, jq_e1, jq_e2, jq_e3, jq_e4, Bool.not_true, Bool.not_false, jq_0, jq_1, jq_2, jq_3, jq_4, jq_5, jq_6, jq_8, jq_12, jq_16, jq_20, jq_21, jq_24, jq_30, jq_32, jq_60, jq_84, jq_1000, jq_2436, jq_20001, dm_bt w P h2q (show jn_df (2 ^ q - 1) (jk_mk v i q) < 2 ^ jb_p N by omega), dm_bc, e76_158, a1]
                exact b1
            · by_cases e : u q = i
              · have := a7 u hu (fun j hj2 => by
                  by_cases e2 : j = q
                  · rw [e2, e, jk_up_s]
                  · rw [jk_up_lt (by omega)]
                    exact hj j (by omega)) hu2
                omega
              · exact b7 u hu hj (by omega) hu2
            · rcases b8 with b8 | b8
              · rw [b8]
                exact a8
              · exact Or.inr b8
        obtain ⟨B', h', b1, b2, b3, b4, b5, b6, b7, b8⟩ := loop (jk_us v q + 1) 0 B h (by omega) hB f g0 g1 g2
        refine ⟨B', h', ?_, b2, b3, b4, b5, b6, fun u hu hj hu2 => b7 u hu hj (Nat.zero_le _) hu2, b8⟩
        rw [dep, d76, e76_0, g0, P.1.1]
        simp (disch := omega) only [jx_bI_s, jx_bL_s, jx_bV_s, eq_self, true_or, or_true, jx_if_t, jx_if_f, jq_b0, jq_b1, jq_bb, jq_b01, jx_if_in, jx_if_lt, jx_if_nlt, jx_if_le, jx_if_nle, jq_eqp, jq_eqn, nI_clamp, nI_add, pk_sub, pk_mul, jn_and, jn_or, jn_xor, jq_andn, jq_shl1, jq_bit, jq_mn, jq_mx, cond_true, cond_false, jq_jt, jq_jf, jq_e1, jq_e2, jq_e3, jq_e4, Bool.not_true, Bool.not_false, jq_0, jq_1, jq_2, jq_3, jq_4, jq_5, jq_6, jq_8, jq_12, jq_16, jq_20, jq_21, jq_24, jq_30, jq_32, jq_60, jq_84, jq_1000, jq_2436, jq_20001, sub, e76_13, hdiv, g1, g0, P.1.1, dm_first]
        exact b1
      · refine ⟨B, h, ?_, f, g0, g1, g2, Nat.le_refl _, fun u hu hj hu2 => ?_, Or.inl rfl⟩
        · rw [dep, d76, e76_0, g0, P.1.1]
          simp (disch := omega) only [jx_bI_s, jx_bL_s, jx_bV_s, eq_self, true_or, or_true, jx_if_t, jx_if_f, jq_b0, jq_b1, jq_bb, jq_b01, jx_if_in, jx_if_lt, jx_if_nlt, jx_if_le, jx_if_nle, jq_eqp, jq_eqn, nI_clamp, nI_add, pk_sub, pk_mul, jn_and, jn_or, jn_xor, jq_andn, jq_shl1, jq_bit, jq_mn, jq_mx, cond_true, cond_false, jq_jt, jq_jf, jq_e1, jq_e2, jq_e3, jq_e4, Bool.not_true, Bool.not_false, jq_0, jq_1, jq_2, jq_3, jq_4, jq_5, jq_6, jq_8, jq_12, jq_16, jq_20, jq_21, jq_24, jq_30, jq_32, jq_60, jq_84, jq_1000, jq_2436, jq_20001, sub, e76_13, hdiv, g1, e76_32]
        · have h1 := usu u hu hj
          have h2 := cru u hj
          have h3 : jk_cr N v q / (jk_us v q + (k + 1) - 1) ≤ jk_val N u := by
            unfold jk_val
            refine Nat.le_trans (Nat.div_le_div_left (show jk_us u (jb_p N) - 1 ≤ jk_us v q + (k + 1) - 1 by omega) (by omega)) ?_
            exact Nat.div_le_div_right h2
          omega
end
