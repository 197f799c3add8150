/-! ===== layer 2: the reference's partings in their order ===== -/
def jk_cd (v : Nat → Nat) : Nat → Nat
  | 0 => 0
  | q + 1 => jk_cd v q * 9 + v q
theorem jk_cd_congr {v u : Nat → Nat} : ∀ q, (∀ j, j < q → v j = u j) → jk_cd v q = jk_cd u q := by
  intro q
  induction q with
  | zero => intro _; rfl
  | succ q ih =>
    intro h
    show jk_cd v q * 9 + v q = jk_cd u q * 9 + u q
    rw [ih (fun j hj => h j (by omega)), h q (by omega)]
def jk_lt (p : Nat) (v u : Nat → Nat) : Prop := ∃ j, j < p ∧ (∀ i, i < j → v i = u i) ∧ v j < u j
theorem jk_cd_lt {p : Nat} {v u : Nat → Nat} (h : jk_lt p v u) (hv : ∀ q, q < p → v q ≤ 8) : jk_cd v p < jk_cd u p := by
  obtain ⟨j, hj, h1, h2⟩ := h
  have : ∀ k, j + 1 + k ≤ p → jk_cd v (j + 1 + k) < jk_cd u (j + 1 + k) := by
    intro k
    induction k with
    | zero =>
      intro _
      show jk_cd v j * 9 + v j < jk_cd u j * 9 + u j
      rw [jk_cd_congr j h1]
      omega
    | succ k ih =>
      intro hk
      have h3 := ih (by omega)
      have h4 := hv (j + 1 + k) (by omega)
      show jk_cd v (j + 1 + k) * 9 + v (j + 1 + k) < jk_cd u (j + 1 + k) * 9 + u (j + 1 + k)
      omega
  have := this (p - (j + 1)) (by omega)
  rw [show j + 1 + (p - (j + 1)) = p by omega] at this
  exact this
theorem jk_cd_ub {p : Nat} {v : Nat → Nat} (hv : ∀ q, q < p → v q ≤ 8) : ∀ q, q ≤ p → jk_cd v q < 9 ^ q := by
  intro q
  induction q with
  | zero => intro _; exact Nat.one_pos
  | succ q ih =>
    intro hq
    have h1 := ih (by omega)
    have h2 := hv q (by omega)
    show jk_cd v q * 9 + v q < _
    rw [Nat.pow_succ]
    omega
def jk_nx (v : Nat → Nat) (q j : Nat) : Nat := if j < q then v j else if j = q then v q + 1 else 0
theorem jk_nx_rg {p q : Nat} {v : Nat → Nat} (hv : jk_rg p v) (hq : q < p) (h : v q < jk_us v q) : jk_rg p (jk_nx v q) := by
  intro j hj
  have pre : ∀ i, i < q → jk_nx v q i = v i := fun i hi => if_pos hi
  by_cases c : j < q
  · rw [pre j c, jk_us_congr (u := v) j (fun i hi => pre i (by omega))]
    exact hv j hj
  · by_cases e : j = q
    · rw [e, jk_us_congr (u := v) q pre]
      show (if q < q then _ else if q = q then v q + 1 else 0) ≤ _
      rw [if_neg (Nat.lt_irrefl _), if_pos rfl]
      exact h
    · have : jk_nx v q j = 0 := by
        unfold jk_nx
        rw [if_neg c, if_neg e]
      rw [this]
      exact Nat.zero_le _
theorem jk_nx_ge {p q : Nat} {v u : Nat → Nat} (hu : jk_rg p u) (hq : q < p) (hmax : ∀ j, q < j → j < p → ¬ v j < jk_us v j) (h : jk_lt p v u) : (∀ j, j < p → u j = jk_nx v q j) ∨ jk_lt p (jk_nx v q) u := by
  obtain ⟨j, hj, h1, h2⟩ := h
  have hju : u j ≤ jk_us v j := by
    have := hu j hj
    rw [← jk_us_congr (v := v) (u := u) j h1] at this
    exact this
  have hjq : j ≤ q := by
    apply Classical.byContradiction
    intro c
    exact hmax j (by omega) hj (by omega)
  have pre : ∀ i, i < q → jk_nx v q i = v i := fun i hi => if_pos hi
  have atq : jk_nx v q q = v q + 1 := by
    unfold jk_nx
    rw [if_neg (Nat.lt_irrefl _), if_pos rfl]
  have aft : ∀ i, q < i → jk_nx v q i = 0 := fun i hi => by
    unfold jk_nx
    rw [if_neg (by omega), if_neg (by omega)]
  by_cases e : j = q
  · subst e
    by_cases c : u j = v j + 1
    · by_cases hz : ∃ i, j < i ∧ i < p ∧ u i ≠ 0
      · obtain ⟨i, ⟨i1, i2, i3⟩, i4⟩ := pk_least (fun i => j < i ∧ i < p ∧ u i ≠ 0) hz
        right
        refine ⟨i, i2, fun t ht => ?_, ?_⟩
        · by_cases c1 : t < j
          · rw [pre t c1, h1 t c1]
          · by_cases c2 : t = j
            · rw [c2, atq, c]
            · rw [aft t (by omega)]
              have := i4 t ht
              apply Classical.byContradiction
              intro c3
              exact this ⟨by omega, by omega, fun c4 => c3 c4.symm⟩
        · rw [aft i i1]
          omega
      · left
        intro i hi
        by_cases c1 : i < j
        · rw [pre i c1, h1 i c1]
        · by_cases c2 : i = j
          · rw [c2, atq, c]
          · rw [aft i (by omega)]
            apply Classical.byContradiction
            intro c3
            exact hz ⟨i, by omega, hi, c3⟩
    · right
      exact ⟨j, hj, fun t ht => by rw [pre t ht, h1 t ht], by rw [atq]; omega⟩
  · right
    exact ⟨j, hj, fun t ht => by rw [pre t (by omega), h1 t ht], by rw [pre j (by omega)]; exact h2⟩
section
variable {d : Nat} {N : jb_N}
theorem dm_zero49 {h0 : jx_H} {p q : Nat} {u : Nat → Nat} (hp : p ≤ 8) (m0 : h0.1 30 0 0 = nI p) : ∀ (k i : Nat) (h : jx_H), i + k = p → q < i → (∀ c, c ≠ 49 → h.1 c = h0.1 c) → (∀ j, j < i → h.1 49 0 j = nI (jk_nx u q j)) → ∃ h', F158_71 (DM d) (nI i) h = some ([vi (nI 1)], h') ∧ (∀ c, c ≠ 49 → h'.1 c = h0.1 c) ∧ ∀ j, j < p → h'.1 49 0 j = nI (jk_nx u q j) := by
  intro k
  induction k with
  | zero =>
    intro i h hi hq f f2
    have m : h.1 30 0 0 = nI p := by rw [f 30 (by decide)]; exact m0
    refine ⟨h, ?_, f, fun j hj => f2 j (by omega)⟩
    rw [e158_71, m]
    simp (disch := omega) only [jx_bI_s, jx_bL_s, jx_bV_s, eq_self, true_or, or_true, jx_if_t, jx_if_f, jq_b0, jq_b1, jq_bb, jq_b01, jx_if_in, jx_if_lt, jx_if_nlt, jx_if_le, jx_if_nle, jq_eqp, jq_eqn, nI_clamp, nI_add, pk_sub, pk_mul, jn_and, jn_or, jn_xor, jq_andn, jq_shl1, jq_bit, jq_mn, jq_mx, cond_true, cond_false, jq_jt, jq_jf, jq_e1, jq_e2, jq_e3, jq_e4, Bool.not_true, Bool.not_false, jq_0, jq_1, jq_2, jq_3, jq_4, jq_5, jq_6, jq_8, jq_12, jq_16, jq_20, jq_21, jq_24, jq_30, jq_32, jq_60, jq_84, jq_1000, jq_2436, jq_20001]
  | succ k ih =>
    intro i h hi hq f f2
    have m : h.1 30 0 0 = nI p := by rw [f 30 (by decide)]; exact m0
    obtain ⟨h', a1, a2⟩ := ih (i + 1) (jx_sI h 49 0 i (nI 0)) (by omega) (by omega) (fun c hc => by rw [jx_sk hc]; exact f c hc) (fun j hj => by
      rw [jx_sv]
      by_cases e : j = i
      · have : jk_nx u q j = 0 := by
          unfold jk_nx
          rw [if_neg (by omega), if_neg (by omega)]
        rw [if_pos e, this]
      · rw [if_neg e]
        exact f2 j (by omega))
    refine ⟨h', ?_, a2⟩
    rw [e158_71, m]
    simp (disch := omega) only [jx_bI_s, jx_bL_s, jx_bV_s, eq_self, true_or, or_true, jx_if_t, jx_if_f, jq_b0, jq_b1, jq_bb, jq_b01, jx_if_in, jx_if_lt, jx_if_nlt, jx_if_le, jx_if_nle, jq_eqp, jq_eqn, nI_clamp, nI_add, pk_sub, pk_mul, jn_and, jn_or, jn_xor, jq_andn, jq_shl1, jq_bit, jq_mn, jq_mx, cond_true, cond_false, jq_jt, jq_jf, jq_e1, jq_e2, jq_e3, jq_e4, Bool.not_true, Bool.not_false, jq_0, jq_1, jq_2, jq_3, jq_4, jq_5, jq_6, jq_8, jq_12, jq_16, jq_20, jq_21, jq_24, jq_30, jq_32, jq_60, jq_84, jq_1000, jq_2436, jq_20001]
    exact a1
theorem dm_nextP {h : jx_H} {p : Nat} {v : Nat → Nat} (hp : p ≤ 8) (hp2 : 2 ≤ p) (m : h.1 30 0 0 = nI p) (hv : jk_rg p v) (hh : ∀ j, j < p → h.1 49 0 j = nI (v j)) : (∃ q h', q < p ∧ v q < jk_us v q ∧ (∀ j, q < j → j < p → ¬ v j < jk_us v j) ∧ DM (d + 1) 158 [vr 30 0] h = some ([vi (nI 1)], h') ∧ (∀ c, c ≠ 49 → h'.1 c = h.1 c) ∧ ∀ j, j < p → h'.1 49 0 j = nI (jk_nx v q j)) ∨ ((∀ j, 0 < j → j < p → ¬ v j < jk_us v j) ∧ DM (d + 1) 158 [vr 30 0] h = some ([vi (nI 0)], h)) := by
  have vl : ∀ j, j < p → v j ≤ 7 := fun j hj => by
    have := hv j hj
    have := jk_us_le hv j (by omega)
    omega
  have inner : ∀ i, 1 ≤ i → i < p → F158_15 (DM d) (nI i) (nI 0) (nI 0) h = F158_15 (DM d) (nI i) (nI (jk_us v i - 1)) (nI i) h := by
    intro i hi1 hi
    refine jn_loop (fun j => F158_15 (DM d) (nI i) (nI (jk_us v j - 1)) (nI j) h) (Nat.zero_le i) (fun j _ hj => ?_)
    show F158_15 _ _ _ _ _ = F158_15 _ _ (nI (max (jk_us v j) (v j + 1) - 1)) _ _
    have hul := jk_us_le hv j (by omega)
    have hvj := vl j (by omega)
    rw [e158_15]
    by_cases c : v j ≤ jk_us v j - 1
    · rw [show max (jk_us v j) (v j + 1) - 1 = jk_us v j - 1 by omega]
      simp (disch := omega) only [jx_bI_s, jx_bL_s, jx_bV_s, eq_self, true_or, or_true, jx_if_t, jx_if_f, jq_b0, jq_b1, jq_bb, jq_b01, jx_if_in, jx_if_lt, jx_if_nlt, jx_if_le, jx_if_nle, jq_eqp, jq_eqn, nI_clamp, nI_add, pk_sub, pk_mul, jn_and, jn_or, jn_xor, jq_andn, jq_shl1, jq_bit, jq_mn, jq_mx, cond_true, cond_false, jq_jt, jq_jf, jq_e1, jq_e2, jq_e3, jq_e4, Bool.not_true, Bool.not_false, jq_0, jq_1, jq_2, jq_3, jq_4, jq_5, jq_6, jq_8, jq_12, jq_16, jq_20, jq_21, jq_24, jq_30, jq_32, jq_60, jq_84, jq_1000, jq_2436, jq_20001, hh j (by omega), e158_40]
    · rw [show max (jk_us v j) (v j + 1) - 1 = v j by omega]
      simp (disch := omega) only [jx_bI_s, jx_bL_s, jx_bV_s, eq_self, true_or, or_true, jx_if_t, jx_if_f, jq_b0, jq_b1, jq_bb, jq_b01, jx_if_in, jx_if_lt, jx_if_nlt, jx_if_le, jx_if_nle, jq_eqp, jq_eqn, nI_clamp, nI_add, pk_sub, pk_mul, jn_and, jn_or, jn_xor, jq_andn, jq_shl1, jq_bit, jq_mn, jq_mx, cond_true, cond_false, jq_jt, jq_jf, jq_e1, jq_e2, jq_e3, jq_e4, Bool.not_true, Bool.not_false, jq_0, jq_1, jq_2, jq_3, jq_4, jq_5, jq_6, jq_8, jq_12, jq_16, jq_20, jq_21, jq_24, jq_30, jq_32, jq_60, jq_84, jq_1000, jq_2436, jq_20001, hh j (by omega), e158_40]
  have loop : ∀ i, i < p → (∀ j, i < j → j < p → ¬ v j < jk_us v j) → (∃ q h', q < p ∧ v q < jk_us v q ∧ (∀ j, q < j → j < p → ¬ v j < jk_us v j) ∧ F158_7 (DM d) (nI i) h = some ([vi (nI 1)], h') ∧ (∀ c, c ≠ 49 → h'.1 c = h.1 c) ∧ ∀ j, j < p → h'.1 49 0 j = nI (jk_nx v q j)) ∨ ((∀ j, 0 < j → j < p → ¬ v j < jk_us v j) ∧ F158_7 (DM d) (nI i) h = some ([vi (nI 0)], h)) := by
    intro i
    induction i with
    | zero =>
      intro _ hmax
      refine Or.inr ⟨hmax, ?_⟩
      rw [e158_7]
      simp (disch := omega) only [jx_bI_s, jx_bL_s, jx_bV_s, eq_self, true_or, or_true, jx_if_t, jx_if_f, jq_b0, jq_b1, jq_bb, jq_b01, jx_if_in, jx_if_lt, jx_if_nlt, jx_if_le, jx_if_nle, jq_eqp, jq_eqn, nI_clamp, nI_add, pk_sub, pk_mul, jn_and, jn_or, jn_xor, jq_andn, jq_shl1, jq_bit, jq_mn, jq_mx, cond_true, cond_false, jq_jt, jq_jf, jq_e1, jq_e2, jq_e3, jq_e4, Bool.not_true, Bool.not_false, jq_0, jq_1, jq_2, jq_3, jq_4, jq_5, jq_6, jq_8, jq_12, jq_16, jq_20, jq_21, jq_24, jq_30, jq_32, jq_60, jq_84, jq_1000, jq_2436, jq_20001]
    | succ i ih =>
      intro hi hmax
      have hul := jk_us_le hv (i + 1) (by omega)
      have hu1 := jk_us1 (v := v) (q := i + 1) (by omega)
      have hvi := vl (i + 1) hi
      have nx : nI (i + 1) + (-1) = nI i := pk_m1 i
      have st : F158_7 (DM d) (nI (i + 1)) h = F158_15 (DM d) (nI (i + 1)) (nI (jk_us v (i + 1) - 1)) (nI (i + 1)) h := by
        rw [e158_7, ← inner (i + 1) (by omega) hi]
        simp (disch := omega) only [jx_bI_s, jx_bL_s, jx_bV_s, eq_self, true_or, or_true, jx_if_t, jx_if_f, jq_b0, jq_b1, jq_bb, jq_b01, jx_if_in, jx_if_lt, jx_if_nlt, jx_if_le, jx_if_nle, jq_eqp, jq_eqn, nI_clamp, nI_add, pk_sub, pk_mul, jn_and, jn_or, jn_xor, jq_andn, jq_shl1, jq_bit, jq_mn, jq_mx, cond_true, cond_false, jq_jt, jq_jf, jq_e1, jq_e2, jq_e3, jq_e4, Bool.not_true, Bool.not_false, jq_0, jq_1, jq_2, jq_3, jq_4, jq_5, jq_6, jq_8, jq_12, jq_16, jq_20, jq_21, jq_24, jq_30, jq_32, jq_60, jq_84, jq_1000, jq_2436, jq_20001]
      by_cases c : v (i + 1) < jk_us v (i + 1)
      · obtain ⟨h', a1, a2, a3⟩ := dm_zero49 (d := d) (h0 := h) (p := p) (q := i + 1) (u := v) hp m (p - (i + 2)) (i + 2) (jx_sI h 49 0 (i + 1) (nI (v (i + 1) + 1))) (by omega) (by omega) (fun c hc => jx_sk hc) (fun j hj => by
          rw [jx_sv]
          by_cases e : j = i + 1
          · rw [if_pos e, e]
            unfold jk_nx
            rw [if_neg (Nat.lt_irrefl _), if_pos rfl]
          · rw [if_neg e, hh j (by omega)]
            unfold jk_nx
            rw [if_pos (by omega)])
        refine Or.inl ⟨i + 1, h', hi, c, hmax, ?_, a2, a3⟩
        rw [st, e158_15]
        simp (disch := omega) only [jx_bI_s, jx_bL_s, jx_bV_s, eq_self, true_or, or_true, jx_if_t, jx_if_f, jq_b0, jq_b1, jq_bb, jq_b01, jx_if_in, jx_if_lt, jx_if_nlt, jx_if_le, jx_if_nle, jq_eqp, jq_eqn, nI_clamp, nI_add, pk_sub, pk_mul, jn_and, jn_or, jn_xor, jq_andn, jq_shl1, jq_bit, jq_mn, jq_mx, cond_true, cond_false, jq_jt, jq_jf, jq_e1, jq_e2, jq_e3, jq_e4, Bool.not_true, Bool.not_false, jq_0, jq_1, jq_2, jq_3, jq_4, jq_5, jq_6, jq_8, jq_12, jq_16, jq_20, jq_21, jq_24, jq_30, jq_32, jq_60, jq_84, jq_1000, jq_2436, jq_20001, hh (i + 1) hi]
        exact a1
      · have := ih (by omega) (fun j h1 h2 => by
          by_cases e : j = i + 1
          · rw [e]; exact c
          · exact hmax j (by omega) h2)
        have st2 : F158_7 (DM d) (nI (i + 1)) h = F158_7 (DM d) (nI i) h := by
          rw [st, e158_15, nx]
          simp (disch := omega) only [jx_bI_s, jx_bL_s, jx_bV_s, eq_self, true_or, or_true, jx_if_t, jx_if_f, jq_b0, jq_b1, jq_bb, jq_b01, jx_if_in, jx_if_lt, jx_if_nlt, jx_if_le, jx_if_nle, jq_eqp, jq_eqn, nI_clamp, nI_add, pk_sub, pk_mul, jn_and, jn_or, jn_xor, jq_andn, jq_shl1, jq_bit, jq_mn, jq_mx, cond_true, cond_false, jq_jt, jq_jf, jq_e1, jq_e2, jq_e3, jq_e4, Bool.not_true, Bool.not_false, jq_0, jq_1, jq_2, jq_3, jq_4, jq_5, jq_6, jq_8, jq_12, jq_16, jq_20, jq_21, jq_24, jq_30, jq_32, jq_60, jq_84, jq_1000, jq_2436, jq_20001, hh (i + 1) hi]
        rw [st2]
        exact this
  rw [d158, e158_0, m, show (1 : Int32) = nI 1 from rfl, pk_sub (by omega)]
  exact loop (p - 1) (by omega) (fun j h1 h2 => by omega)
theorem dm_valM {h : jx_H} (w : jb_wf N) (m : jb_M h N) {v : Nat → Nat} (hv : jk_rg (jb_p N) v) (h2 : 2 ≤ jk_us v (jb_p N)) (hh : ∀ j, j < jb_p N → h.1 49 0 j = nI (v j)) {b : Nat} (hb : b ≤ 20) : F157_64 (DM (d + 1)) (nI b) (nI 0) (nI 0) (nI 0) h = F157_50 (DM (d + 1)) (nI (min b (jk_val N v))) h := by
  have hn := w.2.1
  have hp := w.1
  have vl : ∀ j, j < jb_p N → v j ≤ 7 := fun j hj => by
    have := hv j hj
    have := jk_us_le hv j (by omega)
    omega
  have s1 : F157_64 (DM (d + 1)) (nI b) (nI 0) (nI 0) (nI 0) h = F157_64 (DM (d + 1)) (nI b) (nI (jk_us v (jb_p N) - 1)) (nI 0) (nI (jb_p N)) h := by
    refine jn_loop (fun j => F157_64 (DM (d + 1)) (nI b) (nI (jk_us v j - 1)) (nI 0) (nI j) h) (Nat.zero_le (jb_p N)) (fun j _ hj => ?_)
    show F157_64 _ _ _ _ _ _ = F157_64 _ _ (nI (max (jk_us v j) (v j + 1) - 1)) _ _ _
    have hul := jk_us_le hv j (by omega)
    have hvj := vl j (by omega)
    rw [e157_64, m.1]
    by_cases c : v j ≤ jk_us v j - 1
    · rw [show max (jk_us v j) (v j + 1) - 1 = jk_us v j - 1 by omega]
      simp (disch := omega) only [jx_bI_s, jx_bL_s, jx_bV_s, eq_self, true_or, or_true, jx_if_t, jx_if_f, jq_b0, jq_b1, jq_bb, jq_b01, jx_if_in, jx_if_lt, jx_if_nlt, jx_if_le, jx_if_nle, jq_eqp, jq_eqn, nI_clamp, nI_add, pk_sub, pk_mul, jn_and, jn_or, jn_xor, jq_andn, jq_shl1, jq_bit, jq_mn, jq_mx, cond_true, cond_false, jq_jt, jq_jf, jq_e1, jq_e2, jq_e3, jq_e4, Bool.not_true, Bool.not_false, jq_0, jq_1, jq_2, jq_3, jq_4, jq_5, jq_6, jq_8, jq_12, jq_16, jq_20, jq_21, jq_24, jq_30, jq_32, jq_60, jq_84, jq_1000, jq_2436, jq_20001, hh j (by omega), e157_95]
    · rw [show max (jk_us v j) (v j + 1) - 1 = v j by omega]
      simp (disch := omega) only [jx_bI_s, jx_bL_s, jx_bV_s, eq_self, true_or, or_true, jx_if_t, jx_if_f, jq_b0, jq_b1, jq_bb, jq_b01, jx_if_in, jx_if_lt, jx_if_nlt, jx_if_le, jx_if_nle, jq_eqp, jq_eqn, nI_clamp, nI_add, pk_sub, pk_mul, jn_and, jn_or, jn_xor, jq_andn, jq_shl1, jq_bit, jq_mn, jq_mx, cond_true, cond_false, jq_jt, jq_jf, jq_e1, jq_e2, jq_e3, jq_e4, Bool.not_true, Bool.not_false, jq_0, jq_1, jq_2, jq_3, jq_4, jq_5, jq_6, jq_8, jq_12, jq_16, jq_20, jq_21, jq_24, jq_30, jq_32, jq_60, jq_84, jq_1000, jq_2436, jq_20001, hh j (by omega), e157_95]
  have hul := jk_us_le hv (jb_p N) (Nat.le_refl _)
  have hcl : jk_cr N v (jb_p N) ≤ jb_n N := jn_ct_le _ _
  have s2 : F157_105 (DM (d + 1)) (nI b) (nI (jk_us v (jb_p N) - 1)) (nI 0) (nI 0) h = F157_105 (DM (d + 1)) (nI b) (nI (jk_us v (jb_p N) - 1)) (nI (jk_cr N v (jb_p N))) (nI (jb_n N)) h := by
    refine jn_loop (fun r => F157_105 (DM (d + 1)) (nI b) (nI (jk_us v (jb_p N) - 1)) (nI (jn_ct (fun r => decide (jb_f N r < jb_p N) && (decide (jb_s N r < jb_p N) && decide (v (jb_f N r) ≠ v (jb_s N r)))) r)) (nI r) h) (Nat.zero_le (jb_n N)) (fun r _ hr => ?_)
    show F157_105 _ _ _ _ _ _ = F157_105 _ _ _ _ _ _
    obtain ⟨w1, w2, _⟩ := w.2.2 r hr
    obtain ⟨m1, m2, _⟩ := m.2.2.2 r hr
    have v1 := vl _ w1
    have v2 := vl _ w2
    rw [e157_105, m.2.1]
    by_cases c : v (jb_f N r) = v (jb_s N r)
    · rw [show jn_ct (fun r => decide (jb_f N r < jb_p N) && (decide (jb_s N r < jb_p N) && decide (v (jb_f N r) ≠ v (jb_s N r)))) (r + 1) = jn_ct (fun r => decide (jb_f N r < jb_p N) && (decide (jb_s N r < jb_p N) && decide (v (jb_f N r) ≠ v (jb_s N r)))) r from (jn_ct_z (f := fun r => decide (jb_f N r < jb_p N) && (decide (jb_s N r < jb_p N) && decide (v (jb_f N r) ≠ v (jb_s N r)))) (by simp [c])).symm]
      simp (disch := omega) only [jx_bI_s, jx_bL_s, jx_bV_s, eq_self, true_or, or_true, jx_if_t, jx_if_f, jq_b0, jq_b1, jq_bb, jq_b01, jx_if_in, jx_if_lt, jx_if_nlt, jx_if_le, jx_if_nle, jq_eqp, jq_eqn, nI_clamp, nI_add, pk_sub, pk_mul, jn_and, jn_or, jn_xor, jq_andn, jq_shl1, jq_bit, jq_mn, jq_mx, cond_true, cond_false, jq_jt, jq_jf, jq_e1, jq_e2, jq_e3, jq_e4, Bool.not_true, Bool.not_false, jq_0, jq_1, jq_2, jq_3, jq_4, jq_5, jq_6, jq_8, jq_12, jq_16, jq_20, jq_21, jq_24, jq_30, jq_32, jq_60, jq_84, jq_1000, jq_2436, jq_20001, m1, m2, hh _ w1, hh _ w2, e157_147, e157_149, Nat.add_zero]
    · rw [← jn_ct_p (f := fun r => decide (jb_f N r < jb_p N) && (decide (jb_s N r < jb_p N) && decide (v (jb_f N r) ≠ v (jb_s N r)))) (i := r) (by simp [c, w1, w2])]
      simp (disch := omega) only [jx_bI_s, jx_bL_s, jx_bV_s, eq_self, true_or, or_true, jx_if_t, jx_if_f, jq_b0, jq_b1, jq_bb, jq_b01, jx_if_in, jx_if_lt, jx_if_nlt, jx_if_le, jx_if_nle, jq_eqp, jq_eqn, nI_clamp, nI_add, pk_sub, pk_mul, jn_and, jn_or, jn_xor, jq_andn, jq_shl1, jq_bit, jq_mn, jq_mx, cond_true, cond_false, jq_jt, jq_jf, jq_e1, jq_e2, jq_e3, jq_e4, Bool.not_true, Bool.not_false, jq_0, jq_1, jq_2, jq_3, jq_4, jq_5, jq_6, jq_8, jq_12, jq_16, jq_20, jq_21, jq_24, jq_30, jq_32, jq_60, jq_84, jq_1000, jq_2436, jq_20001, m1, m2, hh _ w1, hh _ w2, e157_147, e157_149]
  have hdiv : nI (jk_cr N v (jb_p N)) / nI (jk_us v (jb_p N) - 1) = nI (jk_val N v) := pk_div (by omega) (by omega) (by omega)
  have hvl : jk_val N v ≤ 20 := Nat.le_trans (Nat.div_le_self _ _) (by omega)
  rw [s1, e157_64, m.1, jx_if_nlt (Nat.le_refl _) (by omega), show (0 : Int32) = nI 0 from rfl, s2, e157_105, m.2.1]
  by_cases c : jk_val N v < b
  · rw [Nat.min_eq_right (by omega)]
    simp (disch := omega) only [jx_bI_s, jx_bL_s, jx_bV_s, eq_self, true_or, or_true, jx_if_t, jx_if_f, jq_b0, jq_b1, jq_bb, jq_b01, jx_if_in, jx_if_lt, jx_if_nlt, jx_if_le, jx_if_nle, jq_eqp, jq_eqn, nI_clamp, nI_add, pk_sub, pk_mul, jn_and, jn_or, jn_xor, jq_andn, jq_shl1, jq_bit, jq_mn, jq_mx, cond_true, cond_false, jq_jt, jq_jf, jq_e1, jq_e2, jq_e3, jq_e4, Bool.not_true, Bool.not_false, jq_0, jq_1, jq_2, jq_3, jq_4, jq_5, jq_6, jq_8, jq_12, jq_16, jq_20, jq_21, jq_24, jq_30, jq_32, jq_60, jq_84, jq_1000, jq_2436, jq_20001, hdiv, e157_169]
  · rw [Nat.min_eq_left (by omega)]
    simp (disch := omega) only [jx_bI_s, jx_bL_s, jx_bV_s, eq_self, true_or, or_true, jx_if_t, jx_if_f, jq_b0, jq_b1, jq_bb, jq_b01, jx_if_in, jx_if_lt, jx_if_nlt, jx_if_le, jx_if_nle, jq_eqp, jq_eqn, nI_clamp, nI_add, pk_sub, pk_mul, jn_and, jn_or, jn_xor, jq_andn, jq_shl1, jq_bit, jq_mn, jq_mx, cond_true, cond_false, jq_jt, jq_jf, jq_e1, jq_e2, jq_e3, jq_e4, Bool.not_true, Bool.not_false, jq_0, jq_1, jq_2, jq_3, jq_4, jq_5, jq_6, jq_8, jq_12, jq_16, jq_20, jq_21, jq_24, jq_30, jq_32, jq_60, jq_84, jq_1000, jq_2436, jq_20001, hdiv, e157_169]
theorem dm_packM {h0 : jx_H} (w : jb_wf N) (m0 : jb_M h0 N) (hp2 : 2 ≤ jb_p N) : ∀ (k b : Nat) (v : Nat → Nat) (h : jx_H), 9 ^ jb_p N ≤ jk_cd v (jb_p N) + k → jk_rg (jb_p N) v → b ≤ 20 → (∀ c, c ≠ 49 → h.1 c = h0.1 c) → (∀ j, j < jb_p N → h.1 49 0 j = nI (v j)) → ∃ R h', F157_50 (DM (d + 1)) (nI b) h = some ([vi (nI R)], h') ∧ (∀ c, c ≠ 49 → h'.1 c = h0.1 c) ∧ R ≤ b ∧ (∀ u, jk_rg (jb_p N) u → jk_lt (jb_p N) v u → R ≤ jk_val N u) ∧ (R = b ∨ ∃ u, jk_rg (jb_p N) u ∧ 2 ≤ jk_us u (jb_p N) ∧ R = jk_val N u) := by
  have hp := w.1
  have v8 : ∀ v, jk_rg (jb_p N) v → ∀ j, j < jb_p N → v j ≤ 8 := fun v hv j hj => by
    have := hv j hj
    have := jk_us_le hv j (by omega)
    omega
  intro k
  induction k with
  | zero =>
    intro b v h hk hv
    have := jk_cd_ub (v8 v hv) (jb_p N) (Nat.le_refl _)
    omega
  | succ k ih =>
    intro b v h hk hv hb f hh
    have m : jb_M h N := jb_M38 (c := 49) (by decide) m0 f
    rcases dm_nextP (d := d) hp hp2 m.1 hv hh with ⟨q, h1, q1, q2, q3, q4, q5, q6⟩ | ⟨q1, q2⟩
    · have rg := jk_nx_rg hv q1 q2
      have atq : jk_nx v q q = v q + 1 := by
        unfold jk_nx
        rw [if_neg (Nat.lt_irrefl _), if_pos rfl]
      have us2 : 2 ≤ jk_us (jk_nx v q) (jb_p N) := by
        have := jk_lt_us (v := jk_nx v q) q1
        rw [atq] at this
        omega
      have lt : jk_lt (jb_p N) v (jk_nx v q) := ⟨q, q1, fun i hi => (if_pos hi).symm, by rw [atq]; omega⟩
      have cdl := jk_cd_lt lt (v8 v hv)
      have f1 : ∀ c, c ≠ 49 → h1.1 c = h0.1 c := fun c hc => by rw [q5 c hc]; exact f c hc
      have m1 : jb_M h1 N := jb_M38 (c := 49) (by decide) m0 f1
      have ev := dm_valM (d := d) w m1 rg us2 q6 hb
      obtain ⟨R, h', a1, a2, a3, a4, a5⟩ := ih (min b (jk_val N (jk_nx v q))) (jk_nx v q) h1 (by omega) rg (by omega) f1 q6
      refine ⟨R, h', ?_, a2, Nat.le_trans a3 (Nat.min_le_left _ _), fun u hu hlt => ?_, ?_⟩
      · rw [e157_50]
        simp (disch := omega) only [jx_bI_s, jx_bL_s, jx_bV_s, eq_self, true_or, or_true, jx_if_t, jx_if_f, jq_b0, jq_b1, jq_bb, jq_b01, jx_if_in, jx_if_lt, jx_if_nlt, jx_if_le, jx_if_nle, jq_eqp, jq_eqn, nI_clamp, nI_add, pk_sub, pk_mul, jn_and, jn_or, jn_xor, jq_andn, jq_shl1, jq_bit, jq_mn, jq_mx, cond_true, cond_false, jq_jt, jq_jf, jq_e1, jq_e2, jq_e3, jq_e4, Bool.not_true, Bool.not_false, jq_0, jq_1, jq_2, jq_3, jq_4, jq_5, jq_6, jq_8, jq_12, jq_16, jq_20, jq_21, jq_24, jq_30, jq_32, jq_60, jq_84, jq_1000, jq_2436, jq_20001, q4]
        exact ev.trans a1
      · rcases jk_nx_ge hu q1 q3 hlt with e | e
        · have : jk_val N u = jk_val N (jk_nx v q) := by
            unfold jk_val
            rw [jk_us_congr _ e, jk_cr_congr e]
          rw [this]
          exact Nat.le_trans a3 (Nat.min_le_right _ _)
        · exact a4 u hu e
      · rcases a5 with a5 | a5
        · by_cases c : b ≤ jk_val N (jk_nx v q)
          · left
            rw [a5, Nat.min_eq_left c]
          · right
            exact ⟨jk_nx v q, rg, us2, by rw [a5, Nat.min_eq_right (Nat.le_of_lt (Nat.lt_of_not_le c))]⟩
        · exact Or.inr a5
    · refine ⟨b, h, ?_, f, Nat.le_refl _, fun u hu hlt => ?_, Or.inl rfl⟩
      · rw [e157_50]
        simp (disch := omega) only [jx_bI_s, jx_bL_s, jx_bV_s, eq_self, true_or, or_true, jx_if_t, jx_if_f, jq_b0, jq_b1, jq_bb, jq_b01, jx_if_in, jx_if_lt, jx_if_nlt, jx_if_le, jx_if_nle, jq_eqp, jq_eqn, nI_clamp, nI_add, pk_sub, pk_mul, jn_and, jn_or, jn_xor, jq_andn, jq_shl1, jq_bit, jq_mn, jq_mx, cond_true, cond_false, jq_jt, jq_jf, jq_e1, jq_e2, jq_e3, jq_e4, Bool.not_true, Bool.not_false, jq_0, jq_1, jq_2, jq_3, jq_4, jq_5, jq_6, jq_8, jq_12, jq_16, jq_20, jq_21, jq_24, jq_30, jq_32, jq_60, jq_84, jq_1000, jq_2436, jq_20001, q2]
      · exfalso
        obtain ⟨j, hj, h1, h2⟩ := hlt
        have hju : u j ≤ jk_us v j := by
          have := hu j hj
          rw [← jk_us_congr (v := v) (u := u) j h1] at this
          exact this
        by_cases j0 : j = 0
        · subst j0
          have : jk_us v 0 = 0 := rfl
          omega
        · exact q1 j (by omega) hj (by omega)
theorem dm_zeroP {h0 : jx_H} (m0 : jb_M h0 N) (hp : jb_p N ≤ 8) : ∀ (k i : Nat) (h : jx_H), i + k = jb_p N → (∀ c, c ≠ 49 → h.1 c = h0.1 c) → (∀ j, j < i → h.1 49 0 j = nI 0) → ∃ h', F157_26 (DM d) (nI i) h = F157_50 (DM d) (nI 20) h' ∧ (∀ c, c ≠ 49 → h'.1 c = h0.1 c) ∧ ∀ j, j < jb_p N → h'.1 49 0 j = nI 0 := by
  intro k
  induction k with
  | zero =>
    intro i h hi f f2
    have m : jb_M h N := jb_M38 (c := 49) (by decide) m0 f
    refine ⟨h, ?_, f, fun j hj => f2 j (by omega)⟩
    rw [e157_26, m.1]
    simp (disch := omega) only [jx_bI_s, jx_bL_s, jx_bV_s, eq_self, true_or, or_true, jx_if_t, jx_if_f, jq_b0, jq_b1, jq_bb, jq_b01, jx_if_in, jx_if_lt, jx_if_nlt, jx_if_le, jx_if_nle, jq_eqp, jq_eqn, nI_clamp, nI_add, pk_sub, pk_mul, jn_and, jn_or, jn_xor, jq_andn, jq_shl1, jq_bit, jq_mn, jq_mx, cond_true, cond_false, jq_jt, jq_jf, jq_e1, jq_e2, jq_e3, jq_e4, Bool.not_true, Bool.not_false, jq_0, jq_1, jq_2, jq_3, jq_4, jq_5, jq_6, jq_8, jq_12, jq_16, jq_20, jq_21, jq_24, jq_30, jq_32, jq_60, jq_84, jq_1000, jq_2436, jq_20001]
  | succ k ih =>
    intro i h hi f f2
    have m : jb_M h N := jb_M38 (c := 49) (by decide) m0 f
    obtain ⟨h', a1, a2⟩ := ih (i + 1) (jx_sI h 49 0 i (nI 0)) (by omega) (fun c hc => by rw [jx_sk hc]; exact f c hc) (fun j hj => by
      rw [jx_sv]
      by_cases e : j = i
      · rw [if_pos e]
      · rw [if_neg e]
        exact f2 j (by omega))
    refine ⟨h', ?_, a2⟩
    rw [e157_26, m.1]
    simp (disch := omega) only [jx_bI_s, jx_bL_s, jx_bV_s, eq_self, true_or, or_true, jx_if_t, jx_if_f, jq_b0, jq_b1, jq_bb, jq_b01, jx_if_in, jx_if_lt, jx_if_nlt, jx_if_le, jx_if_nle, jq_eqp, jq_eqn, nI_clamp, nI_add, pk_sub, pk_mul, jn_and, jn_or, jn_xor, jq_andn, jq_shl1, jq_bit, jq_mn, jq_mx, cond_true, cond_false, jq_jt, jq_jf, jq_e1, jq_e2, jq_e3, jq_e4, Bool.not_true, Bool.not_false, jq_0, jq_1, jq_2, jq_3, jq_4, jq_5, jq_6, jq_8, jq_12, jq_16, jq_20, jq_21, jq_24, jq_30, jq_32, jq_60, jq_84, jq_1000, jq_2436, jq_20001]
    exact a1
end
theorem jt_25 {d : Nat} {hx hm : jx_H} (I : jb_Inv hx hm) : jl_g d 74 157 [] hx hm := by
  obtain ⟨N, w, x, m, h', rd, I', x', P⟩ := I.rd d
  have hn := w.2.1
  have hp := w.1
  cases ht : jb_t N
  · by_cases hp2 : jb_p N < 2
    · refine ⟨nI 0, h', hm, ?_, ?_, I'⟩
      · rw [d74, e74_0, x.2.2.1, ht]
        simp (disch := omega) only [jx_bI_s, jx_bL_s, jx_bV_s, eq_self, true_or, or_true, jx_if_t, jx_if_f, jq_b0, jq_b1, jq_bb, jq_b01, jx_if_in, jx_if_lt, jx_if_nlt, jx_if_le, jx_if_nle, jq_eqp, jq_eqn, nI_clamp, nI_add, pk_sub, pk_mul, jn_and, jn_or, jn_xor, jq_andn, jq_shl1, jq_bit, jq_mn, jq_mx, cond_true, cond_false, jq_jt, jq_jf, jq_e1, jq_e2, jq_e3, jq_e4, Bool.not_true, Bool.not_false, jq_0, jq_1, jq_2, jq_3, jq_4, jq_5, jq_6, jq_8, jq_12, jq_16, jq_20, jq_21, jq_24, jq_30, jq_32, jq_60, jq_84, jq_1000, jq_2436, jq_20001, rd, d75, e75_0, P.1.1]
      · rw [d157, e157_0, m.2.2.1, ht, m.1]
        simp (disch := omega) only [jx_bI_s, jx_bL_s, jx_bV_s, eq_self, true_or, or_true, jx_if_t, jx_if_f, jq_b0, jq_b1, jq_bb, jq_b01, jx_if_in, jx_if_lt, jx_if_nlt, jx_if_le, jx_if_nle, jq_eqp, jq_eqn, nI_clamp, nI_add, pk_sub, pk_mul, jn_and, jn_or, jn_xor, jq_andn, jq_shl1, jq_bit, jq_mn, jq_mx, cond_true, cond_false, jq_jt, jq_jf, jq_e1, jq_e2, jq_e3, jq_e4, Bool.not_true, Bool.not_false, jq_0, jq_1, jq_2, jq_3, jq_4, jq_5, jq_6, jq_8, jq_12, jq_16, jq_20, jq_21, jq_24, jq_30, jq_32, jq_60, jq_84, jq_1000, jq_2436, jq_20001]
    · have fr : ∀ c, c ≠ 22 → c ≠ 23 → (jx_sI (jx_sI h' 22 0 0 (nI 1)) 22 0 1 (nI (jb_n N))).1 c = h'.1 c := fun c h1 _ => by rw [jx_sk h1, jx_sk h1]
      have e0 : jk_cr N (fun _ => 0) 0 = 0 := jn_ct_zero _ (fun r _ => by simp)
      obtain ⟨B, h2, a1, a2, a3, a4, a5, a6, a7, a8⟩ := dm_part (d := d + 36 - jb_p N) (h0 := jx_sI (jx_sI h' 22 0 0 (nI 1)) 22 0 1 (nI (jb_n N))) w (jk_P22 P fr) ht (jb_p N) 0 (jb_n N) (fun _ => 0) _ (by omega) (fun q hq => by omega) hn (fun _ _ _ => rfl) (by rw [jx_sp (by decide), jx_ss]) jx_ss (fun i hi => absurd hi (Nat.not_lt_zero i))
      rw [show d + 36 - jb_p N + jb_p N + 2 = d + 38 by omega, e0] at a1
      have a1 : DM (d + 38) 76 [vr 22 0, vi (nI 0), vi (nI 0), vi (nI 0)] (jx_sI (jx_sI h' 22 0 0 (nI 1)) 22 0 1 (nI (jb_n N))) = some ([], h2) := a1
      obtain ⟨g1, b1, b2, b3⟩ := dm_zeroP (d := d + 39) m hp (jb_p N) 0 hm (by omega) (fun _ _ => rfl) (fun j hj => by omega)
      have rg0 : jk_rg (jb_p N) (fun _ => 0) := fun q _ => Nat.zero_le _
      obtain ⟨R, g2, c1, c2, c3, c4, c5⟩ := dm_packM (d := d + 38) w m (by omega) (9 ^ jb_p N) 20 (fun _ => 0) g1 (by omega) rg0 (Nat.le_refl _) b2 b3
      -- every parting comes after the first
      have after : ∀ u, jk_rg (jb_p N) u → 2 ≤ jk_us u (jb_p N) → jk_lt (jb_p N) (fun _ => 0) u := fun u hu hu2 => by
        have ex : ∃ j, j < jb_p N ∧ u j ≠ 0 := by
          apply Classical.byContradiction
          intro hno
          have : ∀ q, q ≤ jb_p N → jk_us u q ≤ 1 := by
            intro q
            induction q with
            | zero => intro _; exact Nat.zero_le _
            | succ q ihq =>
              intro hq
              have h1 := ihq (by omega)
              have h2 : u q = 0 := by
                apply Classical.byContradiction
                intro c
                exact hno ⟨q, by omega, c⟩
              show max (jk_us u q) (u q + 1) ≤ 1
              omega
          have := this (jb_p N) (Nat.le_refl _)
          omega
        obtain ⟨j, ⟨j1, j2⟩, j3⟩ := pk_least (fun j => j < jb_p N ∧ u j ≠ 0) ex
        refine ⟨j, j1, fun i hi => ?_, by show 0 < u j; omega⟩
        apply Classical.byContradiction
        intro c
        exact j3 i hi ⟨by omega, fun c2 => c c2.symm⟩
      obtain ⟨s, hs1, hs2, hs3⟩ : ∃ s, jk_rg (jb_p N) s ∧ 2 ≤ jk_us s (jb_p N) ∧ jk_val N s ≤ jb_n N := by
        refine ⟨fun j => if j = 1 then 1 else 0, fun q hq => ?_, ?_, Nat.le_trans (Nat.div_le_self _ _) (jn_ct_le _ _)⟩
        · show (if q = 1 then 1 else 0) ≤ _
          by_cases e : q = 1
          · rw [if_pos e, e]
            exact jk_us1 (Nat.le_refl _)
          · rw [if_neg e]
            exact Nat.zero_le _
        · have := jk_lt_us (v := fun j => if j = 1 then 1 else 0) (show 1 < jb_p N by omega)
          have h1 : (if (1 : Nat) = 1 then 1 else 0) < jk_us (fun j => if j = 1 then 1 else 0) (jb_p N) := this
          rw [if_pos rfl] at h1
          omega
      have k1 := a7 s hs1 (fun j hj => by omega) hs2
      have k2 := c4 s hs1 (after s hs1 hs2)
      have attB : ∃ u, jk_rg (jb_p N) u ∧ 2 ≤ jk_us u (jb_p N) ∧ B = jk_val N u := by
        rcases a8 with a8 | a8
        · exact ⟨s, hs1, hs2, Nat.le_antisymm k1 (by rw [a8]; exact hs3)⟩
        · exact a8
      have attR : ∃ u, jk_rg (jb_p N) u ∧ 2 ≤ jk_us u (jb_p N) ∧ R = jk_val N u := by
        rcases c5 with c5 | c5
        · exact ⟨s, hs1, hs2, Nat.le_antisymm k2 (by rw [c5]; exact Nat.le_trans hs3 hn)⟩
        · exact c5
      have eB : B = R := by
        obtain ⟨u1, p1, p2, p3⟩ := attB
        obtain ⟨u2, q1, q2, q3⟩ := attR
        have z1 := a7 u2 q1 (fun j hj => absurd hj (Nat.not_lt_zero j)) q2
        have z2 := c4 u1 p1 (after u1 p1 p2)
        exact Nat.le_antisymm (by rw [q3]; exact z1) (by rw [p3]; exact z2)
      have sx : jb_SX h' h2 := ⟨fun c hc => by
        have hc1 : c ≠ 22 := fun e => hc (by unfold jb_sx; omega)
        have hc2 : c ≠ 23 := fun e => hc (by unfold jb_sx; omega)
        rw [a2 c hc1 hc2, fr c hc1 hc2], fun z => by
        unfold jb_zero at *
        rw [a2 15 (by decide) (by decide), a2 16 (by decide) (by decide), a2 17 (by decide) (by decide), a2 18 (by decide) (by decide), fr 15 (by decide) (by decide), fr 16 (by decide) (by decide), fr 17 (by decide) (by decide), fr 18 (by decide) (by decide)]
        exact z⟩
      have sm : jb_SM hm g2 := ⟨fun c hc _ _ => c2 c (fun e => hc (by unfold jb_sm; omega)), fun r _ => ⟨by rw [c2 33 (by decide)], by rw [c2 34 (by decide)]⟩⟩
      refine ⟨nI B, h2, g2, ?_, ?_, I'.sx sx sm⟩
      · rw [d74, e74_0, x.2.2.1, ht]
        simp (disch := omega) only [jx_bI_s, jx_bL_s, jx_bV_s, eq_self, true_or, or_true, jx_if_t, jx_if_f, jq_b0, jq_b1, jq_bb, jq_b01, jx_if_in, jx_if_lt, jx_if_nlt, jx_if_le, jx_if_nle, jq_eqp, jq_eqn, nI_clamp, nI_add, pk_sub, pk_mul, jn_and, jn_or, jn_xor, jq_andn, jq_shl1, jq_bit, jq_mn, jq_mx, cond_true, cond_false, jq_jt, jq_jf, jq_e1, jq_e2, jq_e3, jq_e4, Bool.not_true, Bool.not_false, jq_0, jq_1, jq_2, jq_3, jq_4, jq_5, jq_6, jq_8, jq_12, jq_16, jq_20, jq_21, jq_24, jq_30, jq_32, jq_60, jq_84, jq_1000, jq_2436, jq_20001, rd, d75, e75_0, P.1.1, P.1.2.1, a1, a4]
      · rw [d157, e157_0, m.2.2.1, ht, m.1, eB]
        simp (disch := omega) only [jx_bI_s, jx_bL_s, jx_bV_s, eq_self, true_or, or_true, jx_if_t, jx_if_f, jq_b0, jq_b1, jq_bb, jq_b01, jx_if_in, jx_if_lt, jx_if_nlt, jx_if_le, jx_if_nle, jq_eqp, jq_eqn, nI_clamp, nI_add, pk_sub, pk_mul, jn_and, jn_or, jn_xor, jq_andn, jq_shl1, jq_bit, jq_mn, jq_mx, cond_true, cond_false, jq_jt, jq_jf, jq_e1, jq_e2, jq_e3, jq_e4, Bool.not_true, Bool.not_false, jq_0, jq_1, jq_2, jq_3, jq_4, jq_5, jq_6, jq_8, jq_12, jq_16, jq_20, jq_21, jq_24, jq_30, jq_32, jq_60, jq_84, jq_1000, jq_2436, jq_20001, b1, c1]
  · refine ⟨-8, _, _, ?_, ?_, I.fd⟩
    · rw [d74, e74_0, x.2.2.1, ht]
      simp (disch := omega) only [jx_bI_s, jx_bL_s, jx_bV_s, eq_self, true_or, or_true, jx_if_t, jx_if_f, jq_b0, jq_b1, jq_bb, jq_b01, jx_if_in, jx_if_lt, jx_if_nlt, jx_if_le, jx_if_nle, jq_eqp, jq_eqn, nI_clamp, nI_add, pk_sub, pk_mul, jn_and, jn_or, jn_xor, jq_andn, jq_shl1, jq_bit, jq_mn, jq_mx, cond_true, cond_false, jq_jt, jq_jf, jq_e1, jq_e2, jq_e3, jq_e4, Bool.not_true, Bool.not_false, jq_0, jq_1, jq_2, jq_3, jq_4, jq_5, jq_6, jq_8, jq_12, jq_16, jq_20, jq_21, jq_24, jq_30, jq_32, jq_60, jq_84, jq_1000, jq_2436, jq_20001, dm_fx]
    · rw [d157, e157_0, m.2.2.1, ht]
      simp (disch := omega) only [jx_bI_s, jx_bL_s, jx_bV_s, eq_self, true_or, or_true, jx_if_t, jx_if_f, jq_b0, jq_b1, jq_bb, jq_b01, jx_if_in, jx_if_lt, jx_if_nlt, jx_if_le, jx_if_nle, jq_eqp, jq_eqn, nI_clamp, nI_add, pk_sub, pk_mul, jn_and, jn_or, jn_xor, jq_andn, jq_shl1, jq_bit, jq_mn, jq_mx, cond_true, cond_false, jq_jt, jq_jf, jq_e1, jq_e2, jq_e3, jq_e4, Bool.not_true, Bool.not_false, jq_0, jq_1, jq_2, jq_3, jq_4, jq_5, jq_6, jq_8, jq_12, jq_16, jq_20, jq_21, jq_24, jq_30, jq_32, jq_60, jq_84, jq_1000, jq_2436, jq_20001, dm_fm]
