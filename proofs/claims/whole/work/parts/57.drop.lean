/-! ===== layer 2: roads go ===== -/
def jn_ix (S : Nat → Bool) : Nat → Nat → Nat
  | 0, _ => 0
  | n + 1, k => if S n = true ∧ jn_ct S n = k then n else jn_ix S n k
theorem jn_ix_of {S : Nat → Bool} : ∀ {n i : Nat}, i < n → S i = true → jn_ix S n (jn_ct S i) = i := by
  intro n
  induction n with
  | zero => intro i h; omega
  | succ n ih =>
    intro i h hS
    by_cases e : i = n
    · subst e
      exact if_pos ⟨hS, rfl⟩
    · have hl := jn_ct_lt (f := S) (show i < n by omega) hS
      have : jn_ix S (n + 1) (jn_ct S i) = jn_ix S n (jn_ct S i) := if_neg (fun k => by omega)
      rw [this]
      exact ih (by omega) hS
theorem jn_ix_ex {S : Nat → Bool} : ∀ {n k : Nat}, k < jn_ct S n → ∃ i, i < n ∧ S i = true ∧ jn_ct S i = k := by
  intro n
  induction n with
  | zero => intro k h; exact absurd h (Nat.not_lt_zero k)
  | succ n ih =>
    intro k h
    by_cases hk : k < jn_ct S n
    · obtain ⟨i, a, b, c⟩ := ih hk
      exact ⟨i, by omega, b, c⟩
    · cases hS : S n
      · rw [show jn_ct S (n + 1) = jn_ct S n from (jn_ct_z hS).symm] at h
        omega
      · rw [← jn_ct_p hS] at h
        exact ⟨n, by omega, hS, by omega⟩
theorem jn_ix_t {S : Nat → Bool} {n k : Nat} (h : k < jn_ct S n) : jn_ix S n k < n ∧ S (jn_ix S n k) = true ∧ jn_ct S (jn_ix S n k) = k := by
  obtain ⟨i, a, b, c⟩ := jn_ix_ex h
  rw [← c, jn_ix_of a b]
  exact ⟨a, b, rfl⟩
theorem jn_ct_cp {S P : Nat → Bool} : ∀ n, jn_ct (fun k => P (jn_ix S n k)) (jn_ct S n) = jn_ct (fun j => S j && P j) n := by
  intro n
  induction n with
  | zero => rfl
  | succ n ih =>
    have cg : jn_ct (fun k => P (jn_ix S (n + 1) k)) (jn_ct S n) = jn_ct (fun k => P (jn_ix S n k)) (jn_ct S n) := jn_ct_congr _ (fun k hk => by
      rw [show jn_ix S (n + 1) k = jn_ix S n k from if_neg (fun c => by omega)])
    cases hS : S n
    · rw [show jn_ct S (n + 1) = jn_ct S n from (jn_ct_z hS).symm, cg, ih]
      show _ = jn_ct (fun j => S j && P j) (n + 1)
      rw [show jn_ct (fun j => S j && P j) (n + 1) = jn_ct (fun j => S j && P j) n from (jn_ct_z (by simp [hS])).symm]
    · rw [← jn_ct_p hS]
      have e1 : jn_ix S (n + 1) (jn_ct S n) = n := if_pos ⟨hS, rfl⟩
      show jn_ct (fun k => P (jn_ix S (n + 1) k)) (jn_ct S n) + (if P (jn_ix S (n + 1) (jn_ct S n)) = true then 1 else 0) = jn_ct (fun j => S j && P j) n + (if (S n && P n) = true then 1 else 0)
      rw [e1, cg, ih, hS, Bool.true_and]
/-- the net with the roads of S alone -/
def jb_cp (N : jb_N) (S : Nat → Bool) : jb_N := (jb_p N, jn_ct S (jb_n N), jb_t N, fun k => jb_f N (jn_ix S (jb_n N) k), fun k => jb_s N (jn_ix S (jb_n N) k), fun k => jb_c N (jn_ix S (jb_n N) k), fun k => jb_g N (jn_ix S (jb_n N) k))
theorem jb_cp_wf {N : jb_N} (w : jb_wf N) (S : Nat → Bool) : jb_wf (jb_cp N S) := ⟨w.1, Nat.le_trans (jn_ct_le _ _) w.2.1, fun k hk => w.2.2 _ (jn_ix_t hk).1⟩
def jb_rm (N : jb_N) (r : Nat) : jb_N := (jb_p N, jb_n N - 1, jb_t N, fun k => jb_f N (if k < r then k else k + 1), fun k => jb_s N (if k < r then k else k + 1), fun k => jb_c N (if k < r then k else k + 1), fun k => jb_g N (if k < r then k else k + 1))
theorem jb_M.ext {h : jx_H} {N N' : jb_N} (m : jb_M h N) (e1 : jb_p N' = jb_p N) (e2 : jb_n N' = jb_n N) (e3 : jb_t N' = jb_t N) (e4 : ∀ k, k < jb_n N → jb_f N' k = jb_f N k ∧ jb_s N' k = jb_s N k ∧ jb_c N' k = jb_c N k ∧ jb_g N' k = jb_g N k) : jb_M h N' := by
  obtain ⟨m1, m2, m3, m4⟩ := m
  refine ⟨by rw [e1]; exact m1, by rw [e2]; exact m2, by rw [e3]; exact m3, fun r hr => ?_⟩
  rw [e2] at hr
  obtain ⟨a, b, c, e⟩ := e4 r hr
  rw [a, b, c, e]
  exact m4 r hr
theorem jb_X.ext {h : jx_H} {i : Nat} {N N' : jb_N} (m : jb_X h i N) (e1 : jb_p N' = jb_p N) (e2 : jb_n N' = jb_n N) (e3 : jb_t N' = jb_t N) (e4 : ∀ k, k < jb_n N → jb_f N' k = jb_f N k ∧ jb_s N' k = jb_s N k ∧ jb_c N' k = jb_c N k ∧ jb_g N' k = jb_g N k) : jb_X h i N' := by
  obtain ⟨m1, m2, m3, m4⟩ := m
  refine ⟨by rw [e1]; exact m1, by rw [e2]; exact m2, by rw [e3]; exact m3, fun r hr => ?_⟩
  rw [e2] at hr
  obtain ⟨a, b, c, e⟩ := e4 r hr
  rw [a, b, c, e]
  exact m4 r hr
/-- one road less -/
theorem jn_ct_less {S S' : Nat → Bool} {i : Nat} (hS : S i = true) (hS' : ∀ j, S' j = (S j && decide (j ≠ i))) : ∀ n, jn_ct S' n = if i < n then jn_ct S n - 1 else jn_ct S n := by
  intro n
  induction n with
  | zero => rfl
  | succ n ih =>
    have e0 : jn_ct S' (n + 1) = jn_ct S' n + (if S' n = true then 1 else 0) := rfl
    have e1 : jn_ct S (n + 1) = jn_ct S n + (if S n = true then 1 else 0) := rfl
    by_cases c : i < n
    · have hpos : 0 < jn_ct S n := jn_ct_pos.2 ⟨i, c, hS⟩
      have hne : n ≠ i := by omega
      have hSn : S' n = S n := by rw [hS' n]; simp [hne]
      rw [if_pos c] at ih
      rw [if_pos (show i < n + 1 by omega), e0, e1, ih, hSn]
      omega
    · rw [if_neg c] at ih
      by_cases e : i = n
      · have hSn : S' n = false := by rw [hS' n]; simp [e]
        have hSi : S n = true := by rw [← e]; exact hS
        rw [if_pos (show i < n + 1 by omega), e0, e1, ih, hSn, hSi]
        simp
      · have hne : n ≠ i := by omega
        have hSn : S' n = S n := by rw [hS' n]; simp [hne]
        rw [if_neg (show ¬ i < n + 1 by omega), e0, e1, ih, hSn]
theorem jb_rm_cp {h : jx_H} {N : jb_N} {S S' : Nat → Bool} {i : Nat} (hi : i < jb_n N) (hS : S i = true) (hS' : ∀ j, S' j = (S j && decide (j ≠ i))) (m : jb_M h (jb_rm (jb_cp N S) (jn_ct S i))) : jb_M h (jb_cp N S') := by
  have hct := jn_ct_less hS hS'
  have hn : jn_ct S' (jb_n N) = jn_ct S (jb_n N) - 1 := by rw [hct, if_pos hi]
  have hil := jn_ct_lt (f := S) hi hS
  refine m.ext rfl hn rfl (fun k hk => ?_)
  have hk : k < jn_ct S (jb_n N) - 1 := hk
  have key : jn_ix S' (jb_n N) k = jn_ix S (jb_n N) (if k < jn_ct S i then k else k + 1) := by
    by_cases c : k < jn_ct S i
    · rw [if_pos c]
      obtain ⟨a, b, e⟩ := jn_ix_t (S := S) (n := jb_n N) (k := k) (by omega)
      generalize jn_ix S (jb_n N) k = j at *
      have hji : j < i := by
        apply Classical.byContradiction
        intro k2
        by_cases e3 : j = i
        · rw [e3] at e; omega
        · have := jn_ct_lt (f := S) (show i < j by omega) hS
          omega
      have : jn_ct S' j = k := by rw [hct, if_neg (by omega), e]
      rw [← this]
      exact jn_ix_of a (by rw [hS', b]; simp; omega)
    · rw [if_neg c]
      obtain ⟨a, b, e⟩ := jn_ix_t (S := S) (n := jb_n N) (k := k + 1) (by omega)
      generalize jn_ix S (jb_n N) (k + 1) = j at *
      have hji : i < j := by
        apply Classical.byContradiction
        intro k2
        by_cases e3 : j = i
        · rw [e3] at e; omega
        · have := jn_ct_lt (f := S) (show j < i by omega) b
          omega
      have : jn_ct S' j = k := by rw [hct, if_pos hji, e]; omega
      rw [← this]
      exact jn_ix_of a (by rw [hS', b]; simp; omega)
  show jb_f N (jn_ix S' (jb_n N) k) = jb_f N (jn_ix S (jb_n N) (if k < jn_ct S i then k else k + 1)) ∧ jb_s N (jn_ix S' (jb_n N) k) = jb_s N (jn_ix S (jb_n N) (if k < jn_ct S i then k else k + 1)) ∧ jb_c N (jn_ix S' (jb_n N) k) = jb_c N (jn_ix S (jb_n N) (if k < jn_ct S i then k else k + 1)) ∧ jb_g N (jn_ix S' (jb_n N) k) = jb_g N (jn_ix S (jb_n N) (if k < jn_ct S i then k else k + 1))
  rw [key]
  exact ⟨rfl, rfl, rfl, rfl⟩
section
variable {d : Nat} {N : jb_N}
theorem dm_leave {h0 : jx_H} (hn : jb_n N ≤ 20) (x : jb_X h0 0 N) {M : Nat} (hM : M < 2 ^ 31) : ∃ h', DM (d + 2) 18 [vr 1 0, vi (nI M)] h0 = some ([], h') ∧ jb_X h' 0 (jb_cp N (fun i => M.testBit i)) ∧ ∀ c i, ¬ (1 ≤ c ∧ c ≤ 5 ∧ i = 0) → h'.1 c i = h0.1 c i := by
  obtain ⟨x0, x1, x2, x3⟩ := x
  have loop : ∀ (k i : Nat) (h : jx_H), i + k = jb_n N → (∀ c i, ¬ (1 ≤ c ∧ c ≤ 5 ∧ i = 0) → h.1 c i = h0.1 c i) → h.1 1 0 0 = nI (jb_p N) → h.1 1 0 1 = nI (jn_ct (fun i => M.testBit i) i) → h.1 1 0 2 = jn_b (jb_t N) → (∀ r, i ≤ r → r < jb_n N → h.1 2 0 r = nI (jb_f N r) ∧ h.1 3 0 r = nI (jb_s N r) ∧ h.1 4 0 r = nI (jb_c N r) ∧ h.1 5 0 r = nI (jb_g N r)) → (∀ r, r < i → M.testBit r = true → h.1 2 0 (jn_ct (fun i => M.testBit i) r) = nI (jb_f N r) ∧ h.1 3 0 (jn_ct (fun i => M.testBit i) r) = nI (jb_s N r) ∧ h.1 4 0 (jn_ct (fun i => M.testBit i) r) = nI (jb_c N r) ∧ h.1 5 0 (jn_ct (fun i => M.testBit i) r) = nI (jb_g N r)) → ∃ h', F18_12 (DM (d + 1)) 0 (nI M) (nI (jb_n N)) (nI i) h = some ([], h') ∧ jb_X h' 0 (jb_cp N (fun i => M.testBit i)) ∧ ∀ c i, ¬ (1 ≤ c ∧ c ≤ 5 ∧ i = 0) → h'.1 c i = h0.1 c i := by
    intro k
    induction k with
    | zero =>
      intro i h hi f k0 k1 k2 k3 k4
      have e : i = jb_n N := by omega
      subst e
      refine ⟨h, ?_, ⟨k0, k1, k2, fun q hq => ?_⟩, f⟩
      · rw [e18_12]
        simp (disch := omega) only [jx_bI_s, jx_bL_s, jx_bV_s, eq_self, true_or, or_true, jx_if_t, jx_if_f, jq_b0, jq_b1, jq_bb, jq_b01, jx_if_in, jx_if_lt, jx_if_nlt, jx_if_le, jx_if_nle, jq_eqp, jq_eqn, nI_clamp, nI_add, pk_sub, pk_mul, jn_and, jn_or, jn_xor, jq_andn, jq_shl1, jq_bit, jq_mn, jq_mx, cond_true, cond_false, jq_jt, jq_jf, jq_e1, jq_e2, jq_e3, jq_e4, Bool.not_true, Bool.not_false, jq_0, jq_1, jq_2, jq_3, jq_4, jq_5, jq_6, jq_8, jq_12, jq_16, jq_20, jq_21, jq_24, jq_30, jq_32, jq_60, jq_84, jq_1000, jq_2436, jq_20001]
      · have hq : q < jn_ct (fun i => M.testBit i) (jb_n N) := hq
        obtain ⟨a, b, c⟩ := jn_ix_t hq
        have := k4 _ a b
        rw [c] at this
        exact this
    | succ k ih =>
      intro i h hi f k0 k1 k2 k3 k4
      have hci := jn_ct_le (fun i => M.testBit i) i
      obtain ⟨y1, y2, y3, y4⟩ := k3 i (Nat.le_refl _) (by omega)
      cases hb : M.testBit i
      · obtain ⟨h', a1, a2, a3⟩ := ih (i + 1) h (by omega) f k0 (by rw [k1, show jn_ct (fun i => M.testBit i) (i + 1) = jn_ct (fun i => M.testBit i) i from (jn_ct_z (f := fun i => M.testBit i) hb).symm]) k2 (fun r h1 h2 => k3 r (by omega) h2) (fun r h1 h2 => k4 r (by
          by_cases e : r = i
          · rw [e, hb] at h2; cases h2
          · omega) h2)
        refine ⟨h', ?_, a2, a3⟩
        rw [e18_12]
        simp (disch := omega) only [jx_bI_s, jx_bL_s, jx_bV_s, eq_self, true_or, or_true, jx_if_t, jx_if_f, jq_b0, jq_b1, jq_bb, jq_b01, jx_if_in, jx_if_lt, jx_if_nlt, jx_if_le, jx_if_nle, jq_eqp, jq_eqn, nI_clamp, nI_add, pk_sub, pk_mul, jn_and, jn_or, jn_xor, jq_andn, jq_shl1, jq_bit, jq_mn, jq_mx, cond_true, cond_false, jq_jt, jq_jf, jq_e1, jq_e2, jq_e3, jq_e4, Bool.not_true, Bool.not_false, jq_0, jq_1, jq_2, jq_3, jq_4, jq_5, jq_6, jq_8, jq_12, jq_16, jq_20, jq_21, jq_24, jq_30, jq_32, jq_60, jq_84, jq_1000, jq_2436, jq_20001, dm_hasN, hb, e18_95]
        exact a1
      · generalize hct : jn_ct (fun i => M.testBit i) i = q at *
        have hsucc : jn_ct (fun i => M.testBit i) (i + 1) = q + 1 := by
          rw [← jn_ct_p (f := fun i => M.testBit i) hb, hct]
        obtain ⟨h', a1, a2, a3⟩ := ih (i + 1) (jx_sI (jx_sI (jx_sI (jx_sI (jx_sI h 2 0 q (nI (jb_f N i))) 3 0 q (nI (jb_s N i))) 4 0 q (nI (jb_c N i))) 5 0 q (nI (jb_g N i))) 1 0 1 (nI (q + 1))) (by omega) (fun c j hc => by
          by_cases hj : j = 0
          · rw [jx_sk (by omega), jx_sk (by omega), jx_sk (by omega), jx_sk (by omega), jx_sk (by omega)]; exact f c j hc
          · rw [jx_si hj, jx_si hj, jx_si hj, jx_si hj, jx_si hj]; exact f c j hc) (by rw [jx_sp (by decide), jx_sk (by decide), jx_sk (by decide), jx_sk (by decide), jx_sk (by decide)]; exact k0) (by rw [jx_ss, hsucc]) (by rw [jx_sp (by decide), jx_sk (by decide), jx_sk (by decide), jx_sk (by decide), jx_sk (by decide)]; exact k2) (fun r h1 h2 => by
          obtain ⟨z1, z2, z3, z4⟩ := k3 r (by omega) h2
          have e : r ≠ q := by omega
          exact ⟨by rw [jx_sk (by decide), jx_sk (by decide), jx_sk (by decide), jx_sk (by decide), jx_sp e]; exact z1, by rw [jx_sk (by decide), jx_sk (by decide), jx_sk (by decide), jx_sp e, jx_sk (by decide)]; exact z2, by rw [jx_sk (by decide), jx_sk (by decide), jx_sp e, jx_sk (by decide), jx_sk (by decide)]; exact z3, by rw [jx_sk (by decide), jx_sp e, jx_sk (by decide), jx_sk (by decide), jx_sk (by decide)]; exact z4⟩) (fun r h1 h2 => by
          by_cases e : r = i
          · rw [e, hct]
            exact ⟨by rw [jx_sk (by decide), jx_sk (by decide), jx_sk (by decide), jx_sk (by decide), jx_ss], by rw [jx_sk (by decide), jx_sk (by decide), jx_sk (by decide), jx_ss], by rw [jx_sk (by decide), jx_sk (by decide), jx_ss], by rw [jx_sk (by decide), jx_ss]⟩
          · obtain ⟨z1, z2, z3, z4⟩ := k4 r (by omega) h2
            have hl := jn_ct_lt (f := fun i => M.testBit i) (show r < i by omega) h2
            have e : jn_ct (fun i => M.testBit i) r ≠ q := by omega
            exact ⟨by rw [jx_sk (by decide), jx_sk (by decide), jx_sk (by decide), jx_sk (by decide), jx_sp e]; exact z1, by rw [jx_sk (by decide), jx_sk (by decide), jx_sk (by decide), jx_sp e, jx_sk (by decide)]; exact z2, by rw [jx_sk (by decide), jx_sk (by decide), jx_sp e, jx_sk (by decide), jx_sk (by decide)]; exact z3, by rw [jx_sk (by decide), jx_sp e, jx_sk (by decide), jx_sk (by decide), jx_sk (by decide)]; exact z4⟩)
        refine ⟨h', ?_, a2, a3⟩
        rw [e18_12]
        simp (disch := omega) only [jx_bI_s, jx_bL_s, jx_bV_s, eq_self, true_or, or_true, jx_if_t, jx_if_f, jq_b0, jq_b1, jq_bb, jq_b01, jx_if_in, jx_if_lt, jx_if_nlt, jx_if_le, jx_if_nle, jq_eqp, jq_eqn, nI_clamp, nI_add, pk_sub, pk_mul, jn_and, jn_or, jn_xor, jq_andn, jq_shl1, jq_bit, jq_mn, jq_mx, cond_true, cond_false, jq_jt, jq_jf, jq_e1, jq_e2, jq_e3, jq_e4, Bool.not_true, Bool.not_false, jq_0, jq_1, jq_2, jq_3, jq_4, jq_5, jq_6, jq_8, jq_12, jq_16, jq_20, jq_21, jq_24, jq_30, jq_32, jq_60, jq_84, jq_1000, jq_2436, jq_20001, dm_hasN, hb, k1, y1, y2, y3, y4, e18_40, e18_55, e18_70, e18_85, e18_95, jx_sk]
        exact a1
  obtain ⟨h', a1, a2, a3⟩ := loop (jb_n N) 0 (jx_sI h0 1 0 1 (nI 0)) (by omega) (fun c j hc => by
    by_cases hj : j = 0
    · rw [jx_sk (by omega)]
    · rw [jx_si hj]) (by rw [jx_sp (by decide)]; exact x0) jx_ss (by rw [jx_sp (by decide)]; exact x2) (fun r _ hr => by rw [jx_sk (by decide), jx_sk (by decide), jx_sk (by decide), jx_sk (by decide)]; exact x3 r hr) (fun r hr => by omega)
  refine ⟨h', ?_, a2, a3⟩
  rw [d18, e18_0, x1, e18_10]
  exact a1
theorem dm_remM {h0 : jx_H} (hn : jb_n N ≤ 20) (m : jb_M h0 N) {r : Nat} (hr : r < jb_n N) : ∃ h', DM (d + 1) 123 [vr 30 0, vi (nI r)] h0 = some ([], h') ∧ jb_M h' (jb_rm N r) ∧ (∀ q, 3 ≤ q → h'.1 30 0 q = h0.1 30 0 q) ∧ ∀ c, c ≠ 30 → ¬ (33 ≤ c ∧ c ≤ 36) → h'.1 c = h0.1 c := by
  obtain ⟨x0, x1, x2, x3⟩ := m
  have loop : ∀ (k i : Nat) (h : jx_H), i + k = jb_n N - 1 → r ≤ i → (∀ c, c ≠ 30 → ¬ (33 ≤ c ∧ c ≤ 36) → h.1 c = h0.1 c) → (∀ q, q ≠ 1 → h.1 30 0 q = h0.1 30 0 q) → h.1 30 0 1 = nI (jb_n N - 1) → (∀ k, i < k → k < jb_n N → h.1 33 0 k = nI (jb_f N k) ∧ h.1 34 0 k = nI (jb_s N k) ∧ h.1 35 0 k = nI (jb_c N k) ∧ h.1 36 0 k = nI (jb_g N k)) → (∀ k, k < i → h.1 33 0 k = nI (jb_f N (if k < r then k else k + 1)) ∧ h.1 34 0 k = nI (jb_s N (if k < r then k else k + 1)) ∧ h.1 35 0 k = nI (jb_c N (if k < r then k else k + 1)) ∧ h.1 36 0 k = nI (jb_g N (if k < r then k else k + 1))) → ∃ h', F123_12 (DM d) (nI i) h = some ([], h') ∧ jb_M h' (jb_rm N r) ∧ (∀ q, 3 ≤ q → h'.1 30 0 q = h0.1 30 0 q) ∧ ∀ c, c ≠ 30 → ¬ (33 ≤ c ∧ c ≤ 36) → h'.1 c = h0.1 c := by
    intro k
    induction k with
    | zero =>
      intro i h hi hri f f30 k1 k3 k4
      refine ⟨h, ?_, ⟨(f30 0 (by decide)).trans x0, k1, (f30 2 (by decide)).trans x2, fun q hq => k4 q (by have hq : q < jb_n N - 1 := hq; omega)⟩, fun q hq => f30 q (by omega), f⟩
      rw [e123_12, k1]
      simp (disch := omega) only [jx_bI_s, jx_bL_s, jx_bV_s, eq_self, true_or, or_true, jx_if_t, jx_if_f, jq_b0, jq_b1, jq_bb, jq_b01, jx_if_in, jx_if_lt, jx_if_nlt, jx_if_le, jx_if_nle, jq_eqp, jq_eqn, nI_clamp, nI_add, pk_sub, pk_mul, jn_and, jn_or, jn_xor, jq_andn, jq_shl1, jq_bit, jq_mn, jq_mx, cond_true, cond_false, jq_jt, jq_jf, jq_e1, jq_e2, jq_e3, jq_e4, Bool.not_true, Bool.not_false, jq_0, jq_1, jq_2, jq_3, jq_4, jq_5, jq_6, jq_8, jq_12, jq_16, jq_20, jq_21, jq_24, jq_30, jq_32, jq_60, jq_84, jq_1000, jq_2436, jq_20001]
    | succ k ih =>
      intro i h hi hri f f30 k1 k3 k4
      obtain ⟨y1, y2, y3, y4⟩ := k3 (i + 1) (by omega) (by omega)
      obtain ⟨h', a1, a2, a3, a4⟩ := ih (i + 1) (jx_sI (jx_sI (jx_sI (jx_sI h 33 0 i (nI (jb_f N (i + 1)))) 34 0 i (nI (jb_s N (i + 1)))) 35 0 i (nI (jb_c N (i + 1)))) 36 0 i (nI (jb_g N (i + 1)))) (by omega) (by omega) (fun c h1 h2 => by rw [jx_sk (by omega), jx_sk (by omega), jx_sk (by omega), jx_sk (by omega)]; exact f c h1 h2) (fun q hq => by rw [jx_sk (by decide), jx_sk (by decide), jx_sk (by decide), jx_sk (by decide)]; exact f30 q hq) (by rw [jx_sk (by decide), jx_sk (by decide), jx_sk (by decide), jx_sk (by decide)]; exact k1) (fun q h1 h2 => by
        obtain ⟨z1, z2, z3, z4⟩ := k3 q (by omega) h2
        have e : q ≠ i := by omega
        exact ⟨by rw [jx_sp e, jx_sp e, jx_sp e, jx_sp e]; exact z1, by rw [jx_sp e, jx_sp e, jx_sp e, jx_sp e]; exact z2, by rw [jx_sp e, jx_sp e, jx_sp e, jx_sp e]; exact z3, by rw [jx_sp e, jx_sp e, jx_sp e, jx_sp e]; exact z4⟩) (fun q hq => by
        by_cases e : q = i
        · subst e
          rw [if_neg (by omega)]
          exact ⟨by rw [jx_sk (by decide), jx_sk (by decide), jx_sk (by decide), jx_ss], by rw [jx_sk (by decide), jx_sk (by decide), jx_ss], by rw [jx_sk (by decide), jx_ss], jx_ss⟩
        · obtain ⟨z1, z2, z3, z4⟩ := k4 q (by omega)
          exact ⟨by rw [jx_sp e, jx_sp e, jx_sp e, jx_sp e]; exact z1, by rw [jx_sp e, jx_sp e, jx_sp e, jx_sp e]; exact z2, by rw [jx_sp e, jx_sp e, jx_sp e, jx_sp e]; exact z3, by rw [jx_sp e, jx_sp e, jx_sp e, jx_sp e]; exact z4⟩)
      refine ⟨h', ?_, a2, a3, a4⟩
      rw [e123_12, k1]
      simp (disch := omega) only [jx_bI_s, jx_bL_s, jx_bV_s, eq_self, true_or, or_true, jx_if_t, jx_if_f, jq_b0, jq_b1, jq_bb, jq_b01, jx_if_in, jx_if_lt, jx_if_nlt, jx_if_le, jx_if_nle, jq_eqp, jq_eqn, nI_clamp, nI_add, pk_sub, pk_mul, jn_and, jn_or, jn_xor, jq_andn, jq_shl1, jq_bit, jq_mn, jq_mx, cond_true, cond_false, jq_jt, jq_jf, jq_e1, jq_e2, jq_e3, jq_e4, Bool.not_true, Bool.not_false, jq_0, jq_1, jq_2, jq_3, jq_4, jq_5, jq_6, jq_8, jq_12, jq_16, jq_20, jq_21, jq_24, jq_30, jq_32, jq_60, jq_84, jq_1000, jq_2436, jq_20001, y1, y2, y3, y4, e123_34, e123_48, e123_62, e123_76, jx_sk]
      exact a1
  obtain ⟨h', a1, a2, a3, a4⟩ := loop (jb_n N - 1 - r) r (jx_sI h0 30 0 1 (nI (jb_n N - 1))) (by omega) (Nat.le_refl _) (fun c h1 h2 => jx_sk h1) (fun q hq => jx_sp hq) jx_ss (fun q h1 h2 => by rw [jx_sk (by decide), jx_sk (by decide), jx_sk (by decide), jx_sk (by decide)]; exact x3 q h2) (fun q hq => by
    rw [if_pos hq, jx_sk (by decide), jx_sk (by decide), jx_sk (by decide), jx_sk (by decide)]
    exact x3 q (by omega))
  refine ⟨h', ?_, a2, a3, a4⟩
  rw [d123, e123_0, x1]
  simp (disch := omega) only [jx_bI_s, jx_bL_s, jx_bV_s, eq_self, true_or, or_true, jx_if_t, jx_if_f, jq_b0, jq_b1, jq_bb, jq_b01, jx_if_in, jx_if_lt, jx_if_nlt, jx_if_le, jx_if_nle, jq_eqp, jq_eqn, nI_clamp, nI_add, pk_sub, pk_mul, jn_and, jn_or, jn_xor, jq_andn, jq_shl1, jq_bit, jq_mn, jq_mx, cond_true, cond_false, jq_jt, jq_jf, jq_e1, jq_e2, jq_e3, jq_e4, Bool.not_true, Bool.not_false, jq_0, jq_1, jq_2, jq_3, jq_4, jq_5, jq_6, jq_8, jq_12, jq_16, jq_20, jq_21, jq_24, jq_30, jq_32, jq_60, jq_84, jq_1000, jq_2436, jq_20001, e123_10]
  exact a1
end
/-- all roads -/
theorem jn_ct_all1 {S : Nat → Bool} {n : Nat} (h : ∀ i, i < n → S i = true) {i : Nat} (hi : i ≤ n) : jn_ct S i = i := jn_ct_full i (fun j hj => h j (by omega))
theorem jb_cp_all {h : jx_H} {N : jb_N} {S : Nat → Bool} (hS : ∀ i, i < jb_n N → S i = true) (m : jb_M h N) : jb_M h (jb_cp N S) := by
  refine m.ext rfl (jn_ct_all1 hS (Nat.le_refl _)) rfl (fun k hk => ?_)
  have e : jn_ix S (jb_n N) k = k := by
    have := jn_ix_of (S := S) hk (hS k hk)
    rw [jn_ct_all1 hS (by omega)] at this
    exact this
  show jb_f N (jn_ix S (jb_n N) k) = _ ∧ jb_s N (jn_ix S (jb_n N) k) = _ ∧ jb_c N (jn_ix S (jb_n N) k) = _ ∧ jb_g N (jn_ix S (jb_n N) k) = _
  rw [e]
  exact ⟨rfl, rfl, rfl, rfl⟩
section
variable {d : Nat} {hx hm : jx_H}
theorem jt_4 (I : jb_Inv hx hm) (a : Int32) : jl_g d 16 122 [vi a] hx hm := by
  obtain ⟨N, w, x, m⟩ := I.1
  have hp := w.1
  have hn := w.2.1
  have h20 := jn_pow20 hn
  have i20 := Nat.two_pow_pos (jb_n N)
  cases ha : jb_ip (jb_n N) a
  · refine ⟨-1, _, _, ?_, ?_, I.fd⟩
    · rw [d16, e16_0]
      simp (disch := omega) only [jx_bI_s, jx_bL_s, jx_bV_s, eq_self, true_or, or_true, jx_if_t, jx_if_f, jq_b0, jq_b1, jq_bb, jq_b01, jx_if_in, jx_if_lt, jx_if_nlt, jx_if_le, jx_if_nle, jq_eqp, jq_eqn, nI_clamp, nI_add, pk_sub, pk_mul, jn_and, jn_or, jn_xor, jq_andn, jq_shl1, jq_bit, jq_mn, jq_mx, cond_true, cond_false, jq_jt, jq_jf, jq_e1, jq_e2, jq_e3, jq_e4, Bool.not_true, Bool.not_false, jq_0, jq_1, jq_2, jq_3, jq_4, jq_5, jq_6, jq_8, jq_12, jq_16, jq_20, jq_21, jq_24, jq_30, jq_32, jq_60, jq_84, jq_1000, jq_2436, jq_20001, dm_noRoad a x.2.1, ha, dm_fx]
    · rw [d122, e122_0]
      simp (disch := omega) only [jx_bI_s, jx_bL_s, jx_bV_s, eq_self, true_or, or_true, jx_if_t, jx_if_f, jq_b0, jq_b1, jq_bb, jq_b01, jx_if_in, jx_if_lt, jx_if_nlt, jx_if_le, jx_if_nle, jq_eqp, jq_eqn, nI_clamp, nI_add, pk_sub, pk_mul, jn_and, jn_or, jn_xor, jq_andn, jq_shl1, jq_bit, jq_mn, jq_mx, cond_true, cond_false, jq_jt, jq_jf, jq_e1, jq_e2, jq_e3, jq_e4, Bool.not_true, Bool.not_false, jq_0, jq_1, jq_2, jq_3, jq_4, jq_5, jq_6, jq_8, jq_12, jq_16, jq_20, jq_21, jq_24, jq_30, jq_32, jq_60, jq_84, jq_1000, jq_2436, jq_20001, dm_isRoad a m.2.1, ha, dm_fm]
  obtain ⟨r, hr, rfl⟩ := jb_ip_t (by omega) ha
  obtain ⟨hx', hm', a1, a2, I', x', m', _⟩ := I.chg d x m
  have hM : jn_df (2 ^ jb_n N - 1) (2 ^ r) < 2 ^ jb_n N := jn_df_lt (by omega)
  obtain ⟨h1, b1, b2, b3⟩ := dm_leave (d := d + 37) hn x' (M := jn_df (2 ^ jb_n N - 1) (2 ^ r)) (by omega)
  have hall : ∀ i, i < jb_n N → (fun i => (2 ^ jb_n N - 1).testBit i) i = true := fun i hi => jn_allr hi
  obtain ⟨h2, c1, c2, c3, c4⟩ := dm_remM (d := d + 38) hn m' hr
  have m2 : jb_M h2 (jb_rm (jb_cp N (fun i => (2 ^ jb_n N - 1).testBit i)) (jn_ct (fun i => (2 ^ jb_n N - 1).testBit i) r)) := by
    rw [jn_ct_all1 hall (show r ≤ jb_n N by omega)]
    refine c2.ext rfl (by show jn_ct _ _ - 1 = _; rw [jn_ct_all1 hall (Nat.le_refl _)]; rfl) rfl (fun k hk => ?_)
    have hk : k < jb_n N - 1 := hk
    have e : ∀ q, q < jb_n N → jn_ix (fun i => (2 ^ jb_n N - 1).testBit i) (jb_n N) q = q := fun q hq => by
      have := jn_ix_of (S := fun i => (2 ^ jb_n N - 1).testBit i) hq (hall q hq)
      rw [jn_ct_all1 hall (by omega)] at this
      exact this
    have e2 := e (if k < r then k else k + 1) (by split <;> omega)
    show jb_f N (jn_ix _ (jb_n N) (if k < r then k else k + 1)) = _ ∧ jb_s N (jn_ix _ (jb_n N) (if k < r then k else k + 1)) = _ ∧ jb_c N (jn_ix _ (jb_n N) (if k < r then k else k + 1)) = _ ∧ jb_g N (jn_ix _ (jb_n N) (if k < r then k else k + 1)) = _
    rw [e2]
    exact ⟨rfl, rfl, rfl, rfl⟩
  have m3 := jb_rm_cp (S' := fun i => (jn_df (2 ^ jb_n N - 1) (2 ^ r)).testBit i) hr (hall r hr) (fun j => by
    rw [jn_df_t, jn_2k]
    by_cases e : r = j
    · subst e
      simp
    · have e' : j ≠ r := fun k => e k.symm
      simp [e, e']) m2
  refine ⟨nI (jn_ct (fun i => (jn_df (2 ^ jb_n N - 1) (2 ^ r)).testBit i) (jb_n N)), h1, h2, ?_, ?_, I'.net b3 c3 c4 ⟨_, jb_cp_wf w _, b2, m3⟩⟩
  · have e1 : h1.1 1 0 1 = nI (jn_ct (fun i => (jn_df (2 ^ jb_n N - 1) (2 ^ r)).testBit i) (jb_n N)) := b2.2.1
    rw [d16, e16_0]
    simp (disch := omega) only [jx_bI_s, jx_bL_s, jx_bV_s, eq_self, true_or, or_true, jx_if_t, jx_if_f, jq_b0, jq_b1, jq_bb, jq_b01, jx_if_in, jx_if_lt, jx_if_nlt, jx_if_le, jx_if_nle, jq_eqp, jq_eqn, nI_clamp, nI_add, pk_sub, pk_mul, jn_and, jn_or, jn_xor, jq_andn, jq_shl1, jq_bit, jq_mn, jq_mx, cond_true, cond_false, jq_jt, jq_jf, jq_e1, jq_e2, jq_e3, jq_e4, Bool.not_true, Bool.not_false, jq_0, jq_1, jq_2, jq_3, jq_4, jq_5, jq_6, jq_8, jq_12, jq_16, jq_20, jq_21, jq_24, jq_30, jq_32, jq_60, jq_84, jq_1000, jq_2436, jq_20001, dm_noRoad _ x.2.1, ha, a1, x'.2.1, dm_first, b1, e1]
  · have e1 : h2.1 30 0 1 = nI (jn_ct (fun i => (jn_df (2 ^ jb_n N - 1) (2 ^ r)).testBit i) (jb_n N)) := m3.2.1
    rw [d122, e122_0]
    simp (disch := omega) only [jx_bI_s, jx_bL_s, jx_bV_s, eq_self, true_or, or_true, jx_if_t, jx_if_f, jq_b0, jq_b1, jq_bb, jq_b01, jx_if_in, jx_if_lt, jx_if_nlt, jx_if_le, jx_if_nle, jq_eqp, jq_eqn, nI_clamp, nI_add, pk_sub, pk_mul, jn_and, jn_or, jn_xor, jq_andn, jq_shl1, jq_bit, jq_mn, jq_mx, cond_true, cond_false, jq_jt, jq_jf, jq_e1, jq_e2, jq_e3, jq_e4, Bool.not_true, Bool.not_false, jq_0, jq_1, jq_2, jq_3, jq_4, jq_5, jq_6, jq_8, jq_12, jq_16, jq_20, jq_21, jq_24, jq_30, jq_32, jq_60, jq_84, jq_1000, jq_2436, jq_20001, dm_isRoad _ m.2.1, ha, a2, c1, e1]
end
