/-! ===== layer 2: join, take ===== -/
def jb_ren (a b v : Nat) : Nat := if v = b then a else if b < v then v - 1 else v
theorem jb_ren_lt {a b v p : Nat} (ha : a < b) (hb : b < p) (hv : v < p) : jb_ren a b v < p - 1 := by
  unfold jb_ren
  split
  · omega
  · split <;> omega
section
variable {d : Nat} {N : jb_N}
theorem dm_renX {a b v : Nat} (ha : a < 8) (hb : b < 8) (hv : v < 8) (h : jx_H) : DM (d + 1) 22 [vi (nI v), vi (nI a), vi (nI b)] h = some ([vi (nI (jb_ren a b v))], h) := by
  rw [d22, e22_0]
  unfold jb_ren
  by_cases e : v = b
  · rw [if_pos e]
    simp (disch := omega) only [jx_bI_s, jx_bL_s, jx_bV_s, eq_self, true_or, or_true, jx_if_t, jx_if_f, jq_b0, jq_b1, jq_bb, jq_b01, jx_if_in, jx_if_lt, jx_if_nlt, jx_if_le, jx_if_nle, jq_eqp, jq_eqn, nI_clamp, nI_add, pk_sub, pk_mul, jn_and, jn_or, jn_xor, jq_andn, jq_shl1, jq_bit, jq_mn, jq_mx, cond_true, cond_false, jq_jt, jq_jf, jq_e1, jq_e2, jq_e3, jq_e4, Bool.not_true, Bool.not_false, jq_0, jq_1, jq_2, jq_3, jq_4, jq_5, jq_6, jq_8, jq_12, jq_16, jq_20, jq_21, jq_24, jq_30, jq_32, jq_60, jq_84, jq_1000, jq_2436, jq_20001]
  · rw [if_neg e]
    by_cases c : b < v
    · rw [if_pos c]
      simp (disch := omega) only [jx_bI_s, jx_bL_s, jx_bV_s, eq_self, true_or, or_true, jx_if_t, jx_if_f, jq_b0, jq_b1, jq_bb, jq_b01, jx_if_in, jx_if_lt, jx_if_nlt, jx_if_le, jx_if_nle, jq_eqp, jq_eqn, nI_clamp, nI_add, pk_sub, pk_mul, jn_and, jn_or, jn_xor, jq_andn, jq_shl1, jq_bit, jq_mn, jq_mx, cond_true, cond_false, jq_jt, jq_jf, jq_e1, jq_e2, jq_e3, jq_e4, Bool.not_true, Bool.not_false, jq_0, jq_1, jq_2, jq_3, jq_4, jq_5, jq_6, jq_8, jq_12, jq_16, jq_20, jq_21, jq_24, jq_30, jq_32, jq_60, jq_84, jq_1000, jq_2436, jq_20001, e22_19]
    · rw [if_neg c]
      simp (disch := omega) only [jx_bI_s, jx_bL_s, jx_bV_s, eq_self, true_or, or_true, jx_if_t, jx_if_f, jq_b0, jq_b1, jq_bb, jq_b01, jx_if_in, jx_if_lt, jx_if_nlt, jx_if_le, jx_if_nle, jq_eqp, jq_eqn, nI_clamp, nI_add, pk_sub, pk_mul, jn_and, jn_or, jn_xor, jq_andn, jq_shl1, jq_bit, jq_mn, jq_mx, cond_true, cond_false, jq_jt, jq_jf, jq_e1, jq_e2, jq_e3, jq_e4, Bool.not_true, Bool.not_false, jq_0, jq_1, jq_2, jq_3, jq_4, jq_5, jq_6, jq_8, jq_12, jq_16, jq_20, jq_21, jq_24, jq_30, jq_32, jq_60, jq_84, jq_1000, jq_2436, jq_20001, e22_19]
theorem dm_renM {a b v : Nat} (ha : a < 8) (hb : b < 8) (hv : v < 8) (h : jx_H) : DM (d + 1) 125 [vi (nI v), vi (nI a), vi (nI b)] h = some ([vi (nI (jb_ren a b v))], h) := by
  rw [d125, e125_0]
  unfold jb_ren
  by_cases e : v = b
  · rw [if_pos e]
    simp (disch := omega) only [jx_bI_s, jx_bL_s, jx_bV_s, eq_self, true_or, or_true, jx_if_t, jx_if_f, jq_b0, jq_b1, jq_bb, jq_b01, jx_if_in, jx_if_lt, jx_if_nlt, jx_if_le, jx_if_nle, jq_eqp, jq_eqn, nI_clamp, nI_add, pk_sub, pk_mul, jn_and, jn_or, jn_xor, jq_andn, jq_shl1, jq_bit, jq_mn, jq_mx, cond_true, cond_false, jq_jt, jq_jf, jq_e1, jq_e2, jq_e3, jq_e4, Bool.not_true, Bool.not_false, jq_0, jq_1, jq_2, jq_3, jq_4, jq_5, jq_6, jq_8, jq_12, jq_16, jq_20, jq_21, jq_24, jq_30, jq_32, jq_60, jq_84, jq_1000, jq_2436, jq_20001, e125_21]
  · rw [if_neg e]
    by_cases c : b < v
    · rw [if_pos c]
      simp (disch := omega) only [jx_bI_s, jx_bL_s, jx_bV_s, eq_self, true_or, or_true, jx_if_t, jx_if_f, jq_b0, jq_b1, jq_bb, jq_b01, jx_if_in, jx_if_lt, jx_if_nlt, jx_if_le, jx_if_nle, jq_eqp, jq_eqn, nI_clamp, nI_add, pk_sub, pk_mul, jn_and, jn_or, jn_xor, jq_andn, jq_shl1, jq_bit, jq_mn, jq_mx, cond_true, cond_false, jq_jt, jq_jf, jq_e1, jq_e2, jq_e3, jq_e4, Bool.not_true, Bool.not_false, jq_0, jq_1, jq_2, jq_3, jq_4, jq_5, jq_6, jq_8, jq_12, jq_16, jq_20, jq_21, jq_24, jq_30, jq_32, jq_60, jq_84, jq_1000, jq_2436, jq_20001, e125_21]
    · rw [if_neg c]
      simp (disch := omega) only [jx_bI_s, jx_bL_s, jx_bV_s, eq_self, true_or, or_true, jx_if_t, jx_if_f, jq_b0, jq_b1, jq_bb, jq_b01, jx_if_in, jx_if_lt, jx_if_nlt, jx_if_le, jx_if_nle, jq_eqp, jq_eqn, nI_clamp, nI_add, pk_sub, pk_mul, jn_and, jn_or, jn_xor, jq_andn, jq_shl1, jq_bit, jq_mn, jq_mx, cond_true, cond_false, jq_jt, jq_jf, jq_e1, jq_e2, jq_e3, jq_e4, Bool.not_true, Bool.not_false, jq_0, jq_1, jq_2, jq_3, jq_4, jq_5, jq_6, jq_8, jq_12, jq_16, jq_20, jq_21, jq_24, jq_30, jq_32, jq_60, jq_84, jq_1000, jq_2436, jq_20001, e125_21]
/-- roads from i on have new ends -/
def jb_nr (N : jb_N) (a b i : Nat) : jb_N := (jb_p N, jb_n N, jb_t N, fun r => if r < i then jb_f N r else jb_ren a b (jb_f N r), fun r => if r < i then jb_s N r else jb_ren a b (jb_s N r), jb_c N, jb_g N)
def jb_kp (N : jb_N) (a b r : Nat) : Bool := decide (jb_ren a b (jb_f N r) ≠ jb_ren a b (jb_s N r))
def jb_dn (N : jb_N) : jb_N := (jb_p N - 1, N.2)
theorem dm_meltX {h0 : jx_H} (w : jb_wf N) (x : jb_X h0 0 N) {a b : Nat} (ha : a < b) (hb : b < jb_p N) : ∃ h', DM (d + 3) 21 [vr 1 0, vi (nI a), vi (nI b)] h0 = some ([], h') ∧ jb_X h' 0 (jb_dn (jb_cp (jb_nr N a b 0) (fun i => (jn_mk (jb_kp N a b) (jb_n N)).testBit i))) ∧ ∀ c i, ¬ (1 ≤ c ∧ c ≤ 5 ∧ i = 0) → h'.1 c i = h0.1 c i := by
  have hp := w.1
  have hn := w.2.1
  have h20 := jn_pow20 hn
  obtain ⟨x0, x1, x2, x3⟩ := x
  have loop : ∀ (k i : Nat) (h : jx_H), i + k = jb_n N → (∀ c i, ¬ (1 ≤ c ∧ c ≤ 5 ∧ i = 0) → h.1 c i = h0.1 c i) → h.1 1 0 0 = nI (jb_p N) → h.1 1 0 1 = nI (jb_n N) → h.1 1 0 2 = jn_b (jb_t N) → (∀ r, r < jb_n N → h.1 2 0 r = nI (if r < i then jb_ren a b (jb_f N r) else jb_f N r) ∧ h.1 3 0 r = nI (if r < i then jb_ren a b (jb_s N r) else jb_s N r) ∧ h.1 4 0 r = nI (jb_c N r) ∧ h.1 5 0 r = nI (jb_g N r)) → ∃ h', F21_5 (DM (d + 2)) 0 (nI a) (nI b) (nI (jn_mk (jb_kp N a b) i)) (nI i) h = some ([], h') ∧ jb_X h' 0 (jb_dn (jb_cp (jb_nr N a b 0) (fun i => (jn_mk (jb_kp N a b) (jb_n N)).testBit i))) ∧ ∀ c i, ¬ (1 ≤ c ∧ c ≤ 5 ∧ i = 0) → h'.1 c i = h0.1 c i := by
    intro k
    induction k with
    | zero =>
      intro i h hi f k0 k1 k2 k3
      have e : i = jb_n N := by omega
      subst e
      have hmk := jn_mk_lt (jb_kp N a b) (jb_n N)
      have X : jb_X h 0 (jb_nr N a b 0) := ⟨k0, k1, k2, fun r hr => by
        have hr : r < jb_n N := hr
        have := k3 r hr
        rw [if_pos hr, if_pos hr] at this
        exact this⟩
      obtain ⟨h1, b1, b2, b3⟩ := dm_leave (d := d) (N := jb_nr N a b 0) hn X (M := jn_mk (jb_kp N a b) (jb_n N)) (by omega)
      refine ⟨jx_sI h1 1 0 0 (nI (jb_p N - 1)), ?_, ⟨jx_ss, ?_, ?_, ?_⟩, fun c j hc => ?_⟩
      · have e0 : h1.1 1 0 0 = nI (jb_p N) := b2.1
        rw [e21_5, k1]
        simp (disch := omega) only [jx_bI_s, jx_bL_s, jx_bV_s, eq_self, true_or, or_true, jx_if_t, jx_if_f, jq_b0, jq_b1, jq_bb, jq_b01, jx_if_in, jx_if_lt, jx_if_nlt, jx_if_le, jx_if_nle, jq_eqp, jq_eqn, nI_clamp, nI_add, pk_sub, pk_mul, jn_and, jn_or, jn_xor, jq_andn, jq_shl1, jq_bit, jq_mn, jq_mx, cond_true, cond_false, jq_jt, jq_jf, jq_e1, jq_e2, jq_e3, jq_e4, Bool.not_true, Bool.not_false, jq_0, jq_1, jq_2, jq_3, jq_4, jq_5, jq_6, jq_8, jq_12, jq_16, jq_20, jq_21, jq_24, jq_30, jq_32, jq_60, jq_84, jq_1000, jq_2436, jq_20001, b1, e0, e21_97]
      · rw [jx_sp (by decide)]; exact b2.2.1
      · rw [jx_sp (by decide)]; exact b2.2.2.1
      · rw [jx_sk (by decide), jx_sk (by decide), jx_sk (by decide), jx_sk (by decide)]; exact b2.2.2.2
      · by_cases e : c = 1
        · rw [jx_si (by omega), b3 c j hc, f c j hc]
        · rw [jx_sk e, b3 c j hc, f c j hc]
    | succ k ih =>
      intro i h hi f k0 k1 k2 k3
      have hin : i < jb_n N := by omega
      obtain ⟨y1, y2, y3, y4⟩ := k3 i hin
      rw [if_neg (by omega)] at y1 y2
      obtain ⟨w1, w2, w3, _⟩ := w.2.2 i hin
      have hmk := jn_mk_lt (jb_kp N a b) i
      have hmk2 : 2 ^ i ≤ 2 ^ jb_n N := Nat.pow_le_pow_right (by decide) (by omega)
      have r1 := jb_ren_lt ha hb w1
      have r2 := jb_ren_lt ha hb w2
      obtain ⟨h', a1, a2, a3⟩ := ih (i + 1) (jx_sI (jx_sI h 2 0 i (nI (jb_ren a b (jb_f N i)))) 3 0 i (nI (jb_ren a b (jb_s N i)))) (by omega) (fun c j hc => by
        by_cases hj : j = 0
        · rw [jx_sk (by omega), jx_sk (by omega)]; exact f c j hc
        · rw [jx_si hj, jx_si hj]; exact f c j hc) (by rw [jx_sk (by decide), jx_sk (by decide)]; exact k0) (by rw [jx_sk (by decide), jx_sk (by decide)]; exact k1) (by rw [jx_sk (by decide), jx_sk (by decide)]; exact k2) (fun r hr => by
        obtain ⟨z1, z2, z3, z4⟩ := k3 r hr
        by_cases e : r = i
        · rw [if_pos (show r < i + 1 by omega), if_pos (show r < i + 1 by omega), e]
          exact ⟨by rw [jx_sk (by decide), jx_ss], jx_ss, by rw [jx_sk (by decide), jx_sk (by decide)]; rw [← e]; exact z3, by rw [jx_sk (by decide), jx_sk (by decide)]; rw [← e]; exact z4⟩
        · have e1 : (r < i + 1) = (r < i) := propext ⟨fun _ => by omega, fun _ => by omega⟩
          simp only [e1]
          exact ⟨by rw [jx_sk (by decide), jx_sp e]; exact z1, by rw [jx_sp e, jx_sk (by decide)]; exact z2, by rw [jx_sk (by decide), jx_sk (by decide)]; exact z3, by rw [jx_sk (by decide), jx_sk (by decide)]; exact z4⟩)
      refine ⟨h', ?_, a2, a3⟩
      rw [e21_5, k1]
      by_cases e : jb_ren a b (jb_f N i) = jb_ren a b (jb_s N i)
      · rw [show jn_mk (jb_kp N a b) (i + 1) = jn_mk (jb_kp N a b) i from jn_mk_no (by unfold jb_kp; simp [e])] at a1
        simp (disch := omega) only [jx_bI_s, jx_bL_s, jx_bV_s, eq_self, true_or, or_true, jx_if_t, jx_if_f, jq_b0, jq_b1, jq_bb, jq_b01, jx_if_in, jx_if_lt, jx_if_nlt, jx_if_le, jx_if_nle, jq_eqp, jq_eqn, nI_clamp, nI_add, pk_sub, pk_mul, jn_and, jn_or, jn_xor, jq_andn, jq_shl1, jq_bit, jq_mn, jq_mx, cond_true, cond_false, jq_jt, jq_jf, jq_e1, jq_e2, jq_e3, jq_e4, Bool.not_true, Bool.not_false, jq_0, jq_1, jq_2, jq_3, jq_4, jq_5, jq_6, jq_8, jq_12, jq_16, jq_20, jq_21, jq_24, jq_30, jq_32, jq_60, jq_84, jq_1000, jq_2436, jq_20001, y1, y2, dm_renX, e21_33, e21_52, e21_76, jx_sk, jx_ss]
        exact a1
      · rw [← jn_mk_or (f := jb_kp N a b) (i := i) (by unfold jb_kp; simp [e])] at a1
        simp (disch := omega) only [jx_bI_s, jx_bL_s, jx_bV_s, eq_self, true_or, or_true, jx_if_t, jx_if_f, jq_b0, jq_b1, jq_bb, jq_b01, jx_if_in, jx_if_lt, jx_if_nlt, jx_if_le, jx_if_nle, jq_eqp, jq_eqn, nI_clamp, nI_add, pk_sub, pk_mul, jn_and, jn_or, jn_xor, jq_andn, jq_shl1, jq_bit, jq_mn, jq_mx, cond_true, cond_false, jq_jt, jq_jf, jq_e1, jq_e2, jq_e3, jq_e4, Bool.not_true, Bool.not_false, jq_0, jq_1, jq_2, jq_3, jq_4, jq_5, jq_6, jq_8, jq_12, jq_16, jq_20, jq_21, jq_24, jq_30, jq_32, jq_60, jq_84, jq_1000, jq_2436, jq_20001, y1, y2, dm_renX, e21_33, e21_52, e21_76, jx_sk, jx_ss]
        exact a1
  rw [d21, e21_0]
  exact loop (jb_n N) 0 h0 (by omega) (fun _ _ _ => rfl) x0 x1 x2 (fun r hr => by
    rw [if_neg (by omega), if_neg (by omega)]
    exact x3 r hr)
def jb_sr (N : jb_N) (a b i r : Nat) : Bool := decide (r < i) || jb_kp N a b r
theorem jb_cp_M {h : jx_H} {N N' : jb_N} {S : Nat → Bool} (m : jb_M h (jb_cp N S)) (e1 : jb_p N' = jb_p N) (e2 : jb_n N' = jb_n N) (e3 : jb_t N' = jb_t N) (e4 : ∀ r, r < jb_n N → S r = true → jb_f N' r = jb_f N r ∧ jb_s N' r = jb_s N r ∧ jb_c N' r = jb_c N r ∧ jb_g N' r = jb_g N r) : jb_M h (jb_cp N' S) := by
  refine m.ext e1 (by show jn_ct S (jb_n N') = jn_ct S (jb_n N); rw [e2]) e3 (fun k hk => ?_)
  have hk : k < jn_ct S (jb_n N) := hk
  obtain ⟨a, b, c⟩ := jn_ix_t hk
  have := e4 _ a b
  show jb_f N' (jn_ix S (jb_n N') k) = jb_f N (jn_ix S (jb_n N) k) ∧ jb_s N' (jn_ix S (jb_n N') k) = jb_s N (jn_ix S (jb_n N) k) ∧ jb_c N' (jn_ix S (jb_n N') k) = jb_c N (jn_ix S (jb_n N) k) ∧ jb_g N' (jn_ix S (jb_n N') k) = jb_g N (jn_ix S (jb_n N) k)
  rw [e2]
  exact this
theorem dm_joinM {h0 : jx_H} (w : jb_wf N) {a b : Nat} (ha : a < b) (hb : b < jb_p N) : ∀ (i : Nat) (h : jx_H), i ≤ jb_n N → (∀ q, 3 ≤ q → h.1 30 0 q = h0.1 30 0 q) → (∀ c, c ≠ 30 → ¬ (33 ≤ c ∧ c ≤ 36) → h.1 c = h0.1 c) → jb_M h (jb_cp (jb_nr N a b i) (jb_sr N a b i)) → ∃ h', F124_45 (DM (d + 1)) (nI a) (nI b) (jn_dn i) h = some ([vi (nI (jb_p N - 1))], h') ∧ jb_M h' (jb_dn (jb_cp (jb_nr N a b 0) (jb_sr N a b 0))) ∧ (∀ q, 3 ≤ q → h'.1 30 0 q = h0.1 30 0 q) ∧ ∀ c, c ≠ 30 → ¬ (33 ≤ c ∧ c ≤ 36) → h'.1 c = h0.1 c := by
  have hp := w.1
  have hn := w.2.1
  intro i
  induction i with
  | zero =>
    intro h _ f3 f m
    have e0 : h.1 30 0 0 = nI (jb_p N) := m.1
    refine ⟨jx_sI h 30 0 0 (nI (jb_p N - 1)), ?_, ⟨jx_ss, ?_, ?_, ?_⟩, fun q hq => by rw [jx_sp (by omega)]; exact f3 q hq, fun c h1 h2 => by rw [jx_sk h1]; exact f c h1 h2⟩
    · rw [e124_45, jq_0, jq_dlt0, e0, jq_1, pk_sub (by omega)]
    · rw [jx_sp (by decide)]; exact m.2.1
    · rw [jx_sp (by decide)]; exact m.2.2.1
    · rw [jx_sk (by decide), jx_sk (by decide), jx_sk (by decide), jx_sk (by decide)]; exact m.2.2.2
  | succ i ih =>
    intro h hi f3 f m
    have hin : i < jb_n N := by omega
    obtain ⟨w1, w2, w3, _⟩ := w.2.2 i hin
    have r1 := jb_ren_lt ha hb w1
    have r2 := jb_ren_lt ha hb w2
    have hSi : ∀ r, r ≤ i → jb_sr N a b (i + 1) r = true := fun r hr => by
      unfold jb_sr
      simp [show r < i + 1 by omega]
    have hct : jn_ct (jb_sr N a b (i + 1)) i = i := jn_ct_full i (fun r hr => hSi r (by omega))
    have hix : jn_ix (jb_sr N a b (i + 1)) (jb_n N) i = i := by
      have := jn_ix_of (S := jb_sr N a b (i + 1)) hin (hSi i (Nat.le_refl _))
      rw [hct] at this
      exact this
    have hlt : i < jn_ct (jb_sr N a b (i + 1)) (jb_n N) := by
      have := jn_ct_lt (f := jb_sr N a b (i + 1)) hin (hSi i (Nat.le_refl _))
      omega
    have hcl := jn_ct_le (jb_sr N a b (i + 1)) (jb_n N)
    obtain ⟨y1, y2, y3, y4⟩ := m.2.2.2 i hlt
    have y1 : h.1 33 0 i = nI (jb_f N i) := by
      rw [y1]
      show nI (if jn_ix (jb_sr N a b (i + 1)) (jb_n N) i < i + 1 then jb_f N (jn_ix (jb_sr N a b (i + 1)) (jb_n N) i) else _) = _
      rw [hix, if_pos (by omega)]
    have y2 : h.1 34 0 i = nI (jb_s N i) := by
      rw [y2]
      show nI (if jn_ix (jb_sr N a b (i + 1)) (jb_n N) i < i + 1 then jb_s N (jn_ix (jb_sr N a b (i + 1)) (jb_n N) i) else _) = _
      rw [hix, if_pos (by omega)]
    -- with the new ends
    have m2 : jb_M (jx_sI (jx_sI h 33 0 i (nI (jb_ren a b (jb_f N i)))) 34 0 i (nI (jb_ren a b (jb_s N i)))) (jb_cp (jb_nr N a b i) (jb_sr N a b (i + 1))) := by
      obtain ⟨n1, n2, n3, n4⟩ := m
      refine ⟨by rw [jx_sk (by decide), jx_sk (by decide)]; exact n1, by rw [jx_sk (by decide), jx_sk (by decide)]; exact n2, by rw [jx_sk (by decide), jx_sk (by decide)]; exact n3, fun k hk => ?_⟩
      have hk : k < jn_ct (jb_sr N a b (i + 1)) (jb_n N) := hk
      obtain ⟨z1, z2, z3, z4⟩ := n4 k hk
      obtain ⟨c1, c2, c3⟩ := jn_ix_t hk
      show _ = nI (if jn_ix (jb_sr N a b (i + 1)) (jb_n N) k < i then jb_f N (jn_ix (jb_sr N a b (i + 1)) (jb_n N) k) else jb_ren a b (jb_f N (jn_ix (jb_sr N a b (i + 1)) (jb_n N) k))) ∧ _ = nI (if jn_ix (jb_sr N a b (i + 1)) (jb_n N) k < i then jb_s N (jn_ix (jb_sr N a b (i + 1)) (jb_n N) k) else jb_ren a b (jb_s N (jn_ix (jb_sr N a b (i + 1)) (jb_n N) k))) ∧ _ = _ ∧ _ = _
      by_cases e : k = i
      · subst e
        rw [hix, if_neg (Nat.lt_irrefl _), if_neg (Nat.lt_irrefl _)]
        refine ⟨by rw [jx_sk (by decide), jx_ss], jx_ss, by rw [jx_sk (by decide), jx_sk (by decide)]; exact z3, by rw [jx_sk (by decide), jx_sk (by decide)]; exact z4⟩
      · have hne : jn_ix (jb_sr N a b (i + 1)) (jb_n N) k ≠ i := fun c => by
          rw [c, hct] at c3
          omega
        have e1 : (jn_ix (jb_sr N a b (i + 1)) (jb_n N) k < i) = (jn_ix (jb_sr N a b (i + 1)) (jb_n N) k < i + 1) := propext ⟨fun _ => by omega, fun _ => by omega⟩
        simp only [e1]
        exact ⟨by rw [jx_sk (by decide), jx_sp e]; exact z1, by rw [jx_sp e, jx_sk (by decide)]; exact z2, by rw [jx_sk (by decide), jx_sk (by decide)]; exact z3, by rw [jx_sk (by decide), jx_sk (by decide)]; exact z4⟩
    rw [e124_45, show jn_dn (i + 1) = nI i from rfl]
    by_cases e : jb_ren a b (jb_f N i) = jb_ren a b (jb_s N i)
    · obtain ⟨h3, g1, g2, g3, g4⟩ := dm_remM (d := d) (N := jb_cp (jb_nr N a b i) (jb_sr N a b (i + 1))) (show jn_ct _ _ ≤ 20 by have := jn_ct_le (jb_sr N a b (i + 1)) (jb_n (jb_nr N a b i)); have h5 : jb_n (jb_nr N a b i) = jb_n N := rfl; omega) m2 (r := i) hlt
      have m3 : jb_M h3 (jb_cp (jb_nr N a b i) (jb_sr N a b i)) := by
        refine jb_rm_cp (N := jb_nr N a b i) (S := jb_sr N a b (i + 1)) (i := i) hin (hSi i (Nat.le_refl _)) (fun j => ?_) (by rw [hct]; exact g2)
        unfold jb_sr
        by_cases c : j = i
        · subst c
          simp [jb_kp, e]
        · by_cases c2 : j < i
          · simp [c2, c, show j < i + 1 by omega]
          · simp [c2, c, show ¬ j < i + 1 by omega]
      obtain ⟨h', k1, k2, k3, k4⟩ := ih h3 (by omega) (fun q hq => by rw [g3 q hq, jx_sk (by decide), jx_sk (by decide)]; exact f3 q hq) (fun c h1 h2 => by rw [g4 c h1 h2, jx_sk (by omega), jx_sk (by omega)]; exact f c h1 h2) m3
      refine ⟨h', ?_, k2, k3, k4⟩
      simp (disch := omega) only [jx_bI_s, jx_bL_s, jx_bV_s, eq_self, true_or, or_true, jx_if_t, jx_if_f, jq_b0, jq_b1, jq_bb, jq_b01, jx_if_in, jx_if_lt, jx_if_nlt, jx_if_le, jx_if_nle, jq_eqp, jq_eqn, nI_clamp, nI_add, pk_sub, pk_mul, jn_and, jn_or, jn_xor, jq_andn, jq_shl1, jq_bit, jq_mn, jq_mx, cond_true, cond_false, jq_jt, jq_jf, jq_e1, jq_e2, jq_e3, jq_e4, Bool.not_true, Bool.not_false, jq_0, jq_1, jq_2, jq_3, jq_4, jq_5, jq_6, jq_8, jq_12, jq_16, jq_20, jq_21, jq_24, jq_30, jq_32, jq_60, jq_84, jq_1000, jq_2436, jq_20001, y1, y2, dm_renM, jx_sk, jx_ss, g1, e124_103, jq_dn]
      exact k1
    · have m3 : jb_M (jx_sI (jx_sI h 33 0 i (nI (jb_ren a b (jb_f N i)))) 34 0 i (nI (jb_ren a b (jb_s N i)))) (jb_cp (jb_nr N a b i) (jb_sr N a b i)) := by
        have : jb_sr N a b (i + 1) = jb_sr N a b i := by
          funext j
          unfold jb_sr
          by_cases c : j = i
          · subst c
            simp [jb_kp, e]
          · by_cases c2 : j < i
            · simp [c2, show j < i + 1 by omega]
            · simp [c2, show ¬ j < i + 1 by omega]
        rw [← this]
        exact m2
      obtain ⟨h', k1, k2, k3, k4⟩ := ih _ (by omega) (fun q hq => by rw [jx_sk (by decide), jx_sk (by decide)]; exact f3 q hq) (fun c h1 h2 => by rw [jx_sk (by omega), jx_sk (by omega)]; exact f c h1 h2) m3
      refine ⟨h', ?_, k2, k3, k4⟩
      simp (disch := omega) only [jx_bI_s, jx_bL_s, jx_bV_s, eq_self, true_or, or_true, jx_if_t, jx_if_f, jq_b0, jq_b1, jq_bb, jq_b01, jx_if_in, jx_if_lt, jx_if_nlt, jx_if_le, jx_if_nle, jq_eqp, jq_eqn, nI_clamp, nI_add, pk_sub, pk_mul, jn_and, jn_or, jn_xor, jq_andn, jq_shl1, jq_bit, jq_mn, jq_mx, cond_true, cond_false, jq_jt, jq_jf, jq_e1, jq_e2, jq_e3, jq_e4, Bool.not_true, Bool.not_false, jq_0, jq_1, jq_2, jq_3, jq_4, jq_5, jq_6, jq_8, jq_12, jq_16, jq_20, jq_21, jq_24, jq_30, jq_32, jq_60, jq_84, jq_1000, jq_2436, jq_20001, y1, y2, dm_renM, jx_sk, jx_ss, e124_103, jq_dn]
      exact k1
end
section
variable {d : Nat} {hx hm : jx_H}
theorem jt_5 (I : jb_Inv hx hm) (a b : Int32) : jl_g d 20 124 [vi a, vi b] hx hm := by
  obtain ⟨N, w, x, m⟩ := I.1
  have hp := w.1
  have hn := w.2.1
  cases ha : jb_ip (jb_p N) a
  · refine ⟨-1, _, _, ?_, ?_, I.fd⟩
    · rw [d20, e20_0]
      simp (disch := omega) only [jx_bI_s, jx_bL_s, jx_bV_s, eq_self, true_or, or_true, jx_if_t, jx_if_f, jq_b0, jq_b1, jq_bb, jq_b01, jx_if_in, jx_if_lt, jx_if_nlt, jx_if_le, jx_if_nle, jq_eqp, jq_eqn, nI_clamp, nI_add, pk_sub, pk_mul, jn_and, jn_or, jn_xor, jq_andn, jq_shl1, jq_bit, jq_mn, jq_mx, cond_true, cond_false, jq_jt, jq_jf, jq_e1, jq_e2, jq_e3, jq_e4, Bool.not_true, Bool.not_false, jq_0, jq_1, jq_2, jq_3, jq_4, jq_5, jq_6, jq_8, jq_12, jq_16, jq_20, jq_21, jq_24, jq_30, jq_32, jq_60, jq_84, jq_1000, jq_2436, jq_20001, dm_noPost a x.1, ha, e20_16, dm_fx]
    · rw [d124, e124_0]
      simp (disch := omega) only [jx_bI_s, jx_bL_s, jx_bV_s, eq_self, true_or, or_true, jx_if_t, jx_if_f, jq_b0, jq_b1, jq_bb, jq_b01, jx_if_in, jx_if_lt, jx_if_nlt, jx_if_le, jx_if_nle, jq_eqp, jq_eqn, nI_clamp, nI_add, pk_sub, pk_mul, jn_and, jn_or, jn_xor, jq_andn, jq_shl1, jq_bit, jq_mn, jq_mx, cond_true, cond_false, jq_jt, jq_jf, jq_e1, jq_e2, jq_e3, jq_e4, Bool.not_true, Bool.not_false, jq_0, jq_1, jq_2, jq_3, jq_4, jq_5, jq_6, jq_8, jq_12, jq_16, jq_20, jq_21, jq_24, jq_30, jq_32, jq_60, jq_84, jq_1000, jq_2436, jq_20001, dm_isPost a m.1, ha, e124_16, dm_fm]
  cases hb : jb_ip (jb_p N) b
  · refine ⟨-1, _, _, ?_, ?_, I.fd⟩
    · rw [d20, e20_0]
      simp (disch := omega) only [jx_bI_s, jx_bL_s, jx_bV_s, eq_self, true_or, or_true, jx_if_t, jx_if_f, jq_b0, jq_b1, jq_bb, jq_b01, jx_if_in, jx_if_lt, jx_if_nlt, jx_if_le, jx_if_nle, jq_eqp, jq_eqn, nI_clamp, nI_add, pk_sub, pk_mul, jn_and, jn_or, jn_xor, jq_andn, jq_shl1, jq_bit, jq_mn, jq_mx, cond_true, cond_false, jq_jt, jq_jf, jq_e1, jq_e2, jq_e3, jq_e4, Bool.not_true, Bool.not_false, jq_0, jq_1, jq_2, jq_3, jq_4, jq_5, jq_6, jq_8, jq_12, jq_16, jq_20, jq_21, jq_24, jq_30, jq_32, jq_60, jq_84, jq_1000, jq_2436, jq_20001, dm_noPost a x.1, dm_noPost b x.1, ha, hb, e20_16, dm_fx]
    · rw [d124, e124_0]
      simp (disch := omega) only [jx_bI_s, jx_bL_s, jx_bV_s, eq_self, true_or, or_true, jx_if_t, jx_if_f, jq_b0, jq_b1, jq_bb, jq_b01, jx_if_in, jx_if_lt, jx_if_nlt, jx_if_le, jx_if_nle, jq_eqp, jq_eqn, nI_clamp, nI_add, pk_sub, pk_mul, jn_and, jn_or, jn_xor, jq_andn, jq_shl1, jq_bit, jq_mn, jq_mx, cond_true, cond_false, jq_jt, jq_jf, jq_e1, jq_e2, jq_e3, jq_e4, Bool.not_true, Bool.not_false, jq_0, jq_1, jq_2, jq_3, jq_4, jq_5, jq_6, jq_8, jq_12, jq_16, jq_20, jq_21, jq_24, jq_30, jq_32, jq_60, jq_84, jq_1000, jq_2436, jq_20001, dm_isPost a m.1, dm_isPost b m.1, ha, hb, e124_16, dm_fm]
  obtain ⟨i, hi, rfl⟩ := jb_ip_t (by omega) ha
  obtain ⟨j, hj, rfl⟩ := jb_ip_t (by omega) hb
  by_cases hij : i < j
  · obtain ⟨hx', hm', a1, a2, I', x', m', _⟩ := I.chg d x m
    obtain ⟨h1, b1, b2, b3⟩ := dm_meltX (d := d + 36) w x' hij hj
    have m0 : jb_M hm' (jb_cp (jb_nr N i j (jb_n N)) (jb_sr N i j (jb_n N))) := by
      refine jb_cp_M (N := N) (jb_cp_all (fun r hr => by unfold jb_sr; simp [hr]) m') rfl rfl rfl (fun r hr _ => ?_)
      show (if r < jb_n N then jb_f N r else _) = _ ∧ (if r < jb_n N then jb_s N r else _) = _ ∧ _
      rw [if_pos hr, if_pos hr]
      exact ⟨rfl, rfl, rfl, rfl⟩
    obtain ⟨h2, c1, c2, c3, c4⟩ := dm_joinM (d := d + 38) (h0 := hm') w hij hj (jb_n N) hm' (Nat.le_refl _) (fun _ _ => rfl) (fun _ _ _ => rfl) m0
    have eS : ∀ r, r < jb_n N → (fun r => (jn_mk (jb_kp N i j) (jb_n N)).testBit r) r = jb_sr N i j 0 r := fun r hr => by
      show (jn_mk (jb_kp N i j) (jb_n N)).testBit r = jb_sr N i j 0 r
      unfold jb_sr
      rw [jn_mk_t]
      simp [hr]
    have cS : ∀ q, q ≤ jb_n N → jn_ct (fun r => (jn_mk (jb_kp N i j) (jb_n N)).testBit r) q = jn_ct (jb_sr N i j 0) q := fun q hq => jn_ct_congr q (fun r hr => eS r (by omega))
    have m2 : jb_M h2 (jb_dn (jb_cp (jb_nr N i j 0) (fun r => (jn_mk (jb_kp N i j) (jb_n N)).testBit r))) := by
      refine c2.ext rfl (cS _ (Nat.le_refl _)) rfl (fun k hk => ?_)
      have hk : k < jn_ct (jb_sr N i j 0) (jb_n N) := hk
      obtain ⟨q1, q2, q3⟩ := jn_ix_t hk
      have e : jn_ix (fun r => (jn_mk (jb_kp N i j) (jb_n N)).testBit r) (jb_n N) k = jn_ix (jb_sr N i j 0) (jb_n N) k := by
        generalize jn_ix (jb_sr N i j 0) (jb_n N) k = q at *
        rw [← q3, ← cS q (by omega)]
        exact jn_ix_of q1 ((eS q q1).trans q2)
      show jb_f (jb_nr N i j 0) (jn_ix (fun r => (jn_mk (jb_kp N i j) (jb_n N)).testBit r) (jb_n N) k) = jb_f (jb_nr N i j 0) (jn_ix (jb_sr N i j 0) (jb_n N) k) ∧ jb_s (jb_nr N i j 0) (jn_ix (fun r => (jn_mk (jb_kp N i j) (jb_n N)).testBit r) (jb_n N) k) = jb_s (jb_nr N i j 0) (jn_ix (jb_sr N i j 0) (jb_n N) k) ∧ jb_c N (jn_ix (fun r => (jn_mk (jb_kp N i j) (jb_n N)).testBit r) (jb_n N) k) = jb_c N (jn_ix (jb_sr N i j 0) (jb_n N) k) ∧ jb_g N (jn_ix (fun r => (jn_mk (jb_kp N i j) (jb_n N)).testBit r) (jb_n N) k) = jb_g N (jn_ix (jb_sr N i j 0) (jb_n N) k)
      rw [e]
      exact ⟨rfl, rfl, rfl, rfl⟩
    have wf : jb_wf (jb_dn (jb_cp (jb_nr N i j 0) (fun r => (jn_mk (jb_kp N i j) (jb_n N)).testBit r))) := by
      refine ⟨by show jb_p N - 1 ≤ 8; omega, Nat.le_trans (jn_ct_le _ _) hn, fun k hk => ?_⟩
      obtain ⟨q1, q2, q3⟩ := jn_ix_t (S := fun r => (jn_mk (jb_kp N i j) (jb_n N)).testBit r) (n := jb_n N) hk
      generalize hq : jn_ix (fun r => (jn_mk (jb_kp N i j) (jb_n N)).testBit r) (jb_n N) k = q at *
      have q2 : jb_kp N i j q = true := by
        have q2 : (jn_mk (jb_kp N i j) (jb_n N)).testBit q = true := q2
        rw [jn_mk_t, Bool.and_eq_true] at q2
        exact q2.2
      obtain ⟨w1, w2, w3, w4, w5⟩ := w.2.2 q q1
      show jb_f (jb_nr N i j 0) (jn_ix (fun r => (jn_mk (jb_kp N i j) (jb_n N)).testBit r) (jb_n N) k) < jb_p N - 1 ∧ jb_s (jb_nr N i j 0) (jn_ix (fun r => (jn_mk (jb_kp N i j) (jb_n N)).testBit r) (jb_n N) k) < jb_p N - 1 ∧ jb_f (jb_nr N i j 0) (jn_ix (fun r => (jn_mk (jb_kp N i j) (jb_n N)).testBit r) (jb_n N) k) ≠ jb_s (jb_nr N i j 0) (jn_ix (fun r => (jn_mk (jb_kp N i j) (jb_n N)).testBit r) (jb_n N) k) ∧ jb_c N (jn_ix (fun r => (jn_mk (jb_kp N i j) (jb_n N)).testBit r) (jb_n N) k) ≤ 1000 ∧ jb_g N (jn_ix (fun r => (jn_mk (jb_kp N i j) (jb_n N)).testBit r) (jb_n N) k) ≤ 8
      rw [hq]
      unfold jb_kp at q2
      exact ⟨jb_ren_lt hij hj w1, jb_ren_lt hij hj w2, of_decide_eq_true q2, w4, w5⟩
    refine ⟨nI (jb_p N - 1), h1, h2, ?_, ?_, I'.net b3 c3 c4 ⟨_, wf, b2, m2⟩⟩
    · have e0 : h1.1 1 0 0 = nI (jb_p N - 1) := b2.1
      rw [d20, e20_0]
      simp (disch := omega) only [jx_bI_s, jx_bL_s, jx_bV_s, eq_self, true_or, or_true, jx_if_t, jx_if_f, jq_b0, jq_b1, jq_bb, jq_b01, jx_if_in, jx_if_lt, jx_if_nlt, jx_if_le, jx_if_nle, jq_eqp, jq_eqn, nI_clamp, nI_add, pk_sub, pk_mul, jn_and, jn_or, jn_xor, jq_andn, jq_shl1, jq_bit, jq_mn, jq_mx, cond_true, cond_false, jq_jt, jq_jf, jq_e1, jq_e2, jq_e3, jq_e4, Bool.not_true, Bool.not_false, jq_0, jq_1, jq_2, jq_3, jq_4, jq_5, jq_6, jq_8, jq_12, jq_16, jq_20, jq_21, jq_24, jq_30, jq_32, jq_60, jq_84, jq_1000, jq_2436, jq_20001, dm_noPost _ x.1, ha, hb, a1, b1, e0]
    · rw [d124, e124_0]
      simp (disch := omega) only [jx_bI_s, jx_bL_s, jx_bV_s, eq_self, true_or, or_true, jx_if_t, jx_if_f, jq_b0, jq_b1, jq_bb, jq_b01, jx_if_in, jx_if_lt, jx_if_nlt, jx_if_le, jx_if_nle, jq_eqp, jq_eqn, nI_clamp, nI_add, pk_mul, jn_and, jn_or, jn_xor, jq_andn, jq_shl1, jq_bit, jq_mn, jq_mx, cond_true, cond_false, jq_jt, jq_jf, jq_e1, jq_e2, jq_e3, jq_e4, Bool.not_true, Bool.not_false, jq_0, jq_1, jq_2, jq_3, jq_4, jq_5, jq_6, jq_8, jq_12, jq_16, jq_20, jq_21, jq_24, jq_30, jq_32, jq_60, jq_84, jq_1000, jq_2436, jq_20001, dm_isPost _ m.1, ha, hb, a2, m'.2.1, jq_dn0]
      exact c1
  · refine ⟨-3, _, _, ?_, ?_, I.fd⟩
    · rw [d20, e20_0]
      simp (disch := omega) only [jx_bI_s, jx_bL_s, jx_bV_s, eq_self, true_or, or_true, jx_if_t, jx_if_f, jq_b0, jq_b1, jq_bb, jq_b01, jx_if_in, jx_if_lt, jx_if_nlt, jx_if_le, jx_if_nle, jq_eqp, jq_eqn, nI_clamp, nI_add, pk_sub, pk_mul, jn_and, jn_or, jn_xor, jq_andn, jq_shl1, jq_bit, jq_mn, jq_mx, cond_true, cond_false, jq_jt, jq_jf, jq_e1, jq_e2, jq_e3, jq_e4, Bool.not_true, Bool.not_false, jq_0, jq_1, jq_2, jq_3, jq_4, jq_5, jq_6, jq_8, jq_12, jq_16, jq_20, jq_21, jq_24, jq_30, jq_32, jq_60, jq_84, jq_1000, jq_2436, jq_20001, dm_noPost _ x.1, ha, hb, dm_fx]
    · rw [d124, e124_0]
      simp (disch := omega) only [jx_bI_s, jx_bL_s, jx_bV_s, eq_self, true_or, or_true, jx_if_t, jx_if_f, jq_b0, jq_b1, jq_bb, jq_b01, jx_if_in, jx_if_lt, jx_if_nlt, jx_if_le, jx_if_nle, jq_eqp, jq_eqn, nI_clamp, nI_add, pk_sub, pk_mul, jn_and, jn_or, jn_xor, jq_andn, jq_shl1, jq_bit, jq_mn, jq_mx, cond_true, cond_false, jq_jt, jq_jf, jq_e1, jq_e2, jq_e3, jq_e4, Bool.not_true, Bool.not_false, jq_0, jq_1, jq_2, jq_3, jq_4, jq_5, jq_6, jq_8, jq_12, jq_16, jq_20, jq_21, jq_24, jq_30, jq_32, jq_60, jq_84, jq_1000, jq_2436, jq_20001, dm_isPost _ m.1, ha, hb, dm_fm]
end
