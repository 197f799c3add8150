/-! ===== layer 2: nets are copied, kept, brought back ===== -/
theorem jx_ck {h : jx_H} {c i e j sp dp n a : Nat} (k : a ≠ e) : (jx_cp h c i e j sp dp n).1 a = h.1 a := by
  funext b q
  exact if_neg (fun x => k x.1)
theorem jx_cbk {h : jx_H} {c i e j sp dp n a b : Nat} (k : b ≠ j) : (jx_cp h c i e j sp dp n).1 a b = h.1 a b := by
  funext q
  exact if_neg (fun x => k x.2.1)
theorem jx_cin {h : jx_H} {c i e j n q : Nat} (k : q < n) : (jx_cp h c i e j 0 0 n).1 e j q = h.1 c i q := by
  have : (jx_cp h c i e j 0 0 n).1 e j q = h.1 c i (0 + (q - 0)) := if_pos ⟨rfl, rfl, Nat.zero_le _, by omega⟩
  rw [this, Nat.zero_add, Nat.sub_zero]
theorem jn_cpc {n : Nat} (hn : n ≤ 20) : (0 : Int32) ≤ 0 ∧ (0 : Int32) ≤ 0 ∧ 0 ≤ nI n ∧ (0 : Int32).toNatClampNeg + (nI n).toNatClampNeg ≤ 20 ∧ (0 : Int32).toNatClampNeg + (nI n).toNatClampNeg ≤ 20 := by
  have e0 : (0 : Int32).toNatClampNeg = 0 := by decide
  rw [nI_clamp (by omega), e0]
  exact ⟨by decide, by decide, nI_pos' (by omega), by omega, by omega⟩
section
variable {d : Nat} {N : jb_N}
theorem dm_become {h : jx_H} {i0 i1 : Nat} (ne : i0 ≠ i1) (hn : jb_n N ≤ 20) (x : jb_X h i1 N) : ∃ h', DM (d + 1) 5 [vr 1 i0, vr 1 i1] h = some ([], h') ∧ jb_X h' i0 N ∧ ∀ c i, ¬ (1 ≤ c ∧ c ≤ 5 ∧ i = i0) → h'.1 c i = h.1 c i := by
  obtain ⟨x0, x1, x2, x3⟩ := x
  have ne' : i1 ≠ i0 := Ne.symm ne
  have e0 : (0 : Int32).toNatClampNeg = 0 := by decide
  refine ⟨jx_cp (jx_cp (jx_cp (jx_cp (jx_sI (jx_sI (jx_sI h 1 i0 0 (nI (jb_p N))) 1 i0 1 (nI (jb_n N))) 1 i0 2 (jn_b (jb_t N))) 2 i1 2 i0 0 0 (jb_n N)) 3 i1 3 i0 0 0 (jb_n N)) 4 i1 4 i0 0 0 (jb_n N)) 5 i1 5 i0 0 0 (jb_n N), ?_, ?_, ?_⟩
  · have r1 : ∀ h1 : jx_H, h1.1 1 i0 1 = nI (jb_n N) → F5_24 (DM d) i0 i1 h1 = some ([], jx_cp (jx_cp (jx_cp (jx_cp h1 2 i1 2 i0 0 0 (jb_n N)) 3 i1 3 i0 0 0 (jb_n N)) 4 i1 4 i0 0 0 (jb_n N)) 5 i1 5 i0 0 0 (jb_n N)) := by
      intro h1 k
      rw [e5_24, k, jx_ifp (jn_cpc hn), nI_clamp (by omega), e0, e5_41, jx_ck (by decide), k, jx_ifp (jn_cpc hn), nI_clamp (by omega), e0, e5_58, jx_ck (by decide), jx_ck (by decide), k, jx_ifp (jn_cpc hn), nI_clamp (by omega), e0, e5_75, jx_ck (by decide), jx_ck (by decide), jx_ck (by decide), k, jx_ifp (jn_cpc hn), nI_clamp (by omega), e0, e5_92]
    rw [d5, e5_0, x0, e5_8, jx_si ne', x1, e5_16, jx_si ne', jx_si ne', x2, jx_if_01, e5_24, ← e5_24]
    refine r1 _ ?_
    rw [jx_sp (by decide), jx_ss]
  · refine ⟨?_, ?_, ?_, fun r hr => ?_⟩
    · rw [jx_ck (by decide), jx_ck (by decide), jx_ck (by decide), jx_ck (by decide), jx_sp (by decide), jx_sp (by decide), jx_ss]
    · rw [jx_ck (by decide), jx_ck (by decide), jx_ck (by decide), jx_ck (by decide), jx_sp (by decide), jx_ss]
    · rw [jx_ck (by decide), jx_ck (by decide), jx_ck (by decide), jx_ck (by decide), jx_ss]
    · obtain ⟨y1, y2, y3, y4⟩ := x3 r hr
      refine ⟨?_, ?_, ?_, ?_⟩
      · rw [jx_ck (by decide), jx_ck (by decide), jx_ck (by decide), jx_cin hr, jx_sk (by decide), jx_sk (by decide), jx_sk (by decide)]
        exact y1
      · rw [jx_ck (by decide), jx_ck (by decide), jx_cin hr, jx_ck (by decide), jx_sk (by decide), jx_sk (by decide), jx_sk (by decide)]
        exact y2
      · rw [jx_ck (by decide), jx_cin hr, jx_ck (by decide), jx_ck (by decide), jx_sk (by decide), jx_sk (by decide), jx_sk (by decide)]
        exact y3
      · rw [jx_cin hr, jx_ck (by decide), jx_ck (by decide), jx_ck (by decide), jx_sk (by decide), jx_sk (by decide), jx_sk (by decide)]
        exact y4
  · intro c i hc
    by_cases hi : i = i0
    · have hc' : ¬ (1 ≤ c ∧ c ≤ 5) := fun k => hc ⟨k.1, k.2, hi⟩
      rw [jx_ck (by omega), jx_ck (by omega), jx_ck (by omega), jx_ck (by omega), jx_sk (by omega), jx_sk (by omega), jx_sk (by omega)]
    · rw [jx_cbk hi, jx_cbk hi, jx_cbk hi, jx_cbk hi, jx_si hi, jx_si hi, jx_si hi]
/-- the reference saves -/
theorem jb_M38 {h0 h : jx_H} {c : Nat} (hc : c ≠ 30 ∧ c ≠ 33 ∧ c ≠ 34 ∧ c ≠ 35 ∧ c ≠ 36) (m : jb_M h0 N) (f : ∀ a, a ≠ c → h.1 a = h0.1 a) : jb_M h N := by
  unfold jb_M at *
  rw [f 30 (by omega), f 33 (by omega), f 34 (by omega), f 35 (by omega), f 36 (by omega)]
  exact m
/-- saved up to road i -/
def jb_Si (h : jx_H) (c a : Nat) (N : jb_N) (i : Nat) : Prop := h.1 c 0 a = nI (jb_p N) ∧ h.1 c 0 (a + 1) = nI (jb_n N) ∧ h.1 c 0 (a + 2) = jn_b (jb_t N) ∧ ∀ r, r < i → h.1 c 0 (a + 4 + 4 * r) = nI (jb_f N r) ∧ h.1 c 0 (a + 4 + 4 * r + 1) = nI (jb_s N r) ∧ h.1 c 0 (a + 4 + 4 * r + 2) = nI (jb_c N r) ∧ h.1 c 0 (a + 4 + 4 * r + 3) = nI (jb_g N r)
theorem jb_Si_step {h : jx_H} {c a i : Nat} (s : jb_Si h c a N i) : jb_Si (jx_sI (jx_sI (jx_sI (jx_sI h c 0 (a + 4 + 4 * i) (nI (jb_f N i))) c 0 (a + 4 + 4 * i + 1) (nI (jb_s N i))) c 0 (a + 4 + 4 * i + 2) (nI (jb_c N i))) c 0 (a + 4 + 4 * i + 3) (nI (jb_g N i))) c a N (i + 1) := by
  obtain ⟨s1, s2, s3, s4⟩ := s
  refine ⟨?_, ?_, ?_, fun r hr => ?_⟩
  · rw [jx_sp (by omega), jx_sp (by omega), jx_sp (by omega), jx_sp (by omega)]; exact s1
  · rw [jx_sp (by omega), jx_sp (by omega), jx_sp (by omega), jx_sp (by omega)]; exact s2
  · rw [jx_sp (by omega), jx_sp (by omega), jx_sp (by omega), jx_sp (by omega)]; exact s3
  · by_cases e : r = i
    · subst e
      exact ⟨by rw [jx_sp (by omega), jx_sp (by omega), jx_sp (by omega), jx_ss], by rw [jx_sp (by omega), jx_sp (by omega), jx_ss], by rw [jx_sp (by omega), jx_ss], jx_ss⟩
    · obtain ⟨y1, y2, y3, y4⟩ := s4 r (by omega)
      refine ⟨?_, ?_, ?_, ?_⟩
      · rw [jx_sp (by omega), jx_sp (by omega), jx_sp (by omega), jx_sp (by omega)]; exact y1
      · rw [jx_sp (by omega), jx_sp (by omega), jx_sp (by omega), jx_sp (by omega)]; exact y2
      · rw [jx_sp (by omega), jx_sp (by omega), jx_sp (by omega), jx_sp (by omega)]; exact y3
      · rw [jx_sp (by omega), jx_sp (by omega), jx_sp (by omega), jx_sp (by omega)]; exact y4
/-- only places a .. a + 83 of row c have changed -/
def jb_fS (h0 h : jx_H) (c a : Nat) : Prop := (∀ b, b ≠ c → h.1 b = h0.1 b) ∧ ∀ q, q < a ∨ a + 84 ≤ q → h.1 c 0 q = h0.1 c 0 q
theorem jb_fS.set {h0 h : jx_H} {c a q : Nat} {v : Int32} (f : jb_fS h0 h c a) (h1 : a ≤ q) (h2 : q < a + 84) : jb_fS h0 (jx_sI h c 0 q v) c a := ⟨fun b hb => by rw [jx_sk hb]; exact f.1 b hb, fun q' hq => by rw [jx_sp (by omega)]; exact f.2 q' hq⟩
theorem dm_savea {h0 : jx_H} (w : jb_wf N) (m0 : jb_M h0 N) {a : Nat} (ha : a + 84 ≤ 2520) : ∃ h', DM (d + 1) 115 [vr 30 0, vr 38 0, vi (nI a)] h0 = some ([], h') ∧ jb_S h' 38 a N ∧ jb_fS h0 h' 38 a := by
  have hn := w.2.1
  have loop : ∀ (k i : Nat) (h : jx_H), i + k = jb_n N → jb_fS h0 h 38 a → jb_Si h 38 a N i → ∃ h', F115a_37 (DM d) (nI a) (nI i) h = some ([], h') ∧ jb_S h' 38 a N ∧ jb_fS h0 h' 38 a := by
    intro k
    induction k with
    | zero =>
      intro i h hi f s
      have m := jb_M38 (c := 38) (by decide) m0 f.1
      have e : i = jb_n N := by omega
      subst e
      refine ⟨h, ?_, s, f⟩
      rw [e115a_37, m.2.1]
      simp (disch := omega) only [jx_bI_s, jx_bL_s, jx_bV_s, eq_self, true_or, or_true, jx_if_t, jx_if_f, jq_b0, jq_b1, jq_bb, jq_b01, jx_if_in, jx_if_lt, jx_if_nlt, jx_if_le, jx_if_nle, jq_eqp, jq_eqn, nI_clamp, nI_add, pk_sub, pk_mul, jn_and, jn_or, jn_xor, jq_andn, jq_shl1, jq_bit, jq_mn, jq_mx, cond_true, cond_false, jq_jt, jq_jf, jq_e1, jq_e2, jq_e3, jq_e4, Bool.not_true, Bool.not_false, jq_0, jq_1, jq_2, jq_3, jq_4, jq_5, jq_6, jq_8, jq_12, jq_16, jq_20, jq_21, jq_24, jq_30, jq_32, jq_60, jq_84, jq_1000, jq_2436, jq_20001]
    | succ k ih =>
      intro i h hi f s
      have m := jb_M38 (c := 38) (by decide) m0 f.1
      obtain ⟨m1, m2, m3, m4⟩ := m.2.2.2 i (by omega)
      obtain ⟨h', b1, b2, b3⟩ := ih (i + 1) _ (by omega) ((((f.set (q := a + 4 + 4 * i) (v := nI (jb_f N i)) (by omega) (by omega)).set (q := a + 4 + 4 * i + 1) (v := nI (jb_s N i)) (by omega) (by omega)).set (q := a + 4 + 4 * i + 2) (v := nI (jb_c N i)) (by omega) (by omega)).set (q := a + 4 + 4 * i + 3) (v := nI (jb_g N i)) (by omega) (by omega)) (jb_Si_step s)
      refine ⟨h', ?_, b2, b3⟩
      rw [e115a_37, m.2.1]
      simp (disch := omega) only [jx_bI_s, jx_bL_s, jx_bV_s, eq_self, true_or, or_true, jx_if_t, jx_if_f, jq_b0, jq_b1, jq_bb, jq_b01, jx_if_in, jx_if_lt, jx_if_nlt, jx_if_le, jx_if_nle, jq_eqp, jq_eqn, nI_clamp, nI_add, pk_sub, pk_mul, jn_and, jn_or, jn_xor, jq_andn, jq_shl1, jq_bit, jq_mn, jq_mx, cond_true, cond_false, jq_jt, jq_jf, jq_e1, jq_e2, jq_e3, jq_e4, Bool.not_true, Bool.not_false, jq_0, jq_1, jq_2, jq_3, jq_4, jq_5, jq_6, jq_8, jq_12, jq_16, jq_20, jq_21, jq_24, jq_30, jq_32, jq_60, jq_84, jq_1000, jq_2436, jq_20001, m1, m2, m3, m4, e115a_60, e115a_77, e115a_94, e115a_111, jx_sk]
      exact b1
  have f0 : jb_fS h0 h0 38 a := ⟨fun _ _ => rfl, fun _ _ => rfl⟩
  obtain ⟨h', b1, b2, b3⟩ := loop (jb_n N) 0 (jx_sI (jx_sI (jx_sI h0 38 0 a (nI (jb_p N))) 38 0 (a + 1) (nI (jb_n N))) 38 0 (a + 2) (jn_b (jb_t N))) (by omega) (((f0.set (by omega) (by omega)).set (by omega) (by omega)).set (by omega) (by omega)) ⟨by rw [jx_sp (by omega), jx_sp (by omega), jx_ss], by rw [jx_sp (by omega), jx_ss], jx_ss, fun r hr => by omega⟩
  refine ⟨h', ?_, b2, b3⟩
  rw [d115a, e115a_0]
  cases ht : jb_t N
  · rw [ht] at b1
    simp (disch := omega) only [jx_bI_s, jx_bL_s, jx_bV_s, eq_self, true_or, or_true, jx_if_t, jx_if_f, jq_b0, jq_b1, jq_bb, jq_b01, jx_if_in, jx_if_lt, jx_if_nlt, jx_if_le, jx_if_nle, jq_eqp, jq_eqn, nI_clamp, nI_add, pk_sub, pk_mul, jn_and, jn_or, jn_xor, jq_andn, jq_shl1, jq_bit, jq_mn, jq_mx, cond_true, cond_false, jq_jt, jq_jf, jq_e1, jq_e2, jq_e3, jq_e4, Bool.not_true, Bool.not_false, jq_0, jq_1, jq_2, jq_3, jq_4, jq_5, jq_6, jq_8, jq_12, jq_16, jq_20, jq_21, jq_24, jq_30, jq_32, jq_60, jq_84, jq_1000, jq_2436, jq_20001, m0.1, m0.2.1, m0.2.2.1, ht, e115a_9, e115a_18, e115a_34, e115a_35, jx_sk, Nat.add_zero]
    exact b1
  · rw [ht] at b1
    simp (disch := omega) only [jx_bI_s, jx_bL_s, jx_bV_s, eq_self, true_or, or_true, jx_if_t, jx_if_f, jq_b0, jq_b1, jq_bb, jq_b01, jx_if_in, jx_if_lt, jx_if_nlt, jx_if_le, jx_if_nle, jq_eqp, jq_eqn, nI_clamp, nI_add, pk_sub, pk_mul, jn_and, jn_or, jn_xor, jq_andn, jq_shl1, jq_bit, jq_mn, jq_mx, cond_true, cond_false, jq_jt, jq_jf, jq_e1, jq_e2, jq_e3, jq_e4, Bool.not_true, Bool.not_false, jq_0, jq_1, jq_2, jq_3, jq_4, jq_5, jq_6, jq_8, jq_12, jq_16, jq_20, jq_21, jq_24, jq_30, jq_32, jq_60, jq_84, jq_1000, jq_2436, jq_20001, m0.1, m0.2.1, m0.2.2.1, ht, e115a_9, e115a_18, e115a_34, e115a_35, jx_sk, Nat.add_zero]
    exact b1
theorem dm_saveb {h0 : jx_H} (w : jb_wf N) (m0 : jb_M h0 N) {a : Nat} (ha : a + 84 ≤ 336) : ∃ h', DM (d + 1) 115 [vr 30 0, vr 39 0, vi (nI a)] h0 = some ([], h') ∧ jb_S h' 39 a N ∧ jb_fS h0 h' 39 a := by
  have hn := w.2.1
  have loop : ∀ (k i : Nat) (h : jx_H), i + k = jb_n N → jb_fS h0 h 39 a → jb_Si h 39 a N i → ∃ h', F115b_37 (DM d) (nI a) (nI i) h = some ([], h') ∧ jb_S h' 39 a N ∧ jb_fS h0 h' 39 a := by
    intro k
    induction k with
    | zero =>
      intro i h hi f s
      have m := jb_M38 (c := 39) (by decide) m0 f.1
      have e : i = jb_n N := by omega
      subst e
      refine ⟨h, ?_, s, f⟩
      rw [e115b_37, m.2.1]
      simp (disch := omega) only [jx_bI_s, jx_bL_s, jx_bV_s, eq_self, true_or, or_true, jx_if_t, jx_if_f, jq_b0, jq_b1, jq_bb, jq_b01, jx_if_in, jx_if_lt, jx_if_nlt, jx_if_le, jx_if_nle, jq_eqp, jq_eqn, nI_clamp, nI_add, pk_sub, pk_mul, jn_and, jn_or, jn_xor, jq_andn, jq_shl1, jq_bit, jq_mn, jq_mx, cond_true, cond_false, jq_jt, jq_jf, jq_e1, jq_e2, jq_e3, jq_e4, Bool.not_true, Bool.not_false, jq_0, jq_1, jq_2, jq_3, jq_4, jq_5, jq_6, jq_8, jq_12, jq_16, jq_20, jq_21, jq_24, jq_30, jq_32, jq_60, jq_84, jq_1000, jq_2436, jq_20001]
    | succ k ih =>
      intro i h hi f s
      have m := jb_M38 (c := 39) (by decide) m0 f.1
      obtain ⟨m1, m2, m3, m4⟩ := m.2.2.2 i (by omega)
      obtain ⟨h', b1, b2, b3⟩ := ih (i + 1) _ (by omega) ((((f.set (q := a + 4 + 4 * i) (v := nI (jb_f N i)) (by omega) (by omega)).set (q := a + 4 + 4 * i + 1) (v := nI (jb_s N i)) (by omega) (by omega)).set (q := a + 4 + 4 * i + 2) (v := nI (jb_c N i)) (by omega) (by omega)).set (q := a + 4 + 4 * i + 3) (v := nI (jb_g N i)) (by omega) (by omega)) (jb_Si_step s)
      refine ⟨h', ?_, b2, b3⟩
      rw [e115b_37, m.2.1]
      simp (disch := omega) only [jx_bI_s, jx_bL_s, jx_bV_s, eq_self, true_or, or_true, jx_if_t, jx_if_f, jq_b0, jq_b1, jq_bb, jq_b01, jx_if_in, jx_if_lt, jx_if_nlt, jx_if_le, jx_if_nle, jq_eqp, jq_eqn, nI_clamp, nI_add, pk_sub, pk_mul, jn_and, jn_or, jn_xor, jq_andn, jq_shl1, jq_bit, jq_mn, jq_mx, cond_true, cond_false, jq_jt, jq_jf, jq_e1, jq_e2, jq_e3, jq_e4, Bool.not_true, Bool.not_false, jq_0, jq_1, jq_2, jq_3, jq_4, jq_5, jq_6, jq_8, jq_12, jq_16, jq_20, jq_21, jq_24, jq_30, jq_32, jq_60, jq_84, jq_1000, jq_2436, jq_20001, m1, m2, m3, m4, e115b_60, e115b_77, e115b_94, e115b_111, jx_sk]
      exact b1
  have f0 : jb_fS h0 h0 39 a := ⟨fun _ _ => rfl, fun _ _ => rfl⟩
  obtain ⟨h', b1, b2, b3⟩ := loop (jb_n N) 0 (jx_sI (jx_sI (jx_sI h0 39 0 a (nI (jb_p N))) 39 0 (a + 1) (nI (jb_n N))) 39 0 (a + 2) (jn_b (jb_t N))) (by omega) (((f0.set (by omega) (by omega)).set (by omega) (by omega)).set (by omega) (by omega)) ⟨by rw [jx_sp (by omega), jx_sp (by omega), jx_ss], by rw [jx_sp (by omega), jx_ss], jx_ss, fun r hr => by omega⟩
  refine ⟨h', ?_, b2, b3⟩
  rw [d115b, e115b_0]
  cases ht : jb_t N
  · rw [ht] at b1
    simp (disch := omega) only [jx_bI_s, jx_bL_s, jx_bV_s, eq_self, true_or, or_true, jx_if_t, jx_if_f, jq_b0, jq_b1, jq_bb, jq_b01, jx_if_in, jx_if_lt, jx_if_nlt, jx_if_le, jx_if_nle, jq_eqp, jq_eqn, nI_clamp, nI_add, pk_sub, pk_mul, jn_and, jn_or, jn_xor, jq_andn, jq_shl1, jq_bit, jq_mn, jq_mx, cond_true, cond_false, jq_jt, jq_jf, jq_e1, jq_e2, jq_e3, jq_e4, Bool.not_true, Bool.not_false, jq_0, jq_1, jq_2, jq_3, jq_4, jq_5, jq_6, jq_8, jq_12, jq_16, jq_20, jq_21, jq_24, jq_30, jq_32, jq_60, jq_84, jq_1000, jq_2436, jq_20001, m0.1, m0.2.1, m0.2.2.1, ht, e115b_9, e115b_18, e115b_34, e115b_35, jx_sk, Nat.add_zero]
    exact b1
  · rw [ht] at b1
    simp (disch := omega) only [jx_bI_s, jx_bL_s, jx_bV_s, eq_self, true_or, or_true, jx_if_t, jx_if_f, jq_b0, jq_b1, jq_bb, jq_b01, jx_if_in, jx_if_lt, jx_if_nlt, jx_if_le, jx_if_nle, jq_eqp, jq_eqn, nI_clamp, nI_add, pk_sub, pk_mul, jn_and, jn_or, jn_xor, jq_andn, jq_shl1, jq_bit, jq_mn, jq_mx, cond_true, cond_false, jq_jt, jq_jf, jq_e1, jq_e2, jq_e3, jq_e4, Bool.not_true, Bool.not_false, jq_0, jq_1, jq_2, jq_3, jq_4, jq_5, jq_6, jq_8, jq_12, jq_16, jq_20, jq_21, jq_24, jq_30, jq_32, jq_60, jq_84, jq_1000, jq_2436, jq_20001, m0.1, m0.2.1, m0.2.2.1, ht, e115b_9, e115b_18, e115b_34, e115b_35, jx_sk, Nat.add_zero]
    exact b1
theorem dm_loada {h0 : jx_H} (w : jb_wf N) {a : Nat} (ha : a + 84 ≤ 2520) (s : jb_S h0 38 a N) : ∃ h', DM (d + 1) 112 [vr 30 0, vr 38 0, vi (nI a)] h0 = some ([], h') ∧ jb_M h' N ∧ (∀ q, 3 ≤ q → h'.1 30 0 q = h0.1 30 0 q) ∧ ∀ c, c ≠ 30 → ¬ (33 ≤ c ∧ c ≤ 36) → h'.1 c = h0.1 c := by
  have hn := w.2.1
  have loop : ∀ (k i : Nat) (h : jx_H), i + k = jb_n N → (∀ c, c ≠ 30 → ¬ (33 ≤ c ∧ c ≤ 36) → h.1 c = h0.1 c) → (∀ q, 3 ≤ q → h.1 30 0 q = h0.1 30 0 q) → h.1 30 0 0 = nI (jb_p N) → h.1 30 0 1 = nI (jb_n N) → h.1 30 0 2 = jn_b (jb_t N) → (∀ r, r < i → h.1 33 0 r = nI (jb_f N r) ∧ h.1 34 0 r = nI (jb_s N r) ∧ h.1 35 0 r = nI (jb_c N r) ∧ h.1 36 0 r = nI (jb_g N r)) → ∃ h', F112a_38 (DM d) (nI a) (nI i) h = some ([], h') ∧ jb_M h' N ∧ (∀ q, 3 ≤ q → h'.1 30 0 q = h0.1 30 0 q) ∧ ∀ c, c ≠ 30 → ¬ (33 ≤ c ∧ c ≤ 36) → h'.1 c = h0.1 c := by
    intro k
    induction k with
    | zero =>
      intro i h hi f f2 k0 k1 k2 k3
      have e : i = jb_n N := by omega
      subst e
      refine ⟨h, ?_, ⟨k0, k1, k2, k3⟩, f2, f⟩
      rw [e112a_38, k1]
      simp (disch := omega) only [jx_bI_s, jx_bL_s, jx_bV_s, eq_self, true_or, or_true, jx_if_t, jx_if_f, jq_b0, jq_b1, jq_bb, jq_b01, jx_if_in, jx_if_lt, jx_if_nlt, jx_if_le, jx_if_nle, jq_eqp, jq_eqn, nI_clamp, nI_add, pk_sub, pk_mul, jn_and, jn_or, jn_xor, jq_andn, jq_shl1, jq_bit, jq_mn, jq_mx, cond_true, cond_false, jq_jt, jq_jf, jq_e1, jq_e2, jq_e3, jq_e4, Bool.not_true, Bool.not_false, jq_0, jq_1, jq_2, jq_3, jq_4, jq_5, jq_6, jq_8, jq_12, jq_16, jq_20, jq_21, jq_24, jq_30, jq_32, jq_60, jq_84, jq_1000, jq_2436, jq_20001]
    | succ k ih =>
      intro i h hi f f2 k0 k1 k2 k3
      have fK := f 38 (by decide) (by decide)
      obtain ⟨s1, s2, s3, s4⟩ := s.2.2.2 i (by omega)
      obtain ⟨h', b1, b2, b3, b4⟩ := ih (i + 1) (jx_sI (jx_sI (jx_sI (jx_sI h 33 0 i (nI (jb_f N i))) 34 0 i (nI (jb_s N i))) 35 0 i (nI (jb_c N i))) 36 0 i (nI (jb_g N i))) (by omega) (fun c h1 h2 => by rw [jx_sk (by omega), jx_sk (by omega), jx_sk (by omega), jx_sk (by omega)]; exact f c h1 h2) (fun q hq => by rw [jx_sk (by decide), jx_sk (by decide), jx_sk (by decide), jx_sk (by decide)]; exact f2 q hq) (by rw [jx_sk (by decide), jx_sk (by decide), jx_sk (by decide), jx_sk (by decide)]; exact k0) (by rw [jx_sk (by decide), jx_sk (by decide), jx_sk (by decide), jx_sk (by decide)]; exact k1) (by rw [jx_sk (by decide), jx_sk (by decide), jx_sk (by decide), jx_sk (by decide)]; exact k2) (fun r hr => by
        by_cases e : r = i
        · subst e
          exact ⟨by rw [jx_sk (by decide), jx_sk (by decide), jx_sk (by decide), jx_ss], by rw [jx_sk (by decide), jx_sk (by decide), jx_ss], by rw [jx_sk (by decide), jx_ss], jx_ss⟩
        · obtain ⟨y1, y2, y3, y4⟩ := k3 r (by omega)
          exact ⟨by rw [jx_sp e, jx_sp e, jx_sp e, jx_sp e]; exact y1, by rw [jx_sp e, jx_sp e, jx_sp e, jx_sp e]; exact y2, by rw [jx_sp e, jx_sp e, jx_sp e, jx_sp e]; exact y3, by rw [jx_sp e, jx_sp e, jx_sp e, jx_sp e]; exact y4⟩)
      refine ⟨h', ?_, b2, b3, b4⟩
      rw [e112a_38, k1]
      simp (disch := omega) only [jx_bI_s, jx_bL_s, jx_bV_s, eq_self, true_or, or_true, jx_if_t, jx_if_f, jq_b0, jq_b1, jq_bb, jq_b01, jx_if_in, jx_if_lt, jx_if_nlt, jx_if_le, jx_if_nle, jq_eqp, jq_eqn, nI_clamp, nI_add, pk_sub, pk_mul, jn_and, jn_or, jn_xor, jq_andn, jq_shl1, jq_bit, jq_mn, jq_mx, cond_true, cond_false, jq_jt, jq_jf, jq_e1, jq_e2, jq_e3, jq_e4, Bool.not_true, Bool.not_false, jq_0, jq_1, jq_2, jq_3, jq_4, jq_5, jq_6, jq_8, jq_12, jq_16, jq_20, jq_21, jq_24, jq_30, jq_32, jq_60, jq_84, jq_1000, jq_2436, jq_20001, fK, s1, s2, s3, s4, e112a_61, e112a_78, e112a_95, e112a_112, jx_sk]
      exact b1
  obtain ⟨h', b1, b2, b3, b4⟩ := loop (jb_n N) 0 (jx_sI (jx_sI (jx_sI h0 30 0 0 (nI (jb_p N))) 30 0 1 (nI (jb_n N))) 30 0 2 (jn_b (jb_t N))) (by omega) (fun c h1 h2 => by rw [jx_sk h1, jx_sk h1, jx_sk h1]) (fun q hq => by rw [jx_sp (by omega), jx_sp (by omega), jx_sp (by omega)]) (by rw [jx_sp (by omega), jx_sp (by omega), jx_ss]) (by rw [jx_sp (by omega), jx_ss]) jx_ss (fun r hr => by omega)
  refine ⟨h', ?_, b2, b3, b4⟩
  rw [d112a, e112a_0]
  cases ht : jb_t N
  · rw [ht] at b1
    simp (disch := omega) only [jx_bI_s, jx_bL_s, jx_bV_s, eq_self, true_or, or_true, jx_if_t, jx_if_f, jq_b0, jq_b1, jq_bb, jq_b01, jx_if_in, jx_if_lt, jx_if_nlt, jx_if_le, jx_if_nle, jq_eqp, jq_eqn, nI_clamp, nI_add, pk_sub, pk_mul, jn_and, jn_or, jn_xor, jq_andn, jq_shl1, jq_bit, jq_mn, jq_mx, cond_true, cond_false, jq_jt, jq_jf, jq_e1, jq_e2, jq_e3, jq_e4, Bool.not_true, Bool.not_false, jq_0, jq_1, jq_2, jq_3, jq_4, jq_5, jq_6, jq_8, jq_12, jq_16, jq_20, jq_21, jq_24, jq_30, jq_32, jq_60, jq_84, jq_1000, jq_2436, jq_20001, s.1, s.2.1, s.2.2.1, ht, e112a_9, e112a_18, e112a_33, e112a_36, jx_sk, Nat.add_zero]
    exact b1
  · rw [ht] at b1
    simp (disch := omega) only [jx_bI_s, jx_bL_s, jx_bV_s, eq_self, true_or, or_true, jx_if_t, jx_if_f, jq_b0, jq_b1, jq_bb, jq_b01, jx_if_in, jx_if_lt, jx_if_nlt, jx_if_le, jx_if_nle, jq_eqp, jq_eqn, nI_clamp, nI_add, pk_sub, pk_mul, jn_and, jn_or, jn_xor, jq_andn, jq_shl1, jq_bit, jq_mn, jq_mx, cond_true, cond_false, jq_jt, jq_jf, jq_e1, jq_e2, jq_e3, jq_e4, Bool.not_true, Bool.not_false, jq_0, jq_1, jq_2, jq_3, jq_4, jq_5, jq_6, jq_8, jq_12, jq_16, jq_20, jq_21, jq_24, jq_30, jq_32, jq_60, jq_84, jq_1000, jq_2436, jq_20001, s.1, s.2.1, s.2.2.1, ht, e112a_9, e112a_18, e112a_33, e112a_36, jx_sk, Nat.add_zero]
    exact b1
theorem dm_loadb {h0 : jx_H} (w : jb_wf N) {a : Nat} (ha : a + 84 ≤ 336) (s : jb_S h0 39 a N) : ∃ h', DM (d + 1) 112 [vr 30 0, vr 39 0, vi (nI a)] h0 = some ([], h') ∧ jb_M h' N ∧ (∀ q, 3 ≤ q → h'.1 30 0 q = h0.1 30 0 q) ∧ ∀ c, c ≠ 30 → ¬ (33 ≤ c ∧ c ≤ 36) → h'.1 c = h0.1 c := by
  have hn := w.2.1
  have loop : ∀ (k i : Nat) (h : jx_H), i + k = jb_n N → (∀ c, c ≠ 30 → ¬ (33 ≤ c ∧ c ≤ 36) → h.1 c = h0.1 c) → (∀ q, 3 ≤ q → h.1 30 0 q = h0.1 30 0 q) → h.1 30 0 0 = nI (jb_p N) → h.1 30 0 1 = nI (jb_n N) → h.1 30 0 2 = jn_b (jb_t N) → (∀ r, r < i → h.1 33 0 r = nI (jb_f N r) ∧ h.1 34 0 r = nI (jb_s N r) ∧ h.1 35 0 r = nI (jb_c N r) ∧ h.1 36 0 r = nI (jb_g N r)) → ∃ h', F112b_38 (DM d) (nI a) (nI i) h = some ([], h') ∧ jb_M h' N ∧ (∀ q, 3 ≤ q → h'.1 30 0 q = h0.1 30 0 q) ∧ ∀ c, c ≠ 30 → ¬ (33 ≤ c ∧ c ≤ 36) → h'.1 c = h0.1 c := by
    intro k
    induction k with
    | zero =>
      intro i h hi f f2 k0 k1 k2 k3
      have e : i = jb_n N := by omega
      subst e
      refine ⟨h, ?_, ⟨k0, k1, k2, k3⟩, f2, f⟩
      rw [e112b_38, k1]
      simp (disch := omega) only [jx_bI_s, jx_bL_s, jx_bV_s, eq_self, true_or, or_true, jx_if_t, jx_if_f, jq_b0, jq_b1, jq_bb, jq_b01, jx_if_in, jx_if_lt, jx_if_nlt, jx_if_le, jx_if_nle, jq_eqp, jq_eqn, nI_clamp, nI_add, pk_sub, pk_mul, jn_and, jn_or, jn_xor, jq_andn, jq_shl1, jq_bit, jq_mn, jq_mx, cond_true, cond_false, jq_jt, jq_jf, jq_e1, jq_e2, jq_e3, jq_e4, Bool.not_true, Bool.not_false, jq_0, jq_1, jq_2, jq_3, jq_4, jq_5, jq_6, jq_8, jq_12, jq_16, jq_20, jq_21, jq_24, jq_30, jq_32, jq_60, jq_84, jq_1000, jq_2436, jq_20001]
    | succ k ih =>
      intro i h hi f f2 k0 k1 k2 k3
      have fK := f 39 (by decide) (by decide)
      obtain ⟨s1, s2, s3, s4⟩ := s.2.2.2 i (by omega)
      obtain ⟨h', b1, b2, b3, b4⟩ := ih (i + 1) (jx_sI (jx_sI (jx_sI (jx_sI h 33 0 i (nI (jb_f N i))) 34 0 i (nI (jb_s N i))) 35 0 i (nI (jb_c N i))) 36 0 i (nI (jb_g N i))) (by omega) (fun c h1 h2 => by rw [jx_sk (by omega), jx_sk (by omega), jx_sk (by omega), jx_sk (by omega)]; exact f c h1 h2) (fun q hq => by rw [jx_sk (by decide), jx_sk (by decide), jx_sk (by decide), jx_sk (by decide)]; exact f2 q hq) (by rw [jx_sk (by decide), jx_sk (by decide), jx_sk (by decide), jx_sk (by decide)]; exact k0) (by rw [jx_sk (by decide), jx_sk (by decide), jx_sk (by decide), jx_sk (by decide)]; exact k1) (by rw [jx_sk (by decide), jx_sk (by decide), jx_sk (by decide), jx_sk (by decide)]; exact k2) (fun r hr => by
        by_cases e : r = i
        · subst e
          exact ⟨by rw [jx_sk (by decide), jx_sk (by decide), jx_sk (by decide), jx_ss], by rw [jx_sk (by decide), jx_sk (by decide), jx_ss], by rw [jx_sk (by decide), jx_ss], jx_ss⟩
        · obtain ⟨y1, y2, y3, y4⟩ := k3 r (by omega)
          exact ⟨by rw [jx_sp e, jx_sp e, jx_sp e, jx_sp e]; exact y1, by rw [jx_sp e, jx_sp e, jx_sp e, jx_sp e]; exact y2, by rw [jx_sp e, jx_sp e, jx_sp e, jx_sp e]; exact y3, by rw [jx_sp e, jx_sp e, jx_sp e, jx_sp e]; exact y4⟩)
      refine ⟨h', ?_, b2, b3, b4⟩
      rw [e112b_38, k1]
      simp (disch := omega) only [jx_bI_s, jx_bL_s, jx_bV_s, eq_self, true_or, or_true, jx_if_t, jx_if_f, jq_b0, jq_b1, jq_bb, jq_b01, jx_if_in, jx_if_lt, jx_if_nlt, jx_if_le, jx_if_nle, jq_eqp, jq_eqn, nI_clamp, nI_add, pk_sub, pk_mul, jn_and, jn_or, jn_xor, jq_andn, jq_shl1, jq_bit, jq_mn, jq_mx, cond_true, cond_false, jq_jt, jq_jf, jq_e1, jq_e2, jq_e3, jq_e4, Bool.not_true, Bool.not_false, jq_0, jq_1, jq_2, jq_3, jq_4, jq_5, jq_6, jq_8, jq_12, jq_16, jq_20, jq_21, jq_24, jq_30, jq_32, jq_60, jq_84, jq_1000, jq_2436, jq_20001, fK, s1, s2, s3, s4, e112b_61, e112b_78, e112b_95, e112b_112, jx_sk]
      exact b1
  obtain ⟨h', b1, b2, b3, b4⟩ := loop (jb_n N) 0 (jx_sI (jx_sI (jx_sI h0 30 0 0 (nI (jb_p N))) 30 0 1 (nI (jb_n N))) 30 0 2 (jn_b (jb_t N))) (by omega) (fun c h1 h2 => by rw [jx_sk h1, jx_sk h1, jx_sk h1]) (fun q hq => by rw [jx_sp (by omega), jx_sp (by omega), jx_sp (by omega)]) (by rw [jx_sp (by omega), jx_sp (by omega), jx_ss]) (by rw [jx_sp (by omega), jx_ss]) jx_ss (fun r hr => by omega)
  refine ⟨h', ?_, b2, b3, b4⟩
  rw [d112b, e112b_0]
  cases ht : jb_t N
  · rw [ht] at b1
    simp (disch := omega) only [jx_bI_s, jx_bL_s, jx_bV_s, eq_self, true_or, or_true, jx_if_t, jx_if_f, jq_b0, jq_b1, jq_bb, jq_b01, jx_if_in, jx_if_lt, jx_if_nlt, jx_if_le, jx_if_nle, jq_eqp, jq_eqn, nI_clamp, nI_add, pk_sub, pk_mul, jn_and, jn_or, jn_xor, jq_andn, jq_shl1, jq_bit, jq_mn, jq_mx, cond_true, cond_false, jq_jt, jq_jf, jq_e1, jq_e2, jq_e3, jq_e4, Bool.not_true, Bool.not_false, jq_0, jq_1, jq_2, jq_3, jq_4, jq_5, jq_6, jq_8, jq_12, jq_16, jq_20, jq_21, jq_24, jq_30, jq_32, jq_60, jq_84, jq_1000, jq_2436, jq_20001, s.1, s.2.1, s.2.2.1, ht, e112b_9, e112b_18, e112b_33, e112b_36, jx_sk, Nat.add_zero]
    exact b1
  · rw [ht] at b1
    simp (disch := omega) only [jx_bI_s, jx_bL_s, jx_bV_s, eq_self, true_or, or_true, jx_if_t, jx_if_f, jq_b0, jq_b1, jq_bb, jq_b01, jx_if_in, jx_if_lt, jx_if_nlt, jx_if_le, jx_if_nle, jq_eqp, jq_eqn, nI_clamp, nI_add, pk_sub, pk_mul, jn_and, jn_or, jn_xor, jq_andn, jq_shl1, jq_bit, jq_mn, jq_mx, cond_true, cond_false, jq_jt, jq_jf, jq_e1, jq_e2, jq_e3, jq_e4, Bool.not_true, Bool.not_false, jq_0, jq_1, jq_2, jq_3, jq_4, jq_5, jq_6, jq_8, jq_12, jq_16, jq_20, jq_21, jq_24, jq_30, jq_32, jq_60, jq_84, jq_1000, jq_2436, jq_20001, s.1, s.2.1, s.2.2.1, ht, e112b_9, e112b_18, e112b_33, e112b_36, jx_sk, Nat.add_zero]
    exact b1
end
