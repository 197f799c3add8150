/-! ===== layer 2: what undo needs ===== -/
theorem jb_S.mv {h h' : jx_H} {c a a' : Nat} {N : jb_N} (s : jb_S h c a N) (hn : jb_n N ≤ 20) (e : ∀ q, q < 84 → h'.1 c 0 (a' + q) = h.1 c 0 (a + q)) : jb_S h' c a' N := by
  obtain ⟨s1, s2, s3, s4⟩ := s
  refine ⟨(e 0 (by omega)).trans s1, (e 1 (by omega)).trans s2, (e 2 (by omega)).trans s3, fun r hr => ?_⟩
  obtain ⟨t1, t2, t3, t4⟩ := s4 r hr
  have g : ∀ z, z < 4 → h'.1 c 0 (a' + 4 + 4 * r + z) = h.1 c 0 (a + 4 + 4 * r + z) := fun z hz => by
    have := e (4 + 4 * r + z) (by omega)
    rw [show a' + 4 + 4 * r + z = a' + (4 + 4 * r + z) by omega, show a + 4 + 4 * r + z = a + (4 + 4 * r + z) by omega]
    exact this
  exact ⟨(g 0 (by omega)).trans t1, (g 1 (by omega)).trans t2, (g 2 (by omega)).trans t3, (g 3 (by omega)).trans t4⟩
/-- the reference makes room -/
theorem dm_shift {d : Nat} {h0 : jx_H} : ∀ (k i : Nat) (h : jx_H), i + k = 2436 → (∀ c, c ≠ 38 → h.1 c = h0.1 c) → (∀ q, q < i → h.1 38 0 q = h0.1 38 0 (q + 84)) → (∀ q, i ≤ q → h.1 38 0 q = h0.1 38 0 q) → ∃ h', F114_11 (DM d) (nI i) h = F114_49 (DM d) (jx_sI h' 30 0 7 (h'.1 30 0 7 - nI 1)) ∧ (∀ c, c ≠ 38 → h'.1 c = h0.1 c) ∧ ∀ q, q < 2436 → h'.1 38 0 q = h0.1 38 0 (q + 84) := by
  intro k
  induction k with
  | zero =>
    intro i h hi f f1 f2
    refine ⟨h, ?_, f, fun q hq => f1 q (by omega)⟩
    rw [e114_11]
    simp (disch := omega) only [jx_bI_s, jx_bL_s, jx_bV_s, eq_self, true_or, or_true, jx_if_t, jx_if_f, jq_b0, jq_b1, jq_bb, jq_b01, jx_if_in, jx_if_lt, jx_if_nlt, jx_if_le, jx_if_nle, jq_eqp, jq_eqn, nI_clamp, nI_add, pk_mul, jn_and, jn_or, jn_xor, jq_andn, jq_shl1, jq_bit, jq_mn, jq_mx, cond_true, cond_false, jq_jt, jq_jf, jq_e1, jq_e2, jq_e3, jq_e4, Bool.not_true, Bool.not_false, jq_0, jq_1, jq_2, jq_3, jq_4, jq_5, jq_6, jq_8, jq_12, jq_16, jq_20, jq_21, jq_24, jq_30, jq_32, jq_60, jq_84, jq_1000, jq_2436, jq_20001]
  | succ k ih =>
    intro i h hi f f1 f2
    obtain ⟨h', a1, a2, a3⟩ := ih (i + 1) (jx_sI h 38 0 i (h.1 38 0 (i + 84))) (by omega) (fun c hc => by rw [jx_sk hc]; exact f c hc) (fun q hq => by
      by_cases e : q = i
      · subst e
        rw [jx_ss, f2 _ (by omega)]
      · rw [jx_sp e]
        exact f1 q (by omega)) (fun q hq => by
      rw [jx_sp (by omega)]
      exact f2 q (by omega))
    refine ⟨h', ?_, a2, a3⟩
    rw [e114_11]
    simp (disch := omega) only [jx_bI_s, jx_bL_s, jx_bV_s, eq_self, true_or, or_true, jx_if_t, jx_if_f, jq_b0, jq_b1, jq_bb, jq_b01, jx_if_in, jx_if_lt, jx_if_nlt, jx_if_le, jx_if_nle, jq_eqp, jq_eqn, nI_clamp, nI_add, pk_sub, pk_mul, jn_and, jn_or, jn_xor, jq_andn, jq_shl1, jq_bit, jq_mn, jq_mx, cond_true, cond_false, jq_jt, jq_jf, jq_e1, jq_e2, jq_e3, jq_e4, Bool.not_true, Bool.not_false, jq_0, jq_1, jq_2, jq_3, jq_4, jq_5, jq_6, jq_8, jq_12, jq_16, jq_20, jq_21, jq_24, jq_30, jq_32, jq_60, jq_84, jq_1000, jq_2436, jq_20001]
    exact a1
section
variable {d : Nat} {hx hm : jx_H}
theorem dm_keepM {N : jb_N} (w : jb_wf N) (m : jb_M hm N) {k : Nat} (hk : k ≤ 30) (e3 : hm.1 30 0 7 = nI k) : ∃ hm', DM (d + 2) 114 [vr 30 0] hm = some ([], hm') ∧ (∀ q, q ≠ 7 → hm'.1 30 0 q = hm.1 30 0 q) ∧ (∀ c, c ≠ 30 → c ≠ 38 → hm'.1 c = hm.1 c) ∧ hm'.1 30 0 7 = nI (min (k + 1) 30) ∧ jb_S hm' 38 (84 * (min (k + 1) 30 - 1)) N ∧ ∀ j, j < k → j + 1 < min (k + 1) 30 → ∀ q, q < 84 → hm'.1 38 0 (84 * (min (k + 1) 30 - 1 - (j + 1)) + q) = hm.1 38 0 (84 * (k - 1 - j) + q) := by
  rw [d114, e114_0, e3]
  by_cases c : k = 30
  · obtain ⟨h1, a1, a2, a3⟩ := dm_shift (d := d + 1) (h0 := hm) 2436 0 hm (by omega) (fun _ _ => rfl) (fun q hq => by omega) (fun _ _ => rfl)
    have m1 : jb_M (jx_sI h1 30 0 7 (nI 29)) N := by
      obtain ⟨n1, n2, n3, n4⟩ := m
      refine ⟨by rw [jx_sp (by decide), a2 30 (by decide)]; exact n1, by rw [jx_sp (by decide), a2 30 (by decide)]; exact n2, by rw [jx_sp (by decide), a2 30 (by decide)]; exact n3, ?_⟩
      rw [jx_sk (by decide), jx_sk (by decide), jx_sk (by decide), jx_sk (by decide), a2 33 (by decide), a2 34 (by decide), a2 35 (by decide), a2 36 (by decide)]
      exact n4
    obtain ⟨h2, b1, b2, b3⟩ := dm_savea (d := d) w m1 (a := 84 * 29) (by omega)
    have e7 : h1.1 30 0 7 - nI 1 = nI 29 := by
      rw [a2 30 (by decide), e3, c]
      rfl
    have e72 : h2.1 30 0 7 = nI 29 := by
      rw [b3.1 30 (by decide), jx_ss]
    have e30 : min (k + 1) 30 = 30 := by omega
    refine ⟨jx_sI h2 30 0 7 (nI 30), ?_, fun q hq => ?_, fun c h1 h2' => ?_, ?_, ?_, fun j h1 h2' q hq => ?_⟩
    · simp (disch := omega) only [jx_bI_s, jx_bL_s, jx_bV_s, eq_self, true_or, or_true, jx_if_t, jx_if_f, jq_b0, jq_b1, jq_bb, jq_b01, jx_if_in, jx_if_lt, jx_if_nlt, jx_if_le, jx_if_nle, jq_eqp, jq_eqn, nI_clamp, nI_add, pk_mul, jn_and, jn_or, jn_xor, jq_andn, jq_shl1, jq_bit, jq_mn, jq_mx, cond_true, cond_false, jq_jt, jq_jf, jq_e1, jq_e2, jq_e3, jq_e4, Bool.not_true, Bool.not_false, jq_0, jq_1, jq_2, jq_3, jq_4, jq_5, jq_6, jq_8, jq_12, jq_16, jq_20, jq_21, jq_24, jq_30, jq_32, jq_60, jq_84, jq_1000, jq_2436, jq_20001, a1, e7, e114_49, jx_ss, b1, e72]
    · rw [jx_sp hq, b3.1 30 (by decide), jx_sp hq, a2 30 (by decide)]
    · rw [jx_sk h1, b3.1 c h2', jx_sk h1, a2 c h2']
    · rw [jx_ss, e30]
    · rw [e30]
      exact b2.kept w.2.1 (fun q _ _ => by rw [jx_sk (by decide)])
    · rw [e30, jx_sk (by decide), b3.2 _ (by omega), jx_sk (by decide), a3 _ (by omega)]
      exact congrArg (hm.1 38 0) (by omega)
  · obtain ⟨h2, b1, b2, b3⟩ := dm_savea (d := d) w m (a := 84 * k) (by omega)
    have e72 : h2.1 30 0 7 = nI k := by
      rw [b3.1 30 (by decide), e3]
    have e30 : min (k + 1) 30 = k + 1 := by omega
    refine ⟨jx_sI h2 30 0 7 (nI (k + 1)), ?_, fun q hq => ?_, fun c h1 h2' => ?_, ?_, ?_, fun j h1 h2' q hq => ?_⟩
    · simp (disch := omega) only [jx_bI_s, jx_bL_s, jx_bV_s, eq_self, true_or, or_true, jx_if_t, jx_if_f, jq_b0, jq_b1, jq_bb, jq_b01, jx_if_in, jx_if_lt, jx_if_nlt, jx_if_le, jx_if_nle, jq_eqp, jq_eqn, nI_clamp, nI_add, pk_sub, pk_mul, jn_and, jn_or, jn_xor, jq_andn, jq_shl1, jq_bit, jq_mn, jq_mx, cond_true, cond_false, jq_jt, jq_jf, jq_e1, jq_e2, jq_e3, jq_e4, Bool.not_true, Bool.not_false, jq_0, jq_1, jq_2, jq_3, jq_4, jq_5, jq_6, jq_8, jq_12, jq_16, jq_20, jq_21, jq_24, jq_30, jq_32, jq_60, jq_84, jq_1000, jq_2436, jq_20001, e114_49, e3, b1, e72]
    · rw [jx_sp hq, b3.1 30 (by decide)]
    · rw [jx_sk h1, b3.1 c h2']
    · rw [jx_ss, e30]
    · rw [e30, Nat.add_sub_cancel]
      exact b2.kept w.2.1 (fun q _ _ => by rw [jx_sk (by decide)])
    · rw [e30, jx_sk (by decide), b3.2 _ (by omega)]
      exact congrArg (hm.1 38 0) (by omega)
theorem jb_rem (d : Nat) (I : jb_Inv hx hm) : ∃ hx' hm', DM (d + 39) 4 [vr 6 0, vr 1 0] hx = some ([], hx') ∧ DM (d + 39) 114 [vr 30 0] hm = some ([], hm') ∧ jb_Inv hx' hm' ∧ (∀ c i, c ≠ 6 → ¬ (1 ≤ c ∧ c ≤ 5 ∧ 1 ≤ i ∧ i ≤ 30) → hx'.1 c i = hx.1 c i) ∧ (∀ q, q ≠ 7 → hm'.1 30 0 q = hm.1 30 0 q) ∧ (∀ c, c ≠ 30 → c ≠ 38 → hm'.1 c = hm.1 c) := by
  obtain ⟨⟨N, w, xN, m⟩, ⟨x, k, x30, k30, e1, e2, e3, P⟩, sl, sh, wt, fd, z⟩ := I
  obtain ⟨h1, b1, b2, b3⟩ := dm_become (d := d + 37) (i0 := 1 + x) (i1 := 0) (by omega) w.2.1 xN
  obtain ⟨hm', c1, c2, c3, c4, c5, c6⟩ := dm_keepM (d := d + 37) w m k30 e3
  have f61 : h1.1 6 0 1 = nI x := by rw [b3 6 0 (by omega)]; exact e1
  have f62 : h1.1 6 0 2 = nI k := by rw [b3 6 0 (by omega)]; exact e2
  have fr : ∀ c i, c ≠ 6 → ¬ (1 ≤ c ∧ c ≤ 5 ∧ i = 1 + x) → (jx_sI (jx_sI h1 6 0 1 (nI ((x + 1) % 30))) 6 0 2 (nI (min (k + 1) 30))).1 c i = hx.1 c i := fun c i hc hi => by
    rw [jx_sk hc, jx_sk hc]
    exact b3 c i hi
  have fr' : ∀ c, c ≠ 6 → ¬ (1 ≤ c ∧ c ≤ 5) → (jx_sI (jx_sI h1 6 0 1 (nI ((x + 1) % 30))) 6 0 2 (nI (min (k + 1) 30))).1 c = hx.1 c := fun c hc hi => funext (fun i => fr c i hc (fun q => hi ⟨q.1, q.2.1⟩))
  refine ⟨jx_sI (jx_sI h1 6 0 1 (nI ((x + 1) % 30))) 6 0 2 (nI (min (k + 1) 30)), hm', ?_, c1, ?_, fun c i h1 h2 => fr c i h1 (by omega), c2, c3⟩
  · rw [d4, e4_0, e1]
    simp (disch := omega) only [jx_bI_s, jx_bL_s, jx_bV_s, eq_self, true_or, or_true, jx_if_t, jx_if_f, jq_b0, jq_b1, jq_bb, jq_b01, jx_if_in, jx_if_lt, jx_if_nlt, jx_if_le, jx_if_nle, jq_eqp, jq_eqn, nI_clamp, nI_add, pk_sub, pk_mul, jn_and, jn_or, jn_xor, jq_andn, jq_shl1, jq_bit, jq_mn, jq_mx, cond_true, cond_false, jq_jt, jq_jf, jq_e1, jq_e2, jq_e3, jq_e4, Bool.not_true, Bool.not_false, jq_0, jq_1, jq_2, jq_3, jq_4, jq_5, jq_6, jq_8, jq_12, jq_16, jq_20, jq_21, jq_24, jq_30, jq_32, jq_60, jq_84, jq_1000, jq_2436, jq_20001, b1, f61, f62, pk_rem]
  · refine ⟨⟨N, w, xN.kept (fun c h1 h2 => fr c 0 (by omega) (by omega)), ?_⟩, ?_, fun j hj => ?_, fun j hj => ?_, ?_, ?_, ?_⟩
    · obtain ⟨n1, n2, n3, n4⟩ := m
      refine ⟨(c2 0 (by decide)).trans n1, (c2 1 (by decide)).trans n2, (c2 2 (by decide)).trans n3, ?_⟩
      rw [c3 33 (by decide) (by decide), c3 34 (by decide) (by decide), c3 35 (by decide) (by decide), c3 36 (by decide) (by decide)]
      exact n4
    · refine ⟨(x + 1) % 30, min (k + 1) 30, by omega, by omega, by rw [jx_sp (by decide), jx_ss], jx_ss, c4, fun j hj => ?_⟩
      by_cases hj0 : j = 0
      · subst hj0
        refine ⟨N, w, ?_, c5⟩
        rw [show 1 + ((x + 1) % 30 + 29 - 0) % 30 = 1 + x by omega]
        exact b2.kept (fun c h1 h2 => by rw [jx_sk (by omega), jx_sk (by omega)])
      · obtain ⟨N', w', X', S'⟩ := P (j - 1) (by omega)
        refine ⟨N', w', ?_, ?_⟩
        · rw [show 1 + ((x + 1) % 30 + 29 - j) % 30 = 1 + (x + 29 - (j - 1)) % 30 by omega]
          exact X'.kept (fun c h1 h2 => fr c _ (by omega) (by omega))
        · refine S'.mv w'.2.1 (fun q hq => ?_)
          have := c6 (j - 1) (by omega) (by omega) q hq
          rw [show j - 1 + 1 = j by omega] at this
          exact this
    · exact (sl j hj).kept (fun c h1 h2 => fr c _ (by omega) (by omega)) (by rw [fr' 9 (by decide) (by omega)]) (fun q _ _ => by rw [c3 39 (by decide) (by decide)]) (by rw [c3 40 (by decide) (by decide)])
    · exact (sh j hj).kept (by rw [fr' 11 (by decide) (by omega)]) (by rw [fr' 12 (by decide) (by omega)]) (by rw [c3 41 (by decide) (by decide)]) (by rw [c3 42 (by decide) (by decide)]) (fun q _ _ => by rw [c3 43 (by decide) (by decide)])
    · exact wt.kept (by rw [fr' 0 (by decide) (by omega)]) (fr' 13 (by decide) (by omega)) (c2 14 (by decide)) (c3 45 (by decide) (by decide))
    · rw [fr' 0 (by decide) (by omega), c2 16 (by decide)]
      exact fd
    · exact z.kept (fun c h1 h2 => fr' c (by omega) (by omega))
/-- what a change begins with: the net is as it was -/
theorem jb_Inv.chg (d : Nat) (I : jb_Inv hx hm) {N : jb_N} (xN : jb_X hx 0 N) (m : jb_M hm N) : ∃ hx' hm', DM (d + 39) 4 [vr 6 0, vr 1 0] hx = some ([], hx') ∧ DM (d + 39) 114 [vr 30 0] hm = some ([], hm') ∧ jb_Inv hx' hm' ∧ jb_X hx' 0 N ∧ jb_M hm' N ∧ (∀ c, c ≠ 6 → ¬ (1 ≤ c ∧ c ≤ 5) → hx'.1 c = hx.1 c) ∧ (∀ q, q ≠ 7 → hm'.1 30 0 q = hm.1 30 0 q) ∧ (∀ c, c ≠ 30 → c ≠ 38 → hm'.1 c = hm.1 c) ∧ (∀ c i, 31 ≤ i → c ≠ 6 → hx'.1 c i = hx.1 c i) := by
  obtain ⟨hx', hm', a1, a2, a3, a4, a5, a6⟩ := jb_rem d I
  refine ⟨hx', hm', a1, a2, a3, xN.kept (fun c h1 h2 => a4 c 0 (by omega) (by omega)), ?_, fun c h1 h2 => funext (fun i => a4 c i h1 (fun q => h2 ⟨q.1, q.2.1⟩)), a5, a6, fun c i h1 h2 => a4 c i h2 (by omega)⟩
  obtain ⟨n1, n2, n3, n4⟩ := m
  refine ⟨(a5 0 (by decide)).trans n1, (a5 1 (by decide)).trans n2, (a5 2 (by decide)).trans n3, ?_⟩
  rw [a6 33 (by decide) (by decide), a6 34 (by decide) (by decide), a6 35 (by decide) (by decide), a6 36 (by decide) (by decide)]
  exact n4
theorem jt_0 (I : jb_Inv hx hm) (a : Int32) (ha : a = 0 ∨ a = 1) : jl_g d 3 113 [vi a] hx hm := by
  obtain ⟨N, w, x, m⟩ := I.1
  obtain ⟨hx', hm', a1, a2, I', x', m', _, _⟩ := I.chg d x m
  obtain ⟨b, rfl⟩ : ∃ b : Bool, a = jn_b b := ha.elim (fun e => ⟨false, e⟩) (fun e => ⟨true, e⟩)
  refine ⟨nI (jb_p N), jx_sI (jx_sI (jx_sI hx' 1 0 0 (nI 0)) 1 0 1 (nI 0)) 1 0 2 (jn_b b), jx_sI (jx_sI (jx_sI hm' 30 0 0 (nI 0)) 30 0 1 (nI 0)) 30 0 2 (jn_b b), ?_, ?_, ?_⟩
  · rw [d3, e3_0]
    simp (disch := omega) only [jx_bI_s, jx_bL_s, jx_bV_s, eq_self, true_or, or_true, jx_if_t, jx_if_f, jq_b0, jq_b1, jq_bb, jq_b01, jx_if_in, jx_if_lt, jx_if_nlt, jx_if_le, jx_if_nle, jq_eqp, jq_eqn, nI_clamp, nI_add, pk_sub, pk_mul, jn_and, jn_or, jn_xor, jq_andn, jq_shl1, jq_bit, jq_mn, jq_mx, cond_true, cond_false, jq_e1, jq_e2, jq_e3, jq_e4, Bool.not_true, Bool.not_false, jq_0, jq_1, jq_2, jq_3, jq_4, jq_5, jq_6, jq_8, jq_12, jq_16, jq_20, jq_21, jq_24, jq_30, jq_32, jq_60, jq_84, jq_1000, jq_2436, jq_20001, a1, x.1, d6, e6_0]
  · rw [d113, e113_0]
    simp (disch := omega) only [jx_bI_s, jx_bL_s, jx_bV_s, eq_self, true_or, or_true, jx_if_t, jx_if_f, jq_b0, jq_b1, jq_bb, jq_b01, jx_if_in, jx_if_lt, jx_if_nlt, jx_if_le, jx_if_nle, jq_eqp, jq_eqn, nI_clamp, nI_add, pk_sub, pk_mul, jn_and, jn_or, jn_xor, jq_andn, jq_shl1, jq_bit, jq_mn, jq_mx, cond_true, cond_false, jq_e1, jq_e2, jq_e3, jq_e4, Bool.not_true, Bool.not_false, jq_0, jq_1, jq_2, jq_3, jq_4, jq_5, jq_6, jq_8, jq_12, jq_16, jq_20, jq_21, jq_24, jq_30, jq_32, jq_60, jq_84, jq_1000, jq_2436, jq_20001, a2, m'.1]
  · refine I'.net (fun c i hc => ?_) (fun q hq => ?_) (fun c h1 h2 => ?_) ⟨(0, 0, b, fun _ => 0, fun _ => 0, fun _ => 0, fun _ => 0), ⟨Nat.zero_le _, Nat.zero_le _, fun r hr => absurd hr (Nat.not_lt_zero r)⟩, ⟨?_, ?_, ?_, fun r hr => absurd hr (Nat.not_lt_zero r)⟩, ?_, ?_, ?_, fun r hr => absurd hr (Nat.not_lt_zero r)⟩
    · by_cases e : c = 1
      · rw [jx_si (by omega), jx_si (by omega), jx_si (by omega)]
      · rw [jx_sk e, jx_sk e, jx_sk e]
    · rw [jx_sp (by omega), jx_sp (by omega), jx_sp (by omega)]
    · rw [jx_sk h1, jx_sk h1, jx_sk h1]
    · rw [jx_sp (by decide), jx_sp (by decide), jx_ss]
    · rw [jx_sp (by decide), jx_ss]
    · exact jx_ss
    · rw [jx_sp (by decide), jx_sp (by decide), jx_ss]
    · rw [jx_sp (by decide), jx_ss]
    · exact jx_ss
theorem jt_1 (I : jb_Inv hx hm) : jl_g d 7 116 [] hx hm := by
  obtain ⟨N, w, x, m⟩ := I.1
  have hp := w.1
  by_cases h8 : jb_p N = 8
  · refine ⟨-5, _, _, ?_, ?_, I.fd⟩
    · rw [d7, e7_0, x.1]
      simp (disch := omega) only [jx_bI_s, jx_bL_s, jx_bV_s, eq_self, true_or, or_true, jx_if_t, jx_if_f, jq_b0, jq_b1, jq_bb, jq_b01, jx_if_in, jx_if_lt, jx_if_nlt, jx_if_le, jx_if_nle, jq_eqp, jq_eqn, nI_clamp, nI_add, pk_sub, pk_mul, jn_and, jn_or, jn_xor, jq_andn, jq_shl1, jq_bit, jq_mn, jq_mx, cond_true, cond_false, jq_jt, jq_jf, jq_e1, jq_e2, jq_e3, jq_e4, Bool.not_true, Bool.not_false, jq_0, jq_1, jq_2, jq_3, jq_4, jq_5, jq_6, jq_8, jq_12, jq_16, jq_20, jq_21, jq_24, jq_30, jq_32, jq_60, jq_84, jq_1000, jq_2436, jq_20001, dm_fx]
    · rw [d116, e116_0, m.1]
      simp (disch := omega) only [jx_bI_s, jx_bL_s, jx_bV_s, eq_self, true_or, or_true, jx_if_t, jx_if_f, jq_b0, jq_b1, jq_bb, jq_b01, jx_if_in, jx_if_lt, jx_if_nlt, jx_if_le, jx_if_nle, jq_eqp, jq_eqn, nI_clamp, nI_add, pk_sub, pk_mul, jn_and, jn_or, jn_xor, jq_andn, jq_shl1, jq_bit, jq_mn, jq_mx, cond_true, cond_false, jq_jt, jq_jf, jq_e1, jq_e2, jq_e3, jq_e4, Bool.not_true, Bool.not_false, jq_0, jq_1, jq_2, jq_3, jq_4, jq_5, jq_6, jq_8, jq_12, jq_16, jq_20, jq_21, jq_24, jq_30, jq_32, jq_60, jq_84, jq_1000, jq_2436, jq_20001, dm_fm]
  · obtain ⟨hx', hm', a1, a2, I', x', m', _, _⟩ := I.chg d x m
    refine ⟨nI (jb_p N), jx_sI hx' 1 0 0 (nI (jb_p N + 1)), jx_sI hm' 30 0 0 (nI (jb_p N + 1)), ?_, ?_, ?_⟩
    · rw [d7, e7_0, x.1]
      simp (disch := omega) only [jx_bI_s, jx_bL_s, jx_bV_s, eq_self, true_or, or_true, jx_if_t, jx_if_f, jq_b0, jq_b1, jq_bb, jq_b01, jx_if_in, jx_if_lt, jx_if_nlt, jx_if_le, jx_if_nle, jq_eqp, jq_eqn, nI_clamp, nI_add, pk_sub, pk_mul, jn_and, jn_or, jn_xor, jq_andn, jq_shl1, jq_bit, jq_mn, jq_mx, cond_true, cond_false, jq_jt, jq_jf, jq_e1, jq_e2, jq_e3, jq_e4, Bool.not_true, Bool.not_false, jq_0, jq_1, jq_2, jq_3, jq_4, jq_5, jq_6, jq_8, jq_12, jq_16, jq_20, jq_21, jq_24, jq_30, jq_32, jq_60, jq_84, jq_1000, jq_2436, jq_20001, a1, d9, e9_0, x'.1, jx_ss, Nat.add_sub_cancel]
    · rw [d116, e116_0, m.1]
      simp (disch := omega) only [jx_bI_s, jx_bL_s, jx_bV_s, eq_self, true_or, or_true, jx_if_t, jx_if_f, jq_b0, jq_b1, jq_bb, jq_b01, jx_if_in, jx_if_lt, jx_if_nlt, jx_if_le, jx_if_nle, jq_eqp, jq_eqn, nI_clamp, nI_add, pk_sub, pk_mul, jn_and, jn_or, jn_xor, jq_andn, jq_shl1, jq_bit, jq_mn, jq_mx, cond_true, cond_false, jq_jt, jq_jf, jq_e1, jq_e2, jq_e3, jq_e4, Bool.not_true, Bool.not_false, jq_0, jq_1, jq_2, jq_3, jq_4, jq_5, jq_6, jq_8, jq_12, jq_16, jq_20, jq_21, jq_24, jq_30, jq_32, jq_60, jq_84, jq_1000, jq_2436, jq_20001, a2, m'.1, Nat.add_sub_cancel]
    · refine I'.net (fun c i hc => ?_) (fun q hq => jx_sp (by omega)) (fun c h1 h2 => jx_sk h1) ⟨(jb_p N + 1, N.2), ⟨by show jb_p N + 1 ≤ 8; omega, w.2.1, fun r hr => ?_⟩, ⟨jx_ss, ?_, ?_, ?_⟩, jx_ss, ?_, ?_, ?_⟩
      · by_cases e : c = 1
        · rw [jx_si (by omega)]
        · rw [jx_sk e]
      · obtain ⟨w1, w2, w3, w4, w5⟩ := w.2.2 r hr
        exact ⟨Nat.lt_succ_of_lt w1, Nat.lt_succ_of_lt w2, w3, w4, w5⟩
      · rw [jx_sp (by decide)]; exact x'.2.1
      · rw [jx_sp (by decide)]; exact x'.2.2.1
      · rw [jx_sk (by decide), jx_sk (by decide), jx_sk (by decide), jx_sk (by decide)]; exact x'.2.2.2
      · rw [jx_sp (by decide)]; exact m'.2.1
      · rw [jx_sp (by decide)]; exact m'.2.2.1
      · rw [jx_sk (by decide), jx_sk (by decide), jx_sk (by decide), jx_sk (by decide)]; exact m'.2.2.2
end
