/-! ===== layer 2: sheets ===== -/
section
variable {d : Nat} {hx hm : jx_H}
/-- a change of one sheet alone -/
theorem jb_Inv.shc {hx' hm' : jx_H} (I : jb_Inv hx hm) {s : Nat} (a : ∀ c i, ¬ ((c = 11 ∨ c = 12) ∧ i = s) → hx'.1 c i = hx.1 c i) (c : ∀ c, c ≠ 41 → c ≠ 42 → c ≠ 43 → c ≠ 47 → hm'.1 c = hm.1 c) (c41 : ∀ q, q ≠ s → hm'.1 41 0 q = hm.1 41 0 q ∧ hm'.1 42 0 q = hm.1 42 0 q) (c43 : ∀ q, q < 24 * s ∨ 24 * s + 24 ≤ q → hm'.1 43 0 q = hm.1 43 0 q) (n : jb_sheet hx' hm' s) : jb_Inv hx' hm' := by
  obtain ⟨⟨N, w, x, m⟩, p, sl, sh, wt, fd, z⟩ := I
  have a' : ∀ c, c ≠ 11 → c ≠ 12 → hx'.1 c = hx.1 c := fun c h1 h2 => funext (fun i => a c i (by omega))
  refine ⟨⟨N, w, x.kept (fun e h1 h2 => a e 0 (by omega)), ?_⟩, p.kept (fun i _ _ e h1 h2 => a e i (by omega)) (a' 6 (by decide) (by decide)) (by rw [c 30 (by decide) (by decide) (by decide) (by decide)]) (c 38 (by decide) (by decide) (by decide) (by decide)), fun j hj => (sl j hj).kept (fun e h1 h2 => a e _ (by omega)) (by rw [a' 9 (by decide) (by decide)]) (fun q _ _ => by rw [c 39 (by decide) (by decide) (by decide) (by decide)]) (by rw [c 40 (by decide) (by decide) (by decide) (by decide)]), fun j hj => ?_, wt.kept (by rw [a' 0 (by decide) (by decide)]) (a' 13 (by decide) (by decide)) (by rw [c 30 (by decide) (by decide) (by decide) (by decide)]) (c 45 (by decide) (by decide) (by decide) (by decide)), by rw [a' 0 (by decide) (by decide), c 30 (by decide) (by decide) (by decide) (by decide)]; exact fd, z.kept (fun e h1 h2 => a' e (by omega) (by omega))⟩
  · unfold jb_M at *
    rw [c 30 (by decide) (by decide) (by decide) (by decide), c 33 (by decide) (by decide) (by decide) (by decide), c 34 (by decide) (by decide) (by decide) (by decide), c 35 (by decide) (by decide) (by decide) (by decide), c 36 (by decide) (by decide) (by decide) (by decide)]
    exact m
  · by_cases e : j = s
    · rw [e]; exact n
    · exact (sh j hj).kept (a 11 j (by omega)) (a 12 j (by omega)) (c41 j e).1 (c41 j e).2 (fun q h1 h2 => c43 q (by omega))
theorem dm_zeroX {h0 : jx_H} {s z : Nat} (hz : z ≤ 24) : ∀ (k i : Nat) (h : jx_H), i + k = z → h.1 11 s 1 = nI z → (∀ c j, ¬ (c = 12 ∧ j = s) → h.1 c j = h0.1 c j) → (∀ q, q < i → h.1 12 s q = nI 0) → ∃ h', F28_20 (DM d) s (nI i) h = some ([vi (nI z)], h') ∧ (∀ c j, ¬ (c = 12 ∧ j = s) → h'.1 c j = h0.1 c j) ∧ ∀ q, q < z → h'.1 12 s q = nI 0 := by
  intro k
  induction k with
  | zero =>
    intro i h hi h1 f f2
    refine ⟨h, ?_, f, fun q hq => f2 q (by omega)⟩
    rw [e28_20, h1]
    simp (disch := omega) only [jx_bI_s, jx_bL_s, jx_bV_s, eq_self, true_or, or_true, jx_if_t, jx_if_f, jq_b0, jq_b1, jq_bb, jq_b01, jx_if_in, jx_if_lt, jx_if_nlt, jx_if_le, jx_if_nle, jq_eqp, jq_eqn, nI_clamp, nI_add, pk_sub, pk_mul, jn_and, jn_or, jn_xor, jq_andn, jq_shl1, jq_bit, jq_mn, jq_mx, cond_true, cond_false, jq_jt, jq_jf, jq_e1, jq_e2, jq_e3, jq_e4, Bool.not_true, Bool.not_false, jq_0, jq_1, jq_2, jq_3, jq_4, jq_5, jq_6, jq_8, jq_12, jq_16, jq_20, jq_21, jq_24, jq_30, jq_32, jq_60, jq_84, jq_1000, jq_2436, jq_20001]
  | succ k ih =>
    intro i h hi h1 f f2
    obtain ⟨h', a1, a2, a3⟩ := ih (i + 1) (jx_sI h 12 s i (nI 0)) (by omega) (by rw [jx_sk (by decide)]; exact h1) (fun c j hc => by
      by_cases e : c = 12
      · rw [jx_si (by omega)]; exact f c j hc
      · rw [jx_sk e]; exact f c j hc) (fun q hq => by
      rw [jx_sv]
      by_cases e : q = i
      · rw [if_pos e]
      · rw [if_neg e]; exact f2 q (by omega))
    refine ⟨h', ?_, a2, a3⟩
    rw [e28_20, h1]
    simp (disch := omega) only [jx_bI_s, jx_bL_s, jx_bV_s, eq_self, true_or, or_true, jx_if_t, jx_if_f, jq_b0, jq_b1, jq_bb, jq_b01, jx_if_in, jx_if_lt, jx_if_nlt, jx_if_le, jx_if_nle, jq_eqp, jq_eqn, nI_clamp, nI_add, pk_sub, pk_mul, jn_and, jn_or, jn_xor, jq_andn, jq_shl1, jq_bit, jq_mn, jq_mx, cond_true, cond_false, jq_jt, jq_jf, jq_e1, jq_e2, jq_e3, jq_e4, Bool.not_true, Bool.not_false, jq_0, jq_1, jq_2, jq_3, jq_4, jq_5, jq_6, jq_8, jq_12, jq_16, jq_20, jq_21, jq_24, jq_30, jq_32, jq_60, jq_84, jq_1000, jq_2436, jq_20001, e28_35]
    exact a1
theorem dm_zeroM {h0 : jx_H} {s z : Nat} (hs : s < 4) : ∀ (k i : Nat) (h : jx_H), i + k = 24 → h.1 42 0 s = nI z → (∀ c, c ≠ 43 → h.1 c = h0.1 c) → (∀ q, q < 24 * s ∨ 24 * s + 24 ≤ q → h.1 43 0 q = h0.1 43 0 q) → (∀ q, q < i → h.1 43 0 (24 * s + q) = nI 0) → ∃ h', F127_83 (DM d) (nI s) (nI i) h = some ([vi (nI z)], h') ∧ (∀ c, c ≠ 43 → h'.1 c = h0.1 c) ∧ (∀ q, q < 24 * s ∨ 24 * s + 24 ≤ q → h'.1 43 0 q = h0.1 43 0 q) ∧ ∀ q, q < 24 → h'.1 43 0 (24 * s + q) = nI 0 := by
  intro k
  induction k with
  | zero =>
    intro i h hi h1 f f2 f3
    refine ⟨h, ?_, f, f2, fun q hq => f3 q (by omega)⟩
    rw [e127_83]
    simp (disch := omega) only [jx_bI_s, jx_bL_s, jx_bV_s, eq_self, true_or, or_true, jx_if_t, jx_if_f, jq_b0, jq_b1, jq_bb, jq_b01, jx_if_in, jx_if_lt, jx_if_nlt, jx_if_le, jx_if_nle, jq_eqp, jq_eqn, nI_clamp, nI_add, pk_sub, pk_mul, jn_and, jn_or, jn_xor, jq_andn, jq_shl1, jq_bit, jq_mn, jq_mx, cond_true, cond_false, jq_jt, jq_jf, jq_e1, jq_e2, jq_e3, jq_e4, Bool.not_true, Bool.not_false, jq_0, jq_1, jq_2, jq_3, jq_4, jq_5, jq_6, jq_8, jq_12, jq_16, jq_20, jq_21, jq_24, jq_30, jq_32, jq_60, jq_84, jq_1000, jq_2436, jq_20001, h1]
  | succ k ih =>
    intro i h hi h1 f f2 f3
    obtain ⟨h', a1, a2, a3⟩ := ih (i + 1) (jx_sI h 43 0 (24 * s + i) (nI 0)) (by omega) (by rw [jx_sk (by decide)]; exact h1) (fun c hc => by rw [jx_sk hc]; exact f c hc) (fun q hq => by rw [jx_sp (by omega)]; exact f2 q hq) (fun q hq => by
      rw [jx_sv]
      by_cases e : q = i
      · rw [if_pos (by omega)]
      · rw [if_neg (by omega)]; exact f3 q (by omega))
    refine ⟨h', ?_, a2, a3⟩
    rw [e127_83]
    simp (disch := omega) only [jx_bI_s, jx_bL_s, jx_bV_s, eq_self, true_or, or_true, jx_if_t, jx_if_f, jq_b0, jq_b1, jq_bb, jq_b01, jx_if_in, jx_if_lt, jx_if_nlt, jx_if_le, jx_if_nle, jq_eqp, jq_eqn, nI_clamp, nI_add, pk_sub, pk_mul, jn_and, jn_or, jn_xor, jq_andn, jq_shl1, jq_bit, jq_mn, jq_mx, cond_true, cond_false, jq_jt, jq_jf, jq_e1, jq_e2, jq_e3, jq_e4, Bool.not_true, Bool.not_false, jq_0, jq_1, jq_2, jq_3, jq_4, jq_5, jq_6, jq_8, jq_12, jq_16, jq_20, jq_21, jq_24, jq_30, jq_32, jq_60, jq_84, jq_1000, jq_2436, jq_20001]
    exact a1
theorem jt_8 (I : jb_Inv hx hm) (a b n : Int32) : jl_g d 26 127 [vi a, vi b, vi n] hx hm := by
  cases ha : jb_ip 4 a
  · refine ⟨-1, _, _, ?_, ?_, I.fd⟩
    · rw [d26, e26_0]
      simp (disch := omega) only [jx_bI_s, jx_bL_s, jx_bV_s, eq_self, true_or, or_true, jx_if_t, jx_if_f, jq_b0, jq_b1, jq_bb, jq_b01, jx_if_in, jx_if_lt, jx_if_nlt, jx_if_le, jx_if_nle, jq_eqp, jq_eqn, nI_clamp, nI_add, pk_sub, pk_mul, jn_and, jn_or, jn_xor, jq_andn, jq_shl1, jq_bit, jq_mn, jq_mx, cond_true, cond_false, jq_jt, jq_jf, jq_e1, jq_e2, jq_e3, jq_e4, Bool.not_true, Bool.not_false, jq_0, jq_1, jq_2, jq_3, jq_4, jq_5, jq_6, jq_8, jq_12, jq_16, jq_20, jq_21, jq_24, jq_30, jq_32, jq_60, jq_84, jq_1000, jq_2436, jq_20001, dm_noSheet a, ha, e26_29, dm_fx]
    · rw [d127, e127_0]
      simp (disch := omega) only [jx_bI_s, jx_bL_s, jx_bV_s, eq_self, true_or, or_true, jx_if_t, jx_if_f, jq_b0, jq_b1, jq_bb, jq_b01, jx_if_in, jx_if_lt, jx_if_nlt, jx_if_le, jx_if_nle, jq_eqp, jq_eqn, nI_clamp, nI_add, pk_sub, pk_mul, jn_and, jn_or, jn_xor, jq_andn, jq_shl1, jq_bit, jq_mn, jq_mx, cond_true, cond_false, jq_jt, jq_jf, jq_e1, jq_e2, jq_e3, jq_e4, Bool.not_true, Bool.not_false, jq_0, jq_1, jq_2, jq_3, jq_4, jq_5, jq_6, jq_8, jq_12, jq_16, jq_20, jq_21, jq_24, jq_30, jq_32, jq_60, jq_84, jq_1000, jq_2436, jq_20001, dm_isSheet a, ha, e127_29, dm_fm]
  obtain ⟨s, hs, rfl⟩ := jb_ip_t (by omega) ha
  by_cases hb : b = nI 0 ∨ b = nI 8 ∨ b = nI 16 ∨ b = nI 32
  · have p1 : ∀ r, F26_35 (DM (d + 39)) (nI s) b n hx = r → DM (d + 40) 26 [vr 0 0, vi (nI s), vi b, vi n] hx = r := by
      intro r hr
      rw [d26, e26_0]
      rcases hb with rfl | rfl | rfl | rfl <;> simp (disch := omega) only [jx_bI_s, jx_bL_s, jx_bV_s, eq_self, true_or, or_true, jx_if_t, jx_if_f, jq_b0, jq_b1, jq_bb, jq_b01, jx_if_in, jx_if_lt, jx_if_nlt, jx_if_le, jx_if_nle, jq_eqp, jq_eqn, nI_clamp, nI_add, pk_sub, pk_mul, jn_and, jn_or, jn_xor, jq_andn, jq_shl1, jq_bit, jq_mn, jq_mx, cond_true, cond_false, jq_jt, jq_jf, jq_e1, jq_e2, jq_e3, jq_e4, Bool.not_true, Bool.not_false, jq_0, jq_1, jq_2, jq_3, jq_4, jq_5, jq_6, jq_8, jq_12, jq_16, jq_20, jq_21, jq_24, jq_30, jq_32, jq_60, jq_84, jq_1000, jq_2436, jq_20001, dm_noSheet _, ha] <;> exact hr
    have p2 : ∀ r, F127_35 (DM (d + 39)) (nI s) b n hm = r → DM (d + 40) 127 [vr 30 0, vi (nI s), vi b, vi n] hm = r := by
      intro r hr
      rw [d127, e127_0]
      rcases hb with rfl | rfl | rfl | rfl <;> simp (disch := omega) only [jx_bI_s, jx_bL_s, jx_bV_s, eq_self, true_or, or_true, jx_if_t, jx_if_f, jq_b0, jq_b1, jq_bb, jq_b01, jx_if_in, jx_if_lt, jx_if_nlt, jx_if_le, jx_if_nle, jq_eqp, jq_eqn, nI_clamp, nI_add, pk_sub, pk_mul, jn_and, jn_or, jn_xor, jq_andn, jq_shl1, jq_bit, jq_mn, jq_mx, cond_true, cond_false, jq_jt, jq_jf, jq_e1, jq_e2, jq_e3, jq_e4, Bool.not_true, Bool.not_false, jq_0, jq_1, jq_2, jq_3, jq_4, jq_5, jq_6, jq_8, jq_12, jq_16, jq_20, jq_21, jq_24, jq_30, jq_32, jq_60, jq_84, jq_1000, jq_2436, jq_20001, dm_isSheet _, ha] <;> exact hr
    by_cases n0 : n < 0
    · refine ⟨-3, _, _, p1 _ ?_, p2 _ ?_, I.fd⟩
      · rw [e26_35]
        simp (disch := omega) only [jx_bI_s, jx_bL_s, jx_bV_s, eq_self, true_or, or_true, jx_if_t, jx_if_f, jq_b0, jq_b1, jq_bb, jq_b01, jx_if_in, jx_if_lt, jx_if_nlt, jx_if_le, jx_if_nle, jq_eqp, jq_eqn, nI_clamp, nI_add, pk_sub, pk_mul, jn_and, jn_or, jn_xor, jq_andn, jq_shl1, jq_bit, jq_mn, jq_mx, cond_true, cond_false, jq_jt, jq_jf, jq_e1, jq_e2, jq_e3, jq_e4, Bool.not_true, Bool.not_false, jq_0, jq_1, jq_2, jq_3, jq_4, jq_5, jq_6, jq_8, jq_12, jq_16, jq_20, jq_21, jq_24, jq_30, jq_32, jq_60, jq_84, jq_1000, jq_2436, jq_20001, jx_ifp (show n < nI 0 from n0), dm_fx]
      · rw [e127_35]
        simp (disch := omega) only [jx_bI_s, jx_bL_s, jx_bV_s, eq_self, true_or, or_true, jx_if_t, jx_if_f, jq_b0, jq_b1, jq_bb, jq_b01, jx_if_in, jx_if_lt, jx_if_nlt, jx_if_le, jx_if_nle, jq_eqp, jq_eqn, nI_clamp, nI_add, pk_sub, pk_mul, jn_and, jn_or, jn_xor, jq_andn, jq_shl1, jq_bit, jq_mn, jq_mx, cond_true, cond_false, jq_jt, jq_jf, jq_e1, jq_e2, jq_e3, jq_e4, Bool.not_true, Bool.not_false, jq_0, jq_1, jq_2, jq_3, jq_4, jq_5, jq_6, jq_8, jq_12, jq_16, jq_20, jq_21, jq_24, jq_30, jq_32, jq_60, jq_84, jq_1000, jq_2436, jq_20001, jx_ifp (show n < nI 0 from n0), dm_fm]
    by_cases n24 : n ≤ 24
    · obtain ⟨k, hk, rfl⟩ := nI_of2 (x := n) (M := 24) (n := 24) (by decide) n0 n24
      obtain ⟨z, hz, hzb⟩ : ∃ z : Nat, z ≤ 24 ∧ ((b = nI 0 ∧ z = 0) ∨ (b ≠ nI 0 ∧ z = k)) := by
        by_cases c : b = nI 0
        · exact ⟨0, by omega, Or.inl ⟨c, rfl⟩⟩
        · exact ⟨k, hk, Or.inr ⟨c, rfl⟩⟩
      obtain ⟨h1, a1, a2, a3⟩ := dm_zeroX (d := d + 38) (h0 := jx_sI (jx_sI hx 11 s 0 b) 11 s 1 (nI z)) (s := s) hz z 0 _ (by omega) jx_ss (fun _ _ _ => rfl) (fun q hq => by omega)
      obtain ⟨g1, b1, b2, b3, b4⟩ := dm_zeroM (d := d + 39) (h0 := jx_sI (jx_sI hm 41 0 s b) 42 0 s (nI z)) (z := z) hs 24 0 _ (by omega) jx_ss (fun _ _ => rfl) (fun _ _ => rfl) (fun q hq => by omega)
      refine ⟨nI z, h1, g1, p1 _ ?_, p2 _ ?_, ?_⟩
      · rw [e26_35]
        rcases hzb with ⟨rfl, rfl⟩ | ⟨c, rfl⟩
        · simp (disch := omega) only [jx_bI_s, jx_bL_s, jx_bV_s, eq_self, true_or, or_true, jx_if_t, jx_if_f, jq_b0, jq_b1, jq_bb, jq_b01, jx_if_in, jx_if_lt, jx_if_nlt, jx_if_le, jx_if_nle, jq_eqp, jq_eqn, nI_clamp, nI_add, pk_sub, pk_mul, jn_and, jn_or, jn_xor, jq_andn, jq_shl1, jq_bit, jq_mn, jq_mx, cond_true, cond_false, jq_jt, jq_jf, jq_e1, jq_e2, jq_e3, jq_e4, Bool.not_true, Bool.not_false, jq_0, jq_1, jq_2, jq_3, jq_4, jq_5, jq_6, jq_8, jq_12, jq_16, jq_20, jq_21, jq_24, jq_30, jq_32, jq_60, jq_84, jq_1000, jq_2436, jq_20001, Nat.zero_add, d28, e28_0, e28_5, e28_15, e28_18, a1]
        · simp (disch := omega) only [jx_bI_s, jx_bL_s, jx_bV_s, eq_self, true_or, or_true, jx_if_t, jx_if_f, jq_b0, jq_b1, jq_bb, jq_b01, jx_if_in, jx_if_lt, jx_if_nlt, jx_if_le, jx_if_nle, jq_eqp, jq_eqn, nI_clamp, nI_add, pk_sub, pk_mul, jn_and, jn_or, jn_xor, jq_andn, jq_shl1, jq_bit, jq_mn, jq_mx, cond_true, cond_false, jq_jt, jq_jf, jq_e1, jq_e2, jq_e3, jq_e4, Bool.not_true, Bool.not_false, jq_0, jq_1, jq_2, jq_3, jq_4, jq_5, jq_6, jq_8, jq_12, jq_16, jq_20, jq_21, jq_24, jq_30, jq_32, jq_60, jq_84, jq_1000, jq_2436, jq_20001, Nat.zero_add, d28, e28_0, e28_5, jx_ifn c, e28_15, e28_18, a1]
      · rw [e127_35]
        rcases hzb with ⟨rfl, rfl⟩ | ⟨c, rfl⟩
        · simp (disch := omega) only [jx_bI_s, jx_bL_s, jx_bV_s, eq_self, true_or, or_true, jx_if_t, jx_if_f, jq_b0, jq_b1, jq_bb, jq_b01, jx_if_in, jx_if_lt, jx_if_nlt, jx_if_le, jx_if_nle, jq_eqp, jq_eqn, nI_clamp, nI_add, pk_sub, pk_mul, jn_and, jn_or, jn_xor, jq_andn, jq_shl1, jq_bit, jq_mn, jq_mx, cond_true, cond_false, jq_jt, jq_jf, jq_e1, jq_e2, jq_e3, jq_e4, Bool.not_true, Bool.not_false, jq_0, jq_1, jq_2, jq_3, jq_4, jq_5, jq_6, jq_8, jq_12, jq_16, jq_20, jq_21, jq_24, jq_30, jq_32, jq_60, jq_84, jq_1000, jq_2436, jq_20001, e127_79]
          exact b1
        · simp (disch := omega) only [jx_bI_s, jx_bL_s, jx_bV_s, eq_self, true_or, or_true, jx_if_t, jx_if_f, jq_b0, jq_b1, jq_bb, jq_b01, jx_if_in, jx_if_lt, jx_if_nlt, jx_if_le, jx_if_nle, jq_eqp, jq_eqn, nI_clamp, nI_add, pk_sub, pk_mul, jn_and, jn_or, jn_xor, jq_andn, jq_shl1, jq_bit, jq_mn, jq_mx, cond_true, cond_false, jq_jt, jq_jf, jq_e1, jq_e2, jq_e3, jq_e4, Bool.not_true, Bool.not_false, jq_0, jq_1, jq_2, jq_3, jq_4, jq_5, jq_6, jq_8, jq_12, jq_16, jq_20, jq_21, jq_24, jq_30, jq_32, jq_60, jq_84, jq_1000, jq_2436, jq_20001, jx_ifn c, e127_79]
          exact b1
      · refine I.shc (s := s) (fun c i hc => ?_) (fun c h1 h2 h3 _ => ?_) (fun q hq => ?_) (fun q hq => ?_) ⟨z, hz, ?_, ?_, ?_, ?_, fun i hi => Or.inl ?_⟩
        · rw [a2 c i (by omega)]
          by_cases e : c = 11
          · rw [jx_si (by omega), jx_si (by omega)]
          · rw [jx_sk e, jx_sk e]
        · rw [b2 c h3, jx_sk h2, jx_sk h1]
        · rw [b2 41 (by decide), b2 42 (by decide), jx_sk (by decide), jx_sp hq, jx_sp hq, jx_sk (by decide)]
          exact ⟨rfl, rfl⟩
        · rw [b3 q hq, jx_sk (by decide), jx_sk (by decide)]
        · rw [a2 11 s (by omega), jx_sp (by decide), jx_ss]
          rcases hb with rfl | rfl | rfl | rfl
          · exact Or.inl rfl
          · exact Or.inr (Or.inl rfl)
          · exact Or.inr (Or.inr (Or.inl rfl))
          · exact Or.inr (Or.inr (Or.inr rfl))
        · rw [a2 11 s (by omega), b2 41 (by decide), jx_sk (show 41 ≠ 42 by decide), jx_ss, jx_sp (show 0 ≠ 1 by decide), jx_ss]
        · rw [a2 11 s (by omega), jx_ss]
        · rw [b2 42 (by decide), jx_ss]
        · rw [a3 i hi, b4 i (by omega)]
    · refine ⟨-1, _, _, p1 _ ?_, p2 _ ?_, I.fd⟩
      · rw [e26_35]
        simp (disch := omega) only [jx_bI_s, jx_bL_s, jx_bV_s, eq_self, true_or, or_true, jx_if_t, jx_if_f, jq_b0, jq_b1, jq_bb, jq_b01, jx_if_in, jx_if_lt, jx_if_nlt, jx_if_le, jx_if_nle, jq_eqp, jq_eqn, nI_clamp, nI_add, pk_sub, pk_mul, jn_and, jn_or, jn_xor, jq_andn, jq_shl1, jq_bit, jq_mn, jq_mx, cond_true, cond_false, jq_jt, jq_jf, jq_e1, jq_e2, jq_e3, jq_e4, Bool.not_true, Bool.not_false, jq_0, jq_1, jq_2, jq_3, jq_4, jq_5, jq_6, jq_8, jq_12, jq_16, jq_20, jq_21, jq_24, jq_30, jq_32, jq_60, jq_84, jq_1000, jq_2436, jq_20001, jx_ifn (show ¬ n < nI 0 from n0), jx_ifn (show ¬ n ≤ nI 24 from n24), dm_fx]
      · rw [e127_35]
        simp (disch := omega) only [jx_bI_s, jx_bL_s, jx_bV_s, eq_self, true_or, or_true, jx_if_t, jx_if_f, jq_b0, jq_b1, jq_bb, jq_b01, jx_if_in, jx_if_lt, jx_if_nlt, jx_if_le, jx_if_nle, jq_eqp, jq_eqn, nI_clamp, nI_add, pk_sub, pk_mul, jn_and, jn_or, jn_xor, jq_andn, jq_shl1, jq_bit, jq_mn, jq_mx, cond_true, cond_false, jq_jt, jq_jf, jq_e1, jq_e2, jq_e3, jq_e4, Bool.not_true, Bool.not_false, jq_0, jq_1, jq_2, jq_3, jq_4, jq_5, jq_6, jq_8, jq_12, jq_16, jq_20, jq_21, jq_24, jq_30, jq_32, jq_60, jq_84, jq_1000, jq_2436, jq_20001, jx_ifn (show ¬ n < nI 0 from n0), jx_ifn (show ¬ n ≤ nI 24 from n24), dm_fm]
  · have n1 : ¬ b = nI 0 := fun c => hb (Or.inl c)
    have n2 : ¬ b = nI 8 := fun c => hb (Or.inr (Or.inl c))
    have n3 : ¬ b = nI 16 := fun c => hb (Or.inr (Or.inr (Or.inl c)))
    have n4 : ¬ b = nI 32 := fun c => hb (Or.inr (Or.inr (Or.inr c)))
    refine ⟨-1, _, _, ?_, ?_, I.fd⟩
    · rw [d26, e26_0]
      simp (disch := omega) only [jx_bI_s, jx_bL_s, jx_bV_s, eq_self, true_or, or_true, jx_if_t, jx_if_f, jq_b0, jq_b1, jq_bb, jq_b01, jx_if_in, jx_if_lt, jx_if_nlt, jx_if_le, jx_if_nle, jq_eqp, jq_eqn, nI_clamp, nI_add, pk_sub, pk_mul, jn_and, jn_or, jn_xor, jq_andn, jq_shl1, jq_bit, jq_mn, jq_mx, cond_true, cond_false, jq_jt, jq_jf, jq_e1, jq_e2, jq_e3, jq_e4, Bool.not_true, Bool.not_false, jq_0, jq_1, jq_2, jq_3, jq_4, jq_5, jq_6, jq_8, jq_12, jq_16, jq_20, jq_21, jq_24, jq_30, jq_32, jq_60, jq_84, jq_1000, jq_2436, jq_20001, dm_noSheet _, ha, jx_ifn n1, jx_ifn n2, jx_ifn n3, jx_ifn n4, e26_29, dm_fx]
    · rw [d127, e127_0]
      simp (disch := omega) only [jx_bI_s, jx_bL_s, jx_bV_s, eq_self, true_or, or_true, jx_if_t, jx_if_f, jq_b0, jq_b1, jq_bb, jq_b01, jx_if_in, jx_if_lt, jx_if_nlt, jx_if_le, jx_if_nle, jq_eqp, jq_eqn, nI_clamp, nI_add, pk_sub, pk_mul, jn_and, jn_or, jn_xor, jq_andn, jq_shl1, jq_bit, jq_mn, jq_mx, cond_true, cond_false, jq_jt, jq_jf, jq_e1, jq_e2, jq_e3, jq_e4, Bool.not_true, Bool.not_false, jq_0, jq_1, jq_2, jq_3, jq_4, jq_5, jq_6, jq_8, jq_12, jq_16, jq_20, jq_21, jq_24, jq_30, jq_32, jq_60, jq_84, jq_1000, jq_2436, jq_20001, dm_isSheet _, ha, jx_ifn n1, jx_ifn n2, jx_ifn n3, jx_ifn n4, e127_29, dm_fm]
/-- bits cut off -/
theorem jn_bm8 (v : Int32) : jb_same (v &&& nI (2 ^ 8 - 1)) v.toInt8.toInt32 := by
  have e1 : v &&& nI (2 ^ 8 - 1) = nI (v.toBitVec.toNat % 2 ^ 8) := pk_and v 8 (by decide)
  have e2 : (v.toInt8.toInt32).toInt = v.toInt.bmod (2 ^ 8) := by
    rw [Int8.toInt_toInt32, Int32.toInt_toInt8]
  have e3 : v.toInt = v.toBitVec.toInt := rfl
  have hl := v.toBitVec.isLt
  have e4 : (nI (v.toBitVec.toNat % 2 ^ 8)).toInt = ((v.toBitVec.toNat % 2 ^ 8 : Nat) : Int) := nI_toInt (by omega)
  rw [e1]
  rw [BitVec.toInt_eq_toNat_cond] at e3
  rw [Int.bmod_def] at e2
  have c0 : (0 : Int32).toInt = 0 := by decide
  have c8 : (8 : Int32).toInt = 8 := by decide
  by_cases c : v.toBitVec.toNat % 2 ^ 8 < 128
  · left
    apply Int32.toInt_inj.1
    rw [e4]
    split at e3 <;> split at e2 <;> omega
  · right
    rw [Int32.lt_iff_toInt_lt, Int32.le_iff_toInt_le, Int32.lt_iff_toInt_lt, Int32.le_iff_toInt_le, e4, c0, c8]
    split at e3 <;> split at e2 <;> omega
theorem jn_bm16 (v : Int32) : jb_same (v &&& nI (2 ^ 16 - 1)) v.toInt16.toInt32 := by
  have e1 : v &&& nI (2 ^ 16 - 1) = nI (v.toBitVec.toNat % 2 ^ 16) := pk_and v 16 (by decide)
  have e2 : (v.toInt16.toInt32).toInt = v.toInt.bmod (2 ^ 16) := by
    rw [Int16.toInt_toInt32, Int32.toInt_toInt16]
  have e3 : v.toInt = v.toBitVec.toInt := rfl
  have hl := v.toBitVec.isLt
  have e4 : (nI (v.toBitVec.toNat % 2 ^ 16)).toInt = ((v.toBitVec.toNat % 2 ^ 16 : Nat) : Int) := nI_toInt (by omega)
  rw [e1]
  rw [BitVec.toInt_eq_toNat_cond] at e3
  rw [Int.bmod_def] at e2
  have c0 : (0 : Int32).toInt = 0 := by decide
  have c8 : (8 : Int32).toInt = 8 := by decide
  by_cases c : v.toBitVec.toNat % 2 ^ 16 < 32768
  · left
    apply Int32.toInt_inj.1
    rw [e4]
    split at e3 <;> split at e2 <;> omega
  · right
    rw [Int32.lt_iff_toInt_lt, Int32.le_iff_toInt_le, Int32.lt_iff_toInt_lt, Int32.le_iff_toInt_le, e4, c0, c8]
    split at e3 <;> split at e2 <;> omega
theorem dm_miss (s : Nat) (h : jx_H) {b : Int32} (e : h.1 11 s 0 = b) (hb : b = 0 ∨ b = 8 ∨ b = 16 ∨ b = 32) : DM (d + 1) 30 [vr 11 s] h = some ([vi (jn_b (decide (b = 0)))], h) := by
  rw [d30, e30_0, e]
  rcases hb with rfl | rfl | rfl | rfl
  · simp (disch := omega) only [jx_bI_s, jx_bL_s, jx_bV_s, eq_self, true_or, or_true, jx_if_t, jx_if_f, jq_b0, jq_b1, jq_bb, jq_b01, jx_if_in, jx_if_lt, jx_if_nlt, jx_if_le, jx_if_nle, jq_eqp, jq_eqn, nI_clamp, nI_add, pk_sub, pk_mul, jn_and, jn_or, jn_xor, jq_andn, jq_shl1, jq_bit, jq_mn, jq_mx, cond_true, cond_false, jq_jt, jq_jf, jq_e1, jq_e2, jq_e3, jq_e4, Bool.not_true, Bool.not_false, jq_0, jq_1, jq_2, jq_3, jq_4, jq_5, jq_6, jq_8, jq_12, jq_16, jq_20, jq_21, jq_24, jq_30, jq_32, jq_60, jq_84, jq_1000, jq_2436, jq_20001, e30_12]
    rfl
  · simp (disch := omega) only [jx_bI_s, jx_bL_s, jx_bV_s, eq_self, true_or, or_true, jx_if_t, jx_if_f, jq_b0, jq_b1, jq_bb, jq_b01, jx_if_in, jx_if_lt, jx_if_nlt, jx_if_le, jx_if_nle, jq_eqp, jq_eqn, nI_clamp, nI_add, pk_sub, pk_mul, jn_and, jn_or, jn_xor, jq_andn, jq_shl1, jq_bit, jq_mn, jq_mx, cond_true, cond_false, jq_jt, jq_jf, jq_e1, jq_e2, jq_e3, jq_e4, Bool.not_true, Bool.not_false, jq_0, jq_1, jq_2, jq_3, jq_4, jq_5, jq_6, jq_8, jq_12, jq_16, jq_20, jq_21, jq_24, jq_30, jq_32, jq_60, jq_84, jq_1000, jq_2436, jq_20001, e30_12]
    rfl
  · simp (disch := omega) only [jx_bI_s, jx_bL_s, jx_bV_s, eq_self, true_or, or_true, jx_if_t, jx_if_f, jq_b0, jq_b1, jq_bb, jq_b01, jx_if_in, jx_if_lt, jx_if_nlt, jx_if_le, jx_if_nle, jq_eqp, jq_eqn, nI_clamp, nI_add, pk_sub, pk_mul, jn_and, jn_or, jn_xor, jq_andn, jq_shl1, jq_bit, jq_mn, jq_mx, cond_true, cond_false, jq_jt, jq_jf, jq_e1, jq_e2, jq_e3, jq_e4, Bool.not_true, Bool.not_false, jq_0, jq_1, jq_2, jq_3, jq_4, jq_5, jq_6, jq_8, jq_12, jq_16, jq_20, jq_21, jq_24, jq_30, jq_32, jq_60, jq_84, jq_1000, jq_2436, jq_20001, e30_12]
    rfl
  · simp (disch := omega) only [jx_bI_s, jx_bL_s, jx_bV_s, eq_self, true_or, or_true, jx_if_t, jx_if_f, jq_b0, jq_b1, jq_bb, jq_b01, jx_if_in, jx_if_lt, jx_if_nlt, jx_if_le, jx_if_nle, jq_eqp, jq_eqn, nI_clamp, nI_add, pk_sub, pk_mul, jn_and, jn_or, jn_xor, jq_andn, jq_shl1, jq_bit, jq_mn, jq_mx, cond_true, cond_false, jq_jt, jq_jf, jq_e1, jq_e2, jq_e3, jq_e4, Bool.not_true, Bool.not_false, jq_0, jq_1, jq_2, jq_3, jq_4, jq_5, jq_6, jq_8, jq_12, jq_16, jq_20, jq_21, jq_24, jq_30, jq_32, jq_60, jq_84, jq_1000, jq_2436, jq_20001, e30_12]
    rfl
theorem jt_9 (I : jb_Inv hx hm) (a i v : Int32) : jl_g d 29 129 [vi a, vi i, vi v] hx hm := by
  cases ha : jb_ip 4 a
  · refine ⟨-1, _, _, ?_, ?_, I.fd⟩
    · rw [d29, e29_0]
      simp (disch := omega) only [jx_bI_s, jx_bL_s, jx_bV_s, eq_self, true_or, or_true, jx_if_t, jx_if_f, jq_b0, jq_b1, jq_bb, jq_b01, jx_if_in, jx_if_lt, jx_if_nlt, jx_if_le, jx_if_nle, jq_eqp, jq_eqn, nI_clamp, nI_add, pk_sub, pk_mul, jn_and, jn_or, jn_xor, jq_andn, jq_shl1, jq_bit, jq_mn, jq_mx, cond_true, cond_false, jq_jt, jq_jf, jq_e1, jq_e2, jq_e3, jq_e4, Bool.not_true, Bool.not_false, jq_0, jq_1, jq_2, jq_3, jq_4, jq_5, jq_6, jq_8, jq_12, jq_16, jq_20, jq_21, jq_24, jq_30, jq_32, jq_60, jq_84, jq_1000, jq_2436, jq_20001, dm_noSheet a, ha, dm_fx]
    · rw [d129, e129_0]
      simp (disch := omega) only [jx_bI_s, jx_bL_s, jx_bV_s, eq_self, true_or, or_true, jx_if_t, jx_if_f, jq_b0, jq_b1, jq_bb, jq_b01, jx_if_in, jx_if_lt, jx_if_nlt, jx_if_le, jx_if_nle, jq_eqp, jq_eqn, nI_clamp, nI_add, pk_sub, pk_mul, jn_and, jn_or, jn_xor, jq_andn, jq_shl1, jq_bit, jq_mn, jq_mx, cond_true, cond_false, jq_jt, jq_jf, jq_e1, jq_e2, jq_e3, jq_e4, Bool.not_true, Bool.not_false, jq_0, jq_1, jq_2, jq_3, jq_4, jq_5, jq_6, jq_8, jq_12, jq_16, jq_20, jq_21, jq_24, jq_30, jq_32, jq_60, jq_84, jq_1000, jq_2436, jq_20001, dm_isSheet a, ha, dm_fm]
  obtain ⟨s, hs, rfl⟩ := jb_ip_t (by omega) ha
  obtain ⟨z, hz, hb, t3, t4, t5, t6⟩ := I.2.2.2.1 s hs
  generalize hbe : hx.1 11 s 0 = b at hb t3
  have ms := dm_miss (d := d + 38) s hx hbe hb
  by_cases b0 : b = 0
  · subst b0
    refine ⟨-2, _, _, ?_, ?_, I.fd⟩
    · rw [d29, e29_0]
      simp (disch := omega) only [jx_bI_s, jx_bL_s, jx_bV_s, eq_self, true_or, or_true, jx_if_t, jx_if_f, jq_b0, jq_b1, jq_bb, jq_b01, jx_if_in, jx_if_lt, jx_if_nlt, jx_if_le, jx_if_nle, jq_eqp, jq_eqn, nI_clamp, nI_add, pk_sub, pk_mul, jn_and, jn_or, jn_xor, jq_andn, jq_shl1, jq_bit, jq_mn, jq_mx, cond_true, cond_false, jq_jt, jq_jf, jq_e1, jq_e2, jq_e3, jq_e4, Bool.not_true, Bool.not_false, jq_0, jq_1, jq_2, jq_3, jq_4, jq_5, jq_6, jq_8, jq_12, jq_16, jq_20, jq_21, jq_24, jq_30, jq_32, jq_60, jq_84, jq_1000, jq_2436, jq_20001, dm_noSheet _, ha, Nat.zero_add]
      rw [ms]
      simp (disch := omega) only [jx_bI_s, jx_bL_s, jx_bV_s, eq_self, true_or, or_true, jx_if_t, jx_if_f, jq_b0, jq_b1, jq_bb, jq_b01, jx_if_in, jx_if_lt, jx_if_nlt, jx_if_le, jx_if_nle, jq_eqp, jq_eqn, nI_clamp, nI_add, pk_sub, pk_mul, jn_and, jn_or, jn_xor, jq_andn, jq_shl1, jq_bit, jq_mn, jq_mx, cond_true, cond_false, jq_jt, jq_jf, jq_e1, jq_e2, jq_e3, jq_e4, Bool.not_true, Bool.not_false, jq_0, jq_1, jq_2, jq_3, jq_4, jq_5, jq_6, jq_8, jq_12, jq_16, jq_20, jq_21, jq_24, jq_30, jq_32, jq_60, jq_84, jq_1000, jq_2436, jq_20001, dm_fx, decide_true]
    · rw [d129, e129_0]
      simp (disch := omega) only [jx_bI_s, jx_bL_s, jx_bV_s, eq_self, true_or, or_true, jx_if_t, jx_if_f, jq_b0, jq_b1, jq_bb, jq_b01, jx_if_in, jx_if_lt, jx_if_nlt, jx_if_le, jx_if_nle, jq_eqp, jq_eqn, nI_clamp, nI_add, pk_sub, pk_mul, jn_and, jn_or, jn_xor, jq_andn, jq_shl1, jq_bit, jq_mn, jq_mx, cond_true, cond_false, jq_jt, jq_jf, jq_e1, jq_e2, jq_e3, jq_e4, Bool.not_true, Bool.not_false, jq_0, jq_1, jq_2, jq_3, jq_4, jq_5, jq_6, jq_8, jq_12, jq_16, jq_20, jq_21, jq_24, jq_30, jq_32, jq_60, jq_84, jq_1000, jq_2436, jq_20001, dm_isSheet _, ha, t3, dm_fm]
  have bn : ¬ b = nI 0 := b0
  rw [decide_eq_false b0] at ms
  rcases pk_ix i (n := z) (by omega) with c | c | ⟨j, hj, rfl⟩
  · refine ⟨-1, _, _, ?_, ?_, I.fd⟩
    · rw [d29, e29_0]
      simp (disch := omega) only [jx_bI_s, jx_bL_s, jx_bV_s, eq_self, true_or, or_true, jx_if_t, jx_if_f, jq_b0, jq_b1, jq_bb, jq_b01, jx_if_in, jx_if_lt, jx_if_nlt, jx_if_le, jx_if_nle, jq_eqp, jq_eqn, nI_clamp, nI_add, pk_sub, pk_mul, jn_and, jn_or, jn_xor, jq_andn, jq_shl1, jq_bit, jq_mn, jq_mx, cond_true, cond_false, jq_jt, jq_jf, jq_e1, jq_e2, jq_e3, jq_e4, Bool.not_true, Bool.not_false, jq_0, jq_1, jq_2, jq_3, jq_4, jq_5, jq_6, jq_8, jq_12, jq_16, jq_20, jq_21, jq_24, jq_30, jq_32, jq_60, jq_84, jq_1000, jq_2436, jq_20001, dm_noSheet _, ha, Nat.zero_add, ms, jx_ifp (show i < nI 0 from c), e29_49, dm_fx]
    · rw [d129, e129_0]
      simp (disch := omega) only [jx_bI_s, jx_bL_s, jx_bV_s, eq_self, true_or, or_true, jx_if_t, jx_if_f, jq_b0, jq_b1, jq_bb, jq_b01, jx_if_in, jx_if_lt, jx_if_nlt, jx_if_le, jx_if_nle, jq_eqp, jq_eqn, nI_clamp, nI_add, pk_sub, pk_mul, jn_and, jn_or, jn_xor, jq_andn, jq_shl1, jq_bit, jq_mn, jq_mx, cond_true, cond_false, jq_jt, jq_jf, jq_e1, jq_e2, jq_e3, jq_e4, Bool.not_true, Bool.not_false, jq_0, jq_1, jq_2, jq_3, jq_4, jq_5, jq_6, jq_8, jq_12, jq_16, jq_20, jq_21, jq_24, jq_30, jq_32, jq_60, jq_84, jq_1000, jq_2436, jq_20001, dm_isSheet _, ha, t3, jx_ifn bn, jx_ifp (show i < nI 0 from c), e129_43, dm_fm]
  · have c0 : ¬ i < nI 0 := fun k => by
      have h1 := Int32.lt_iff_toInt_lt.1 k
      have h2 := Int32.le_iff_toInt_le.1 c
      have e0 : (nI 0).toInt = 0 := by decide
      have e1 : (nI z).toInt = z := nI_toInt (by omega)
      omega
    have cz : ¬ i < nI z := fun k => by
      have h1 := Int32.lt_iff_toInt_lt.1 k
      have h2 := Int32.le_iff_toInt_le.1 c
      omega
    refine ⟨-1, _, _, ?_, ?_, I.fd⟩
    · rw [d29, e29_0]
      simp (disch := omega) only [jx_bI_s, jx_bL_s, jx_bV_s, eq_self, true_or, or_true, jx_if_t, jx_if_f, jq_b0, jq_b1, jq_bb, jq_b01, jx_if_in, jx_if_lt, jx_if_nlt, jx_if_le, jx_if_nle, jq_eqp, jq_eqn, nI_clamp, nI_add, pk_sub, pk_mul, jn_and, jn_or, jn_xor, jq_andn, jq_shl1, jq_bit, jq_mn, jq_mx, cond_true, cond_false, jq_jt, jq_jf, jq_e1, jq_e2, jq_e3, jq_e4, Bool.not_true, Bool.not_false, jq_0, jq_1, jq_2, jq_3, jq_4, jq_5, jq_6, jq_8, jq_12, jq_16, jq_20, jq_21, jq_24, jq_30, jq_32, jq_60, jq_84, jq_1000, jq_2436, jq_20001, dm_noSheet _, ha, Nat.zero_add, ms, t4, jx_ifn c0, jx_ifn cz, e29_49, dm_fx]
    · rw [d129, e129_0]
      simp (disch := omega) only [jx_bI_s, jx_bL_s, jx_bV_s, eq_self, true_or, or_true, jx_if_t, jx_if_f, jq_b0, jq_b1, jq_bb, jq_b01, jx_if_in, jx_if_lt, jx_if_nlt, jx_if_le, jx_if_nle, jq_eqp, jq_eqn, nI_clamp, nI_add, pk_sub, pk_mul, jn_and, jn_or, jn_xor, jq_andn, jq_shl1, jq_bit, jq_mn, jq_mx, cond_true, cond_false, jq_jt, jq_jf, jq_e1, jq_e2, jq_e3, jq_e4, Bool.not_true, Bool.not_false, jq_0, jq_1, jq_2, jq_3, jq_4, jq_5, jq_6, jq_8, jq_12, jq_16, jq_20, jq_21, jq_24, jq_30, jq_32, jq_60, jq_84, jq_1000, jq_2436, jq_20001, dm_isSheet _, ha, t3, t5, jx_ifn bn, jx_ifn c0, jx_ifn cz, e129_43, dm_fm]
  · have fin : ∀ u u', jb_same u u' → jb_Inv (jx_sI hx 12 s j u) (jx_sI hm 43 0 (24 * s + j) u') := fun u u' hu => by
      refine I.shc (s := s) (fun c i hc => ?_) (fun c h1 h2 h3 _ => jx_sk h3) (fun q hq => ⟨by rw [jx_sk (by decide)], by rw [jx_sk (by decide)]⟩) (fun q hq => jx_sp (by omega)) ⟨z, hz, by rw [jx_sk (by decide), hbe]; exact hb, by rw [jx_sk (by decide), jx_sk (by decide), t3, hbe], by rw [jx_sk (by decide)]; exact t4, by rw [jx_sk (by decide)]; exact t5, fun q hq => ?_⟩
      · by_cases e : c = 12
        · rw [jx_si (by omega)]
        · rw [jx_sk e]
      · rw [jx_sv, jx_sv]
        by_cases e : q = j
        · rw [if_pos e, if_pos (by omega)]
          exact hu
        · rw [if_neg e, if_neg (by omega)]
          exact t6 q hq
    rcases hb with rfl | rfl | rfl | rfl
    · exact absurd rfl b0
    · refine ⟨nI 0, _, _, ?_, ?_, fin (v &&& nI (2 ^ 8 - 1)) v.toInt8.toInt32 (jn_bm8 v)⟩
      · rw [d29, e29_0]
        simp (disch := omega) only [jx_bI_s, jx_bL_s, jx_bV_s, eq_self, true_or, or_true, jx_if_t, jx_if_f, jq_b0, jq_b1, jq_bb, jq_b01, jx_if_in, jx_if_lt, jx_if_nlt, jx_if_le, jx_if_nle, jq_eqp, jq_eqn, nI_clamp, nI_add, pk_sub, pk_mul, jn_and, jn_or, jn_xor, jq_andn, jq_shl1, jq_bit, jq_mn, jq_mx, cond_true, cond_false, jq_jt, jq_jf, jq_e1, jq_e2, jq_e3, jq_e4, Bool.not_true, Bool.not_false, jq_0, jq_1, jq_2, jq_3, jq_4, jq_5, jq_6, jq_8, jq_12, jq_16, jq_20, jq_21, jq_24, jq_30, jq_32, jq_60, jq_84, jq_1000, jq_2436, jq_20001, dm_noSheet _, ha, Nat.zero_add, ms, t4, d31, e31_0, hbe, dm_first, e31_27]
      · rw [d129, e129_0]
        simp (disch := omega) only [jx_bI_s, jx_bL_s, jx_bV_s, eq_self, true_or, or_true, jx_if_t, jx_if_f, jq_b0, jq_b1, jq_bb, jq_b01, jx_if_in, jx_if_lt, jx_if_nlt, jx_if_le, jx_if_nle, jq_eqp, jq_eqn, nI_clamp, nI_add, pk_sub, pk_mul, jn_and, jn_or, jn_xor, jq_andn, jq_shl1, jq_bit, jq_mn, jq_mx, cond_true, cond_false, jq_jt, jq_jf, jq_e1, jq_e2, jq_e3, jq_e4, Bool.not_true, Bool.not_false, jq_0, jq_1, jq_2, jq_3, jq_4, jq_5, jq_6, jq_8, jq_12, jq_16, jq_20, jq_21, jq_24, jq_30, jq_32, jq_60, jq_84, jq_1000, jq_2436, jq_20001, dm_isSheet _, ha, t3, t5, e129_92]
    · refine ⟨nI 0, _, _, ?_, ?_, fin (v &&& nI (2 ^ 16 - 1)) v.toInt16.toInt32 (jn_bm16 v)⟩
      · rw [d29, e29_0]
        simp (disch := omega) only [jx_bI_s, jx_bL_s, jx_bV_s, eq_self, true_or, or_true, jx_if_t, jx_if_f, jq_b0, jq_b1, jq_bb, jq_b01, jx_if_in, jx_if_lt, jx_if_nlt, jx_if_le, jx_if_nle, jq_eqp, jq_eqn, nI_clamp, nI_add, pk_sub, pk_mul, jn_and, jn_or, jn_xor, jq_andn, jq_shl1, jq_bit, jq_mn, jq_mx, cond_true, cond_false, jq_jt, jq_jf, jq_e1, jq_e2, jq_e3, jq_e4, Bool.not_true, Bool.not_false, jq_0, jq_1, jq_2, jq_3, jq_4, jq_5, jq_6, jq_8, jq_12, jq_16, jq_20, jq_21, jq_24, jq_30, jq_32, jq_60, jq_84, jq_1000, jq_2436, jq_20001, dm_noSheet _, ha, Nat.zero_add, ms, t4, d31, e31_0, hbe, dm_first, e31_27]
      · rw [d129, e129_0]
        simp (disch := omega) only [jx_bI_s, jx_bL_s, jx_bV_s, eq_self, true_or, or_true, jx_if_t, jx_if_f, jq_b0, jq_b1, jq_bb, jq_b01, jx_if_in, jx_if_lt, jx_if_nlt, jx_if_le, jx_if_nle, jq_eqp, jq_eqn, nI_clamp, nI_add, pk_sub, pk_mul, jn_and, jn_or, jn_xor, jq_andn, jq_shl1, jq_bit, jq_mn, jq_mx, cond_true, cond_false, jq_jt, jq_jf, jq_e1, jq_e2, jq_e3, jq_e4, Bool.not_true, Bool.not_false, jq_0, jq_1, jq_2, jq_3, jq_4, jq_5, jq_6, jq_8, jq_12, jq_16, jq_20, jq_21, jq_24, jq_30, jq_32, jq_60, jq_84, jq_1000, jq_2436, jq_20001, dm_isSheet _, ha, t3, t5, e129_92]
    · refine ⟨nI 0, _, _, ?_, ?_, fin v v (Or.inl rfl)⟩
      · rw [d29, e29_0]
        simp (disch := omega) only [jx_bI_s, jx_bL_s, jx_bV_s, eq_self, true_or, or_true, jx_if_t, jx_if_f, jq_b0, jq_b1, jq_bb, jq_b01, jx_if_in, jx_if_lt, jx_if_nlt, jx_if_le, jx_if_nle, jq_eqp, jq_eqn, nI_clamp, nI_add, pk_sub, pk_mul, jn_and, jn_or, jn_xor, jq_andn, jq_shl1, jq_bit, jq_mn, jq_mx, cond_true, cond_false, jq_jt, jq_jf, jq_e1, jq_e2, jq_e3, jq_e4, Bool.not_true, Bool.not_false, jq_0, jq_1, jq_2, jq_3, jq_4, jq_5, jq_6, jq_8, jq_12, jq_16, jq_20, jq_21, jq_24, jq_30, jq_32, jq_60, jq_84, jq_1000, jq_2436, jq_20001, dm_noSheet _, ha, Nat.zero_add, ms, t4, d31, e31_0, hbe, e31_27]
      · rw [d129, e129_0]
        simp (disch := omega) only [jx_bI_s, jx_bL_s, jx_bV_s, eq_self, true_or, or_true, jx_if_t, jx_if_f, jq_b0, jq_b1, jq_bb, jq_b01, jx_if_in, jx_if_lt, jx_if_nlt, jx_if_le, jx_if_nle, jq_eqp, jq_eqn, nI_clamp, nI_add, pk_sub, pk_mul, jn_and, jn_or, jn_xor, jq_andn, jq_shl1, jq_bit, jq_mn, jq_mx, cond_true, cond_false, jq_jt, jq_jf, jq_e1, jq_e2, jq_e3, jq_e4, Bool.not_true, Bool.not_false, jq_0, jq_1, jq_2, jq_3, jq_4, jq_5, jq_6, jq_8, jq_12, jq_16, jq_20, jq_21, jq_24, jq_30, jq_32, jq_60, jq_84, jq_1000, jq_2436, jq_20001, dm_isSheet _, ha, t3, t5, e129_92]
end
