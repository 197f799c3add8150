/-! ===== layer 2: all posts are walked ===== -/
section
variable {d d2 : Nat} {N : jb_N}
theorem jb_turn {gx gm : jx_H} (w : jb_wf N) (x : jb_X gx 0 N) (m : jb_M gm N) : ∃ back hx' hm', DM (d + 11) 86 [vr 25 0, vr 1 0] gx = some ([vi (nI back)], hx') ∧ DM (d2 + 2) 165 [vr 30 0] gm = some ([vi (nI back)], hm') ∧ back < 2 ^ jb_n N ∧ (∀ c, c ≠ 25 → hx'.1 c = gx.1 c) ∧ ∀ c, c ≠ 51 → c ≠ 52 → hm'.1 c = gm.1 c := by
  have hn := w.2.1
  have hp := w.1
  have h8 := jn_pow8 hp
  have h20 := jn_pow20 hn
  have i8 := Nat.two_pow_pos (jb_p N)
  have i20 := Nat.two_pow_pos (jb_n N)
  -- the reference's first loop
  have first : ∀ (k i : Nat) (hm : jx_H), i + k = jb_p N → (∀ c, c ≠ 51 → c ≠ 52 → hm.1 c = gm.1 c) → (∀ q, q < i → hm.1 51 0 q = nI 1) → ∃ hm', F165_6 (DM (d2 + 1)) (nI 0) (nI 0) (nI i) hm = F165_29 (DM (d2 + 1)) (nI 0) (nI 0) (nI 0) hm' ∧ jw_M (jb_p N) gm hm' 0 := by
    intro k
    induction k with
    | zero =>
      intro i hm hi f f1
      have m0 : hm.1 30 0 0 = nI (jb_p N) := by rw [f 30 (by decide) (by decide)]; exact m.1
      refine ⟨hm, ?_, f, fun q hq => ?_⟩
      · rw [e165_6, m0]
        simp (disch := omega) only [jx_bI_s, jx_bL_s, jx_bV_s, eq_self, true_or, or_true, jx_if_t, jx_if_f, jq_b0, jq_b1, jq_bb, jq_b01, jx_if_in, jx_if_lt, jx_if_nlt, jx_if_le, jx_if_nle, jq_eqp, jq_eqn, nI_clamp, nI_add, pk_sub, pk_mul, jn_and, jn_or, jn_xor, jq_andn, jq_shl1, jq_bit, jq_mn, jq_mx, cond_true, cond_false, jq_jt, jq_jf, jq_e1, jq_e2, jq_e3, jq_e4, Bool.not_true, Bool.not_false, jq_0, jq_1, jq_2, jq_3, jq_4, jq_5, jq_6, jq_8, jq_12, jq_16, jq_20, jq_21, jq_24, jq_30, jq_32, jq_60, jq_84, jq_1000, jq_2436, jq_20001]
      · rw [f1 q (by omega), Nat.zero_testBit]
        rfl
    | succ k ih =>
      intro i hm hi f f1
      have m0 : hm.1 30 0 0 = nI (jb_p N) := by rw [f 30 (by decide) (by decide)]; exact m.1
      obtain ⟨hm', a1, a2⟩ := ih (i + 1) (jx_sI hm 51 0 i (nI 1)) (by omega) (fun c h1 h2 => by rw [jx_sk h1]; exact f c h1 h2) (fun q hq => by
        rw [jx_sv]
        by_cases e : q = i
        · rw [if_pos e]
        · rw [if_neg e]; exact f1 q (by omega))
      refine ⟨hm', ?_, a2⟩
      rw [e165_6, m0]
      simp (disch := omega) only [jx_bI_s, jx_bL_s, jx_bV_s, eq_self, true_or, or_true, jx_if_t, jx_if_f, jq_b0, jq_b1, jq_bb, jq_b01, jx_if_in, jx_if_lt, jx_if_nlt, jx_if_le, jx_if_nle, jq_eqp, jq_eqn, nI_clamp, nI_add, pk_sub, pk_mul, jn_and, jn_or, jn_xor, jq_andn, jq_shl1, jq_bit, jq_mn, jq_mx, cond_true, cond_false, jq_jt, jq_jf, jq_e1, jq_e2, jq_e3, jq_e4, Bool.not_true, Bool.not_false, jq_0, jq_1, jq_2, jq_3, jq_4, jq_5, jq_6, jq_8, jq_12, jq_16, jq_20, jq_21, jq_24, jq_30, jq_32, jq_60, jq_84, jq_1000, jq_2436, jq_20001]
      exact a1
  have loop : ∀ (k i seen done back : Nat) (hx hm : jx_H), i + k = jb_p N → seen < 2 ^ jb_p N → done < 2 ^ jb_n N → back < 2 ^ jb_n N → jw_X gx hx seen done back → jw_M (jb_p N) gm hm seen → ∃ back' hx' hm', F86_22 (DM (d + 10)) (nI i) hx = some ([vi (nI back')], hx') ∧ F165_29 (DM (d2 + 1)) (nI back) (nI done) (nI i) hm = some ([vi (nI back')], hm') ∧ back' < 2 ^ jb_n N ∧ (∀ c, c ≠ 25 → hx'.1 c = gx.1 c) ∧ ∀ c, c ≠ 51 → c ≠ 52 → hm'.1 c = gm.1 c := by
    intro k
    induction k with
    | zero =>
      intro i seen done back hx hm hi hsl hdl hbl X M
      have m0 : hm.1 30 0 0 = nI (jb_p N) := by rw [M.1 30 (by decide) (by decide)]; exact m.1
      have x0 : hx.1 1 0 0 = nI (jb_p N) := by rw [X.1 1 (by decide)]; exact x.1
      refine ⟨back, hx, hm, ?_, ?_, hbl, X.1, M.1⟩
      · rw [e86_22, X.2.1, x0]
        simp (disch := omega) only [jx_bI_s, jx_bL_s, jx_bV_s, eq_self, true_or, or_true, jx_if_t, jx_if_f, jq_b0, jq_b1, jq_bb, jq_b01, jx_if_in, jx_if_lt, jx_if_nlt, jx_if_le, jx_if_nle, jq_eqp, jq_eqn, nI_clamp, nI_add, pk_sub, pk_mul, jn_and, jn_or, jn_xor, jq_andn, jq_shl1, jq_bit, jq_mn, jq_mx, cond_true, cond_false, jq_jt, jq_jf, jq_e1, jq_e2, jq_e3, jq_e4, Bool.not_true, Bool.not_false, jq_0, jq_1, jq_2, jq_3, jq_4, jq_5, jq_6, jq_8, jq_12, jq_16, jq_20, jq_21, jq_24, jq_30, jq_32, jq_60, jq_84, jq_1000, jq_2436, jq_20001, X.2.2.2.2]
      · rw [e165_29, m0]
        simp (disch := omega) only [jx_bI_s, jx_bL_s, jx_bV_s, eq_self, true_or, or_true, jx_if_t, jx_if_f, jq_b0, jq_b1, jq_bb, jq_b01, jx_if_in, jx_if_lt, jx_if_nlt, jx_if_le, jx_if_nle, jq_eqp, jq_eqn, nI_clamp, nI_add, pk_sub, pk_mul, jn_and, jn_or, jn_xor, jq_andn, jq_shl1, jq_bit, jq_mn, jq_mx, cond_true, cond_false, jq_jt, jq_jf, jq_e1, jq_e2, jq_e3, jq_e4, Bool.not_true, Bool.not_false, jq_0, jq_1, jq_2, jq_3, jq_4, jq_5, jq_6, jq_8, jq_12, jq_16, jq_20, jq_21, jq_24, jq_30, jq_32, jq_60, jq_84, jq_1000, jq_2436, jq_20001]
    | succ k ih =>
      intro i seen done back hx hm hi hsl hdl hbl X M
      have m0 : hm.1 30 0 0 = nI (jb_p N) := by rw [M.1 30 (by decide) (by decide)]; exact m.1
      have x0 : hx.1 1 0 0 = nI (jb_p N) := by rw [X.1 1 (by decide)]; exact x.1
      have mi := M.2 i (by omega)
      have h2i := jn_2lt (show i < jb_p N by omega)
      have M1 : jw_M (jb_p N) gm (jx_sI (jx_sI hm 52 0 0 (nI i)) 51 0 i (nI 0)) (seen ||| 2 ^ i) := by
        refine ⟨fun c h1 h2 => by rw [jx_sk h1, jx_sk h2]; exact M.1 c h1 h2, fun q hq => ?_⟩
        rw [jx_sv, Nat.testBit_or, jn_2k]
        by_cases e : q = i
        · rw [if_pos e]
          simp [e]
          rfl
        · have e' : ¬ i = q := fun k => e k.symm
          rw [if_neg e, jx_sk (by decide), M.2 q hq]
          simp [e']
      cases hb : seen.testBit i
      · rw [hb] at mi
        obtain ⟨s', dn', b', hx2, hm2, v1, v2, ⟨v3, v4, v5, v6, v7, v8, v9, v10⟩, v11⟩ := dm_visit (d := d) (d2 := d2) w x m (nI i) 8 i 0 seen done back hx _ (by omega) (Nat.zero_le _) (by omega) hb hsl hdl hbl X M1 (by rw [jx_sk (by decide), jx_ss])
        obtain ⟨back', hx', hm', u1, u2, u3⟩ := ih (i + 1) s' dn' b' hx2 hm2 (by omega) v6 v7 v8 v3 v4
        refine ⟨back', hx', hm', ?_, ?_, u3⟩
        · rw [e86_22, X.2.1, x0]
          simp (disch := omega) only [jx_bI_s, jx_bL_s, jx_bV_s, eq_self, true_or, or_true, jx_if_t, jx_if_f, jq_b0, jq_b1, jq_bb, jq_b01, jx_if_in, jx_if_lt, jx_if_nlt, jx_if_le, jx_if_nle, jq_eqp, jq_eqn, nI_clamp, nI_add, pk_sub, pk_mul, jn_and, jn_or, jn_xor, jq_andn, jq_shl1, jq_bit, jq_mn, jq_mx, cond_true, cond_false, jq_jt, jq_jf, jq_e1, jq_e2, jq_e3, jq_e4, Bool.not_true, Bool.not_false, jq_0, jq_1, jq_2, jq_3, jq_4, jq_5, jq_6, jq_8, jq_12, jq_16, jq_20, jq_21, jq_24, jq_30, jq_32, jq_60, jq_84, jq_1000, jq_2436, jq_20001, X.2.2.1, dm_hasN, hb, v1, e86_50]
          exact u1
        · have e67 : F165_67 (DM (d2 + 1)) (nI b') (nI dn') (nI i) (nI 0) hm2 = F165_29 (DM (d2 + 1)) (nI b') (nI dn') (nI (i + 1)) hm2 := by
            rw [e165_67]
            simp (disch := omega) only [jx_bI_s, jx_bL_s, jx_bV_s, eq_self, true_or, or_true, jx_if_t, jx_if_f, jq_b0, jq_b1, jq_bb, jq_b01, jx_if_in, jx_if_lt, jx_if_nlt, jx_if_le, jx_if_nle, jq_eqp, jq_eqn, nI_clamp, nI_add, pk_sub, pk_mul, jn_and, jn_or, jn_xor, jq_andn, jq_shl1, jq_bit, jq_mn, jq_mx, cond_true, cond_false, jq_jt, jq_jf, jq_e1, jq_e2, jq_e3, jq_e4, Bool.not_true, Bool.not_false, jq_0, jq_1, jq_2, jq_3, jq_4, jq_5, jq_6, jq_8, jq_12, jq_16, jq_20, jq_21, jq_24, jq_30, jq_32, jq_60, jq_84, jq_1000, jq_2436, jq_20001]
          rw [e165_29, m0]
          simp (disch := omega) only [jx_bI_s, jx_bL_s, jx_bV_s, eq_self, true_or, or_true, jx_if_t, jx_if_f, jq_b0, jq_b1, jq_bb, jq_b01, jx_if_in, jx_if_lt, jx_if_nlt, jx_if_le, jx_if_nle, jq_eqp, jq_eqn, nI_clamp, nI_add, pk_sub, pk_mul, jn_and, jn_or, jn_xor, jq_andn, jq_shl1, jq_bit, jq_mn, jq_mx, cond_true, cond_false, jq_jt, jq_jf, jq_e1, jq_e2, jq_e3, jq_e4, Bool.not_true, Bool.not_false, jq_0, jq_1, jq_2, jq_3, jq_4, jq_5, jq_6, jq_8, jq_12, jq_16, jq_20, jq_21, jq_24, jq_30, jq_32, jq_60, jq_84, jq_1000, jq_2436, jq_20001, mi, e165_51]
          exact v2.trans (e67.trans u2)
      · rw [hb] at mi
        have eS : seen ||| 2 ^ i = seen := by
          apply Nat.eq_of_testBit_eq
          intro q
          rw [Nat.testBit_or, jn_2k]
          by_cases e : i = q
          · subst e
            simp [hb]
          · simp [e]
        rw [eS] at M1
        obtain ⟨back', hx', hm', u1, u2, u3⟩ := ih (i + 1) seen done back hx _ (by omega) hsl hdl hbl X M1
        refine ⟨back', hx', hm', ?_, ?_, u3⟩
        · rw [e86_22, X.2.1, x0]
          simp (disch := omega) only [jx_bI_s, jx_bL_s, jx_bV_s, eq_self, true_or, or_true, jx_if_t, jx_if_f, jq_b0, jq_b1, jq_bb, jq_b01, jx_if_in, jx_if_lt, jx_if_nlt, jx_if_le, jx_if_nle, jq_eqp, jq_eqn, nI_clamp, nI_add, pk_sub, pk_mul, jn_and, jn_or, jn_xor, jq_andn, jq_shl1, jq_bit, jq_mn, jq_mx, cond_true, cond_false, jq_jt, jq_jf, jq_e1, jq_e2, jq_e3, jq_e4, Bool.not_true, Bool.not_false, jq_0, jq_1, jq_2, jq_3, jq_4, jq_5, jq_6, jq_8, jq_12, jq_16, jq_20, jq_21, jq_24, jq_30, jq_32, jq_60, jq_84, jq_1000, jq_2436, jq_20001, X.2.2.1, dm_hasN, hb, e86_50]
          exact u1
        · have e67 : ∀ g, F165_67 (DM (d2 + 1)) (nI back) (nI done) (nI i) (nI 0) g = F165_29 (DM (d2 + 1)) (nI back) (nI done) (nI (i + 1)) g := by
            intro g
            rw [e165_67]
            simp (disch := omega) only [jx_bI_s, jx_bL_s, jx_bV_s, eq_self, true_or, or_true, jx_if_t, jx_if_f, jq_b0, jq_b1, jq_bb, jq_b01, jx_if_in, jx_if_lt, jx_if_nlt, jx_if_le, jx_if_nle, jq_eqp, jq_eqn, nI_clamp, nI_add, pk_sub, pk_mul, jn_and, jn_or, jn_xor, jq_andn, jq_shl1, jq_bit, jq_mn, jq_mx, cond_true, cond_false, jq_jt, jq_jf, jq_e1, jq_e2, jq_e3, jq_e4, Bool.not_true, Bool.not_false, jq_0, jq_1, jq_2, jq_3, jq_4, jq_5, jq_6, jq_8, jq_12, jq_16, jq_20, jq_21, jq_24, jq_30, jq_32, jq_60, jq_84, jq_1000, jq_2436, jq_20001]
          rw [e165_29, m0]
          simp (disch := omega) only [jx_bI_s, jx_bL_s, jx_bV_s, eq_self, true_or, or_true, jx_if_t, jx_if_f, jq_b0, jq_b1, jq_bb, jq_b01, jx_if_in, jx_if_lt, jx_if_nlt, jx_if_le, jx_if_nle, jq_eqp, jq_eqn, nI_clamp, nI_add, pk_sub, pk_mul, jn_and, jn_or, jn_xor, jq_andn, jq_shl1, jq_bit, jq_mn, jq_mx, cond_true, cond_false, jq_jt, jq_jf, jq_e1, jq_e2, jq_e3, jq_e4, Bool.not_true, Bool.not_false, jq_0, jq_1, jq_2, jq_3, jq_4, jq_5, jq_6, jq_8, jq_12, jq_16, jq_20, jq_21, jq_24, jq_30, jq_32, jq_60, jq_84, jq_1000, jq_2436, jq_20001, mi, e165_51, e67]
          exact u2
  obtain ⟨hm1, f1, f2⟩ := first (jb_p N) 0 gm (by omega) (fun _ _ _ => rfl) (fun q hq => by omega)
  obtain ⟨back, hx', hm', a1, a2, a3, a4, a5⟩ := loop (jb_p N) 0 0 0 0 (jx_sI (jx_sI (jx_sI (jx_sI gx 25 0 0 (nI 1)) 25 0 1 (nI 0)) 25 0 2 (nI 0)) 25 0 3 (nI 0)) hm1 (by omega) i8 i20 i20 ⟨fun c hc => by rw [jx_sk hc, jx_sk hc, jx_sk hc, jx_sk hc], by rw [jx_sp (by decide), jx_sp (by decide), jx_sp (by decide), jx_ss], by rw [jx_sp (by decide), jx_sp (by decide), jx_ss], by rw [jx_sp (by decide), jx_ss], jx_ss⟩ f2
  refine ⟨back, hx', hm', ?_, ?_, a3, a4, a5⟩
  · rw [d86, e86_0]
    exact a1
  · rw [d165, e165_0]
    exact f1.trans a2
/-- the net with its roads turned -/
def jb_sw (N : jb_N) (back : Nat) : jb_N := (jb_p N, jb_n N, true, fun r => if back.testBit r = true then jb_s N r else jb_f N r, fun r => if back.testBit r = true then jb_f N r else jb_s N r, jb_c N, jb_g N)
theorem jb_sw_wf (w : jb_wf N) (back : Nat) : jb_wf (jb_sw N back) := by
  refine ⟨w.1, w.2.1, fun r hr => ?_⟩
  obtain ⟨w1, w2, w3, w4, w5⟩ := w.2.2 r hr
  show (if back.testBit r = true then jb_s N r else jb_f N r) < jb_p N ∧ (if back.testBit r = true then jb_f N r else jb_s N r) < jb_p N ∧ (if back.testBit r = true then jb_s N r else jb_f N r) ≠ (if back.testBit r = true then jb_f N r else jb_s N r) ∧ jb_c N r ≤ 1000 ∧ jb_g N r ≤ 8
  by_cases c : back.testBit r = true
  · simp only [if_pos c]
    exact ⟨w2, w1, Ne.symm w3, w4, w5⟩
  · simp only [if_neg c]
    exact ⟨w1, w2, w3, w4, w5⟩
theorem dm_swap {h0 : jx_H} (hn : jb_n N ≤ 20) {f s : Nat → Int32} (e1 : h0.1 30 0 1 = nI (jb_n N)) (hf : ∀ r, h0.1 33 0 r = f r) (hs : ∀ r, h0.1 34 0 r = s r) {back : Nat} (hb : back < 2 ^ 31) : ∃ h', DM (d + 2) 167 [vr 30 0, vi (nI back)] h0 = some ([], h') ∧ (∀ c, c ≠ 33 → c ≠ 34 → h'.1 c = h0.1 c) ∧ ∀ r, h'.1 33 0 r = (if r < jb_n N ∧ back.testBit r = true then s r else f r) ∧ h'.1 34 0 r = (if r < jb_n N ∧ back.testBit r = true then f r else s r) := by
  have loop : ∀ (k i : Nat) (h : jx_H), i + k = jb_n N → (∀ c, c ≠ 33 → c ≠ 34 → h.1 c = h0.1 c) → (∀ r, h.1 33 0 r = (if r < i ∧ back.testBit r = true then s r else f r) ∧ h.1 34 0 r = (if r < i ∧ back.testBit r = true then f r else s r)) → ∃ h', F167_2 (DM (d + 1)) (nI back) (nI i) h = some ([], h') ∧ (∀ c, c ≠ 33 → c ≠ 34 → h'.1 c = h0.1 c) ∧ ∀ r, h'.1 33 0 r = (if r < jb_n N ∧ back.testBit r = true then s r else f r) ∧ h'.1 34 0 r = (if r < jb_n N ∧ back.testBit r = true then f r else s r) := by
    intro k
    induction k with
    | zero =>
      intro i h hi g g2
      have e : i = jb_n N := by omega
      subst e
      refine ⟨h, ?_, g, g2⟩
      rw [e167_2, g 30 (by decide) (by decide), e1]
      simp (disch := omega) only [jx_bI_s, jx_bL_s, jx_bV_s, eq_self, true_or, or_true, jx_if_t, jx_if_f, jq_b0, jq_b1, jq_bb, jq_b01, jx_if_in, jx_if_lt, jx_if_nlt, jx_if_le, jx_if_nle, jq_eqp, jq_eqn, nI_clamp, nI_add, pk_sub, pk_mul, jn_and, jn_or, jn_xor, jq_andn, jq_shl1, jq_bit, jq_mn, jq_mx, cond_true, cond_false, jq_jt, jq_jf, jq_e1, jq_e2, jq_e3, jq_e4, Bool.not_true, Bool.not_false, jq_0, jq_1, jq_2, jq_3, jq_4, jq_5, jq_6, jq_8, jq_12, jq_16, jq_20, jq_21, jq_24, jq_30, jq_32, jq_60, jq_84, jq_1000, jq_2436, jq_20001]
    | succ k ih =>
      intro i h hi g g2
      obtain ⟨q1, q2⟩ := g2 i
      rw [if_neg (fun c => by omega)] at q1 q2
      cases hbi : back.testBit i
      · obtain ⟨h', a1, a2⟩ := ih (i + 1) h (by omega) g (fun r => by
          obtain ⟨z1, z2⟩ := g2 r
          rw [z1, z2]
          by_cases e : r = i
          · subst e
            simp [hbi]
          · have e1 : (r < i + 1) = (r < i) := propext ⟨fun _ => by omega, fun _ => by omega⟩
            simp only [e1]
            exact ⟨trivial, trivial⟩)
        refine ⟨h', ?_, a2⟩
        rw [e167_2, g 30 (by decide) (by decide), e1]
        simp (disch := omega) only [jx_bI_s, jx_bL_s, jx_bV_s, eq_self, true_or, or_true, jx_if_t, jx_if_f, jq_b0, jq_b1, jq_bb, jq_b01, jx_if_in, jx_if_lt, jx_if_nlt, jx_if_le, jx_if_nle, jq_eqp, jq_eqn, nI_clamp, nI_add, pk_sub, pk_mul, jn_and, jn_or, jn_xor, jq_andn, jq_shl1, jq_bit, jq_mn, jq_mx, cond_true, cond_false, jq_jt, jq_jf, jq_e1, jq_e2, jq_e3, jq_e4, Bool.not_true, Bool.not_false, jq_0, jq_1, jq_2, jq_3, jq_4, jq_5, jq_6, jq_8, jq_12, jq_16, jq_20, jq_21, jq_24, jq_30, jq_32, jq_60, jq_84, jq_1000, jq_2436, jq_20001, dm_inN, hbi, e167_44]
        exact a1
      · obtain ⟨h', a1, a2⟩ := ih (i + 1) (jx_sI (jx_sI h 33 0 i (s i)) 34 0 i (f i)) (by omega) (fun c h1 h2 => by rw [jx_sk h2, jx_sk h1]; exact g c h1 h2) (fun r => by
          obtain ⟨z1, z2⟩ := g2 r
          rw [jx_sk (show 33 ≠ 34 by decide), jx_sv, jx_sv, jx_sk (show 34 ≠ 33 by decide), z1, z2]
          by_cases e : r = i
          · subst e
            simp [hbi]
          · have e1 : (r < i + 1) = (r < i) := propext ⟨fun _ => by omega, fun _ => by omega⟩
            simp only [e1, if_neg e]
            exact ⟨trivial, trivial⟩)
        refine ⟨h', ?_, a2⟩
        rw [e167_2, g 30 (by decide) (by decide), e1]
        simp (disch := omega) only [jx_bI_s, jx_bL_s, jx_bV_s, eq_self, true_or, or_true, jx_if_t, jx_if_f, jq_b0, jq_b1, jq_bb, jq_b01, jx_if_in, jx_if_lt, jx_if_nlt, jx_if_le, jx_if_nle, jq_eqp, jq_eqn, nI_clamp, nI_add, pk_sub, pk_mul, jn_and, jn_or, jn_xor, jq_andn, jq_shl1, jq_bit, jq_mn, jq_mx, cond_true, cond_false, jq_jt, jq_jf, jq_e1, jq_e2, jq_e3, jq_e4, Bool.not_true, Bool.not_false, jq_0, jq_1, jq_2, jq_3, jq_4, jq_5, jq_6, jq_8, jq_12, jq_16, jq_20, jq_21, jq_24, jq_30, jq_32, jq_60, jq_84, jq_1000, jq_2436, jq_20001, dm_inN, hbi, q1, q2, e167_37, e167_44]
        exact a1
  rw [d167, e167_0]
  exact loop (jb_n N) 0 h0 (by omega) (fun _ _ _ => rfl) (fun r => by
    rw [if_neg (fun c => by omega), if_neg (fun c => by omega)]
    exact ⟨hf r, hs r⟩)
theorem dm_turnedX {h : jx_H} (w : jb_wf N) (P : jp_P h N) {back : Nat} (hb : back < 2 ^ jb_n N) : ∃ B : Bool, DM (d + 1) 89 [vr 14 0, vi (nI back)] h = some ([vi (jn_b B)], h) ∧ (B = true ↔ jb_hg (jb_sw N back) 0 (2 ^ jb_n N - 1)) := by
  obtain ⟨⟨p0, p1, p2, p3, p4, p5, p6⟩, pT⟩ := P
  have hn := w.2.1
  have hp := w.1
  have h8 := jn_pow8 hp
  have h20 := jn_pow20 hn
  have i8 := Nat.two_pow_pos (jb_p N)
  have key : ∀ X, jn_df (jn_df (jp_st N X) (jp_en N X)) back ||| (jn_df (jp_en N X) (jp_st N X) &&& back) = jn_mk (jb_cb (jb_sw N back) X) (jb_n N) := by
    intro X
    apply Nat.eq_of_testBit_eq
    intro r
    unfold jp_st jp_en
    rw [jn_mk_t, Nat.testBit_or, jn_df_t, jn_df_t, Nat.testBit_and, jn_df_t, jn_mk_t, jn_mk_t]
    have e : jb_cb (jb_sw N back) X r = ((X.testBit (if back.testBit r = true then jb_s N r else jb_f N r) != X.testBit (if back.testBit r = true then jb_f N r else jb_s N r)) && (!true || X.testBit (if back.testBit r = true then jb_s N r else jb_f N r))) := rfl
    rw [e]
    cases back.testBit r
    · simp only [Bool.false_eq_true, if_false]
      cases decide (r < jb_n N) <;> cases X.testBit (jb_f N r) <;> cases X.testBit (jb_s N r) <;> rfl
    · simp only [if_true]
      cases decide (r < jb_n N) <;> cases X.testBit (jb_f N r) <;> cases X.testBit (jb_s N r) <;> rfl
  have fin : ∀ i, 2 ^ jb_p N - 1 ≤ i → i ≤ 256 → (∀ X, 1 ≤ X → X < i → X < 2 ^ jb_p N - 1 → jn_mk (jb_cb (jb_sw N back) X) (jb_n N) ≠ 0) → ∃ B : Bool, F89_2 (DM d) (nI back) (nI i) h = some ([vi (jn_b B)], h) ∧ (B = true ↔ 0 < jb_p N ∧ ∀ X, 1 ≤ X → X < 2 ^ jb_p N - 1 → jn_mk (jb_cb (jb_sw N back) X) (jb_n N) ≠ 0) := by
    intro i hi h256 hs
    by_cases h0 : 0 < jb_p N
    · refine ⟨true, ?_, fun _ => ⟨h0, fun X a b => hs X a (by omega) b⟩, fun _ => rfl⟩
      rw [e89_2, p3, p0]
      simp (disch := omega) only [jx_bI_s, jx_bL_s, jx_bV_s, eq_self, true_or, or_true, jx_if_t, jx_if_f, jq_b0, jq_b1, jq_bb, jq_b01, jx_if_in, jx_if_lt, jx_if_nlt, jx_if_le, jx_if_nle, jq_eqp, jq_eqn, nI_clamp, nI_add, pk_sub, pk_mul, jn_and, jn_or, jn_xor, jq_andn, jq_shl1, jq_bit, jq_mn, jq_mx, cond_true, cond_false, jq_jt, jq_jf, jq_e1, jq_e2, jq_e3, jq_e4, Bool.not_true, Bool.not_false, jq_0, jq_1, jq_2, jq_3, jq_4, jq_5, jq_6, jq_8, jq_12, jq_16, jq_20, jq_21, jq_24, jq_30, jq_32, jq_60, jq_84, jq_1000, jq_2436, jq_20001, e89_72]
    · refine ⟨false, ?_, fun c => (by cases c), fun c => absurd c.1 h0⟩
      rw [e89_2, p3, p0]
      simp (disch := omega) only [jx_bI_s, jx_bL_s, jx_bV_s, eq_self, true_or, or_true, jx_if_t, jx_if_f, jq_b0, jq_b1, jq_bb, jq_b01, jx_if_in, jx_if_lt, jx_if_nlt, jx_if_le, jx_if_nle, jq_eqp, jq_eqn, nI_clamp, nI_add, pk_sub, pk_mul, jn_and, jn_or, jn_xor, jq_andn, jq_shl1, jq_bit, jq_mn, jq_mx, cond_true, cond_false, jq_jt, jq_jf, jq_e1, jq_e2, jq_e3, jq_e4, Bool.not_true, Bool.not_false, jq_0, jq_1, jq_2, jq_3, jq_4, jq_5, jq_6, jq_8, jq_12, jq_16, jq_20, jq_21, jq_24, jq_30, jq_32, jq_60, jq_84, jq_1000, jq_2436, jq_20001, e89_72]
  have loop : ∀ q i, 2 ^ jb_p N - 1 ≤ i + q → i ≤ 256 → 1 ≤ i → (∀ X, 1 ≤ X → X < i → X < 2 ^ jb_p N - 1 → jn_mk (jb_cb (jb_sw N back) X) (jb_n N) ≠ 0) → ∃ B : Bool, F89_2 (DM d) (nI back) (nI i) h = some ([vi (jn_b B)], h) ∧ (B = true ↔ 0 < jb_p N ∧ ∀ X, 1 ≤ X → X < 2 ^ jb_p N - 1 → jn_mk (jb_cb (jb_sw N back) X) (jb_n N) ≠ 0) := by
    intro q
    induction q with
    | zero => intro i hi h256 h1 hs; exact fin i (by omega) h256 hs
    | succ q ih =>
      intro i hi h256 h1 hs
      by_cases hlt : i < 2 ^ jb_p N - 1
      · obtain ⟨⟨t1, t2, _⟩, _⟩ := pT i (by omega)
        have hmk := jn_mk_lt (jb_cb (jb_sw N back) i) (jb_n N)
        by_cases e : jn_mk (jb_cb (jb_sw N back) i) (jb_n N) = 0
        · refine ⟨false, ?_, fun c => (by cases c), fun c => absurd e (c.2 i h1 hlt)⟩
          rw [e89_2, p3]
          simp (disch := omega) only [jx_bI_s, jx_bL_s, jx_bV_s, eq_self, true_or, or_true, jx_if_t, jx_if_f, jq_b0, jq_b1, jq_bb, jq_b01, jx_if_in, jx_if_lt, jx_if_nlt, jx_if_le, jx_if_nle, jq_eqp, jq_eqn, nI_clamp, nI_add, pk_sub, pk_mul, jn_and, jn_or, jn_xor, jq_andn, jq_shl1, jq_bit, jq_mn, jq_mx, cond_true, cond_false, jq_jt, jq_jf, jq_e1, jq_e2, jq_e3, jq_e4, Bool.not_true, Bool.not_false, jq_0, jq_1, jq_2, jq_3, jq_4, jq_5, jq_6, jq_8, jq_12, jq_16, jq_20, jq_21, jq_24, jq_30, jq_32, jq_60, jq_84, jq_1000, jq_2436, jq_20001, t1, t2, key, e]
        · obtain ⟨B, b1, b2⟩ := ih (i + 1) (by omega) (by omega) (by omega) (fun X a b c => by
            by_cases e2 : X = i
            · rw [e2]; exact e
            · exact hs X a (by omega) c)
          refine ⟨B, ?_, b2⟩
          rw [e89_2, p3]
          simp (disch := omega) only [jx_bI_s, jx_bL_s, jx_bV_s, eq_self, true_or, or_true, jx_if_t, jx_if_f, jq_b0, jq_b1, jq_bb, jq_b01, jx_if_in, jx_if_lt, jx_if_nlt, jx_if_le, jx_if_nle, jq_eqp, jq_eqn, nI_clamp, nI_add, pk_sub, pk_mul, jn_and, jn_or, jn_xor, jq_andn, jq_shl1, jq_bit, jq_mn, jq_mx, cond_true, cond_false, jq_jt, jq_jf, jq_e1, jq_e2, jq_e3, jq_e4, Bool.not_true, Bool.not_false, jq_0, jq_1, jq_2, jq_3, jq_4, jq_5, jq_6, jq_8, jq_12, jq_16, jq_20, jq_21, jq_24, jq_30, jq_32, jq_60, jq_84, jq_1000, jq_2436, jq_20001, t1, t2, key]
          exact b1
      · exact fin i (by omega) h256 hs
  obtain ⟨B, b1, b2⟩ := loop (2 ^ jb_p N) 1 (by omega) (by omega) (by omega) (fun X a b => by omega)
  refine ⟨B, ?_, b2.trans ?_⟩
  · rw [d89, e89_0]
    exact b1
  · rw [jb_hg_cut (jb_sw_wf w back)]
    refine and_congr_right (fun h0 => ⟨fun c X h1 h2 => ?_, fun c X h1 h2 => ?_⟩)
    · apply Classical.byContradiction
      intro hh
      refine c X h1 h2 (jn_mk_0 (fun r hr => ?_))
      cases hc : jb_cb (jb_sw N back) X r with
      | false => rfl
      | true => exact absurd ⟨r, hr, jn_allr hr, hc⟩ hh
    · obtain ⟨r, r1, r2, r3⟩ := c X h1 h2
      intro e
      rw [jn_mk_eq0.1 e r r1] at r3
      cases r3
end
section
variable {d : Nat} {hx hm : jx_H}
theorem jb_SM51 {h0 h : jx_H} (f : ∀ c, c ≠ 51 → c ≠ 52 → h.1 c = h0.1 c) : jb_SM h0 h := ⟨fun c hc _ _ => f c (fun e => hc (by unfold jb_sm; omega)) (fun e => hc (by unfold jb_sm; omega)), fun r _ => ⟨by rw [f 33 (by decide) (by decide)], by rw [f 34 (by decide) (by decide)]⟩⟩
theorem jt_29 (I : jb_Inv hx hm) : jl_g d 85 164 [] hx hm := by
  obtain ⟨N, w, x, m⟩ := I.1
  have hn := w.2.1
  cases ht : jb_t N
  · by_cases h0 : jb_n N = 0
    · refine ⟨-6, _, _, ?_, ?_, I.fd⟩
      · rw [d85, e85_0, x.2.2.1, ht, x.2.1]
        simp (disch := omega) only [jx_bI_s, jx_bL_s, jx_bV_s, eq_self, true_or, or_true, jx_if_t, jx_if_f, jq_b0, jq_b1, jq_bb, jq_b01, jx_if_in, jx_if_lt, jx_if_nlt, jx_if_le, jx_if_nle, jq_eqp, jq_eqn, nI_clamp, nI_add, pk_sub, pk_mul, jn_and, jn_or, jn_xor, jq_andn, jq_shl1, jq_bit, jq_mn, jq_mx, cond_true, cond_false, jq_jt, jq_jf, jq_e1, jq_e2, jq_e3, jq_e4, Bool.not_true, Bool.not_false, jq_0, jq_1, jq_2, jq_3, jq_4, jq_5, jq_6, jq_8, jq_12, jq_16, jq_20, jq_21, jq_24, jq_30, jq_32, jq_60, jq_84, jq_1000, jq_2436, jq_20001, dm_fx]
      · rw [d164, e164_0, m.2.2.1, ht, m.2.1]
        simp (disch := omega) only [jx_bI_s, jx_bL_s, jx_bV_s, eq_self, true_or, or_true, jx_if_t, jx_if_f, jq_b0, jq_b1, jq_bb, jq_b01, jx_if_in, jx_if_lt, jx_if_nlt, jx_if_le, jx_if_nle, jq_eqp, jq_eqn, nI_clamp, nI_add, pk_sub, pk_mul, jn_and, jn_or, jn_xor, jq_andn, jq_shl1, jq_bit, jq_mn, jq_mx, cond_true, cond_false, jq_jt, jq_jf, jq_e1, jq_e2, jq_e3, jq_e4, Bool.not_true, Bool.not_false, jq_0, jq_1, jq_2, jq_3, jq_4, jq_5, jq_6, jq_8, jq_12, jq_16, jq_20, jq_21, jq_24, jq_30, jq_32, jq_60, jq_84, jq_1000, jq_2436, jq_20001, dm_fm, e164_34]
    · obtain ⟨back, hx', hm', a1, a2, a3, a4, a5⟩ := jb_turn (d := d + 28) (d2 := d + 37) w x m
      refine ⟨nI back, hx', hm', ?_, ?_, I.sx (jb_SX1 (k := 25) (by unfold jb_sx; omega) (by decide) (by decide) (by decide) (by decide) a4) (jb_SM51 a5)⟩
      · rw [d85, e85_0, x.2.2.1, ht, x.2.1]
        simp (disch := omega) only [jx_bI_s, jx_bL_s, jx_bV_s, eq_self, true_or, or_true, jx_if_t, jx_if_f, jq_b0, jq_b1, jq_bb, jq_b01, jx_if_in, jx_if_lt, jx_if_nlt, jx_if_le, jx_if_nle, jq_eqp, jq_eqn, nI_clamp, nI_add, pk_sub, pk_mul, jn_and, jn_or, jn_xor, jq_andn, jq_shl1, jq_bit, jq_mn, jq_mx, cond_true, cond_false, jq_jt, jq_jf, jq_e1, jq_e2, jq_e3, jq_e4, Bool.not_true, Bool.not_false, jq_0, jq_1, jq_2, jq_3, jq_4, jq_5, jq_6, jq_8, jq_12, jq_16, jq_20, jq_21, jq_24, jq_30, jq_32, jq_60, jq_84, jq_1000, jq_2436, jq_20001, a1]
      · rw [d164, e164_0, m.2.2.1, ht, m.2.1]
        simp (disch := omega) only [jx_bI_s, jx_bL_s, jx_bV_s, eq_self, true_or, or_true, jx_if_t, jx_if_f, jq_b0, jq_b1, jq_bb, jq_b01, jx_if_in, jx_if_lt, jx_if_nlt, jx_if_le, jx_if_nle, jq_eqp, jq_eqn, nI_clamp, nI_add, pk_sub, pk_mul, jn_and, jn_or, jn_xor, jq_andn, jq_shl1, jq_bit, jq_mn, jq_mx, cond_true, cond_false, jq_jt, jq_jf, jq_e1, jq_e2, jq_e3, jq_e4, Bool.not_true, Bool.not_false, jq_0, jq_1, jq_2, jq_3, jq_4, jq_5, jq_6, jq_8, jq_12, jq_16, jq_20, jq_21, jq_24, jq_30, jq_32, jq_60, jq_84, jq_1000, jq_2436, jq_20001, a2, e164_34]
  · refine ⟨-8, _, _, ?_, ?_, I.fd⟩
    · rw [d85, e85_0, x.2.2.1, ht]
      simp (disch := omega) only [jx_bI_s, jx_bL_s, jx_bV_s, eq_self, true_or, or_true, jx_if_t, jx_if_f, jq_b0, jq_b1, jq_bb, jq_b01, jx_if_in, jx_if_lt, jx_if_nlt, jx_if_le, jx_if_nle, jq_eqp, jq_eqn, nI_clamp, nI_add, pk_sub, pk_mul, jn_and, jn_or, jn_xor, jq_andn, jq_shl1, jq_bit, jq_mn, jq_mx, cond_true, cond_false, jq_jt, jq_jf, jq_e1, jq_e2, jq_e3, jq_e4, Bool.not_true, Bool.not_false, jq_0, jq_1, jq_2, jq_3, jq_4, jq_5, jq_6, jq_8, jq_12, jq_16, jq_20, jq_21, jq_24, jq_30, jq_32, jq_60, jq_84, jq_1000, jq_2436, jq_20001, dm_fx]
    · rw [d164, e164_0, m.2.2.1, ht]
      simp (disch := omega) only [jx_bI_s, jx_bL_s, jx_bV_s, eq_self, true_or, or_true, jx_if_t, jx_if_f, jq_b0, jq_b1, jq_bb, jq_b01, jx_if_in, jx_if_lt, jx_if_nlt, jx_if_le, jx_if_nle, jq_eqp, jq_eqn, nI_clamp, nI_add, pk_sub, pk_mul, jn_and, jn_or, jn_xor, jq_andn, jq_shl1, jq_bit, jq_mn, jq_mx, cond_true, cond_false, jq_jt, jq_jf, jq_e1, jq_e2, jq_e3, jq_e4, Bool.not_true, Bool.not_false, jq_0, jq_1, jq_2, jq_3, jq_4, jq_5, jq_6, jq_8, jq_12, jq_16, jq_20, jq_21, jq_24, jq_30, jq_32, jq_60, jq_84, jq_1000, jq_2436, jq_20001, dm_fm]
theorem jt_30 (I : jb_Inv hx hm) : jl_g d 88 166 [] hx hm := by
  obtain ⟨N, w, x, m, h', rd, I', x', P⟩ := I.rd d
  have hn := w.2.1
  have hp := w.1
  have h8 := jn_pow8 hp
  have h20 := jn_pow20 hn
  have i20 := Nat.two_pow_pos (jb_n N)
  cases ht : jb_t N
  · obtain ⟨back, h2, g1, a1, a2, a3, a4, a5⟩ := jb_turn (d := d + 28) (d2 := d + 37) w x' m
    have P2 : jp_P h2 N := by
      unfold jp_P jp_H jp_T at *
      rw [a4 14 (by decide), a4 15 (by decide), a4 16 (by decide), a4 17 (by decide), a4 18 (by decide)]
      exact P
    obtain ⟨B, b1, b2⟩ := dm_turnedX (d := d + 38) w P2 a3
    have e30 : g1.1 30 = hm.1 30 := a5 30 (by decide) (by decide)
    obtain ⟨g2, c1, c2, c3⟩ := dm_swap (d := d + 37) (N := N) (h0 := g1) hn (f := fun r => hm.1 33 0 r) (s := fun r => hm.1 34 0 r) (by rw [e30]; exact m.2.1) (fun r => by rw [a5 33 (by decide) (by decide)]) (fun r => by rw [a5 34 (by decide) (by decide)]) (back := back) (by omega)
    have m3 : jb_M (jx_sI g2 30 0 2 (nI 1)) (jb_sw N back) := by
      refine ⟨by rw [jx_sp (by decide), c2 30 (by decide) (by decide), e30]; exact m.1, by rw [jx_sp (by decide), c2 30 (by decide) (by decide), e30]; exact m.2.1, jx_ss, fun r hr => ?_⟩
      have hr : r < jb_n N := hr
      obtain ⟨q1, q2⟩ := c3 r
      obtain ⟨n1, n2, n3, n4⟩ := m.2.2.2 r hr
      show _ = nI (if back.testBit r = true then jb_s N r else jb_f N r) ∧ _ = nI (if back.testBit r = true then jb_f N r else jb_s N r) ∧ _ = nI (jb_c N r) ∧ _ = nI (jb_g N r)
      rw [jx_sk (by decide), jx_sk (by decide), jx_sk (by decide), jx_sk (by decide), q1, q2, c2 35 (by decide) (by decide), c2 36 (by decide) (by decide), a5 35 (by decide) (by decide), a5 36 (by decide) (by decide)]
      by_cases c : back.testBit r = true
      · simp only [if_pos c, if_pos (show r < jb_n N ∧ back.testBit r = true from ⟨hr, c⟩)]
        exact ⟨n2, n1, n3, n4⟩
      · simp only [if_neg c, if_neg (show ¬ (r < jb_n N ∧ back.testBit r = true) from fun k => c k.2)]
        exact ⟨n1, n2, n3, n4⟩
    obtain ⟨C, k1, k2⟩ := dm_hangsM (d := d + 36) (W := 0) (jb_sw_wf w back) m3 (T := 2 ^ jb_n N - 1) (by omega) (by omega)
    have eB : C = B := by
      rw [Bool.eq_iff_iff, b2, k2]
    subst eB
    obtain ⟨g4, d1, d2, d3⟩ := dm_swap (d := d + 37) (N := N) (h0 := jx_sI (jx_sI g2 30 0 2 (nI 1)) 30 0 2 (nI 0)) hn (f := fun r => if r < jb_n N ∧ back.testBit r = true then hm.1 34 0 r else hm.1 33 0 r) (s := fun r => if r < jb_n N ∧ back.testBit r = true then hm.1 33 0 r else hm.1 34 0 r) (by rw [jx_sp (by decide), jx_sp (by decide), c2 30 (by decide) (by decide), e30]; exact m.2.1) (fun r => by rw [jx_sk (by decide), jx_sk (by decide)]; exact (c3 r).1) (fun r => by rw [jx_sk (by decide), jx_sk (by decide)]; exact (c3 r).2) (back := back) (by omega)
    have t0 : hm.1 30 0 2 = nI 0 := by rw [m.2.2.1, ht]; rfl
    have sm : jb_SM hm g4 := by
      refine ⟨fun c hc h33 h34 => ?_, fun r hr => ?_⟩
      · rw [d2 c h33 h34]
        by_cases e : c = 30
        · subst e
          funext b q
          rw [jx_s1]
          by_cases k : 30 = 30 ∧ b = 0 ∧ q = 2
          · rw [if_pos k, k.2.1, k.2.2, t0]
          · rw [if_neg k, jx_s1, if_neg k, c2 30 (by decide) (by decide), e30]
        · rw [jx_sk e, jx_sk e, c2 c h33 h34, a5 c (fun k => hc (by unfold jb_sm; omega)) (fun k => hc (by unfold jb_sm; omega))]
      · obtain ⟨q1, q2⟩ := d3 r
        rw [q1, q2]
        by_cases k : r < jb_n N ∧ back.testBit r = true
        · simp only [if_pos k]
          exact ⟨trivial, trivial⟩
        · simp only [if_neg k]
          exact ⟨trivial, trivial⟩
    have hall := dm_allR (d := d + 38) (n := jb_n N) (h := jx_sI g2 30 0 2 (nI 1)) (by omega) (by rw [jx_sp (by decide), c2 30 (by decide) (by decide), e30]; exact m.2.1)
    refine ⟨jn_b C, h2, g4, ?_, ?_, I'.sx (jb_SX1 (k := 25) (by unfold jb_sx; omega) (by decide) (by decide) (by decide) (by decide) a4) sm⟩
    · rw [d88, e88_0, x.2.2.1, ht]
      cases C <;> simp (disch := omega) only [jx_bI_s, jx_bL_s, jx_bV_s, eq_self, true_or, or_true, jx_if_t, jx_if_f, jq_b0, jq_b1, jq_bb, jq_b01, jx_if_in, jx_if_lt, jx_if_nlt, jx_if_le, jx_if_nle, jq_eqp, jq_eqn, nI_clamp, nI_add, pk_sub, pk_mul, jn_and, jn_or, jn_xor, jq_andn, jq_shl1, jq_bit, jq_mn, jq_mx, cond_true, cond_false, jq_jt, jq_jf, jq_e1, jq_e2, jq_e3, jq_e4, Bool.not_true, Bool.not_false, jq_0, jq_1, jq_2, jq_3, jq_4, jq_5, jq_6, jq_8, jq_12, jq_16, jq_20, jq_21, jq_24, jq_30, jq_32, jq_60, jq_84, jq_1000, jq_2436, jq_20001, rd, a1, b1, e88_54]
    · rw [d166, e166_0, m.2.2.1, ht]
      cases C <;> simp (disch := omega) only [jx_bI_s, jx_bL_s, jx_bV_s, eq_self, true_or, or_true, jx_if_t, jx_if_f, jq_b0, jq_b1, jq_bb, jq_b01, jx_if_in, jx_if_lt, jx_if_nlt, jx_if_le, jx_if_nle, jq_eqp, jq_eqn, nI_clamp, nI_add, pk_sub, pk_mul, jn_and, jn_or, jn_xor, jq_andn, jq_shl1, jq_bit, jq_mn, jq_mx, cond_true, cond_false, jq_jt, jq_jf, jq_e1, jq_e2, jq_e3, jq_e4, Bool.not_true, Bool.not_false, jq_0, jq_1, jq_2, jq_3, jq_4, jq_5, jq_6, jq_8, jq_12, jq_16, jq_20, jq_21, jq_24, jq_30, jq_32, jq_60, jq_84, jq_1000, jq_2436, jq_20001, a2, c1, hall, k1, d1, e166_58]
  · refine ⟨-8, _, _, ?_, ?_, I.fd⟩
    · rw [d88, e88_0, x.2.2.1, ht]
      simp (disch := omega) only [jx_bI_s, jx_bL_s, jx_bV_s, eq_self, true_or, or_true, jx_if_t, jx_if_f, jq_b0, jq_b1, jq_bb, jq_b01, jx_if_in, jx_if_lt, jx_if_nlt, jx_if_le, jx_if_nle, jq_eqp, jq_eqn, nI_clamp, nI_add, pk_sub, pk_mul, jn_and, jn_or, jn_xor, jq_andn, jq_shl1, jq_bit, jq_mn, jq_mx, cond_true, cond_false, jq_jt, jq_jf, jq_e1, jq_e2, jq_e3, jq_e4, Bool.not_true, Bool.not_false, jq_0, jq_1, jq_2, jq_3, jq_4, jq_5, jq_6, jq_8, jq_12, jq_16, jq_20, jq_21, jq_24, jq_30, jq_32, jq_60, jq_84, jq_1000, jq_2436, jq_20001, dm_fx]
    · rw [d166, e166_0, m.2.2.1, ht]
      simp (disch := omega) only [jx_bI_s, jx_bL_s, jx_bV_s, eq_self, true_or, or_true, jx_if_t, jx_if_f, jq_b0, jq_b1, jq_bb, jq_b01, jx_if_in, jx_if_lt, jx_if_nlt, jx_if_le, jx_if_nle, jq_eqp, jq_eqn, nI_clamp, nI_add, pk_sub, pk_mul, jn_and, jn_or, jn_xor, jq_andn, jq_shl1, jq_bit, jq_mn, jq_mx, cond_true, cond_false, jq_jt, jq_jf, jq_e1, jq_e2, jq_e3, jq_e4, Bool.not_true, Bool.not_false, jq_0, jq_1, jq_2, jq_3, jq_4, jq_5, jq_6, jq_8, jq_12, jq_16, jq_20, jq_21, jq_24, jq_30, jq_32, jq_60, jq_84, jq_1000, jq_2436, jq_20001, dm_fm]
end
