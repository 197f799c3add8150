/-! ===== layer 2: turns, strong ===== -/
def jb_inc (N : jb_N) (a r : Nat) : Prop := jb_f N r = a ∨ jb_s N r = a
/-- what the class's walk holds -/
def jw_X (h0 h : jx_H) (seen done back : Nat) : Prop := (∀ c, c ≠ 25 → h.1 c = h0.1 c) ∧ h.1 25 0 0 = nI 1 ∧ h.1 25 0 1 = nI seen ∧ h.1 25 0 2 = nI done ∧ h.1 25 0 3 = nI back
def jw_M (p : Nat) (h0 h : jx_H) (seen : Nat) : Prop := (∀ c, c ≠ 51 → c ≠ 52 → h.1 c = h0.1 c) ∧ ∀ q, q < p → h.1 51 0 q = jn_b (!seen.testBit q)
section
variable {d : Nat} {N : jb_N}
theorem dm_next0 {h : jx_H} (w : jb_wf N) (m : jb_M h N) {a done : Nat} (ha : a < jb_p N) (hd : done < 2 ^ jb_n N) (hno : ∀ r, r < jb_n N → jb_inc N a r → done.testBit r = true) (x1 x3 x4 : Int32) : ∀ i, i ≤ jb_n N → F165_94 (DM (d + 1)) x1 (nI done) x3 x4 (nI a) (-nI 1) (jn_dn i) h = F165_249 (DM (d + 1)) x1 (nI done) x3 (x4 + -nI 1) h := by
  have hn := w.2.1
  have hp := w.1
  have h20 := jn_pow20 hn
  intro i
  induction i with
  | zero =>
    intro _
    have lt : ∀ a b : Option jx_R, jx_if (-nI 1 < nI 0) a b = a := fun a b => jx_ifp (by decide)
    rw [e165_94, jq_0, jq_dlt0, lt]
    rfl
  | succ i ih =>
    intro hi
    obtain ⟨w1, w2, w3, _⟩ := w.2.2 i (by omega)
    obtain ⟨m1, m2, _⟩ := m.2.2.2 i (by omega)
    have nx : nI i + -nI 1 = jn_dn i := jq_dn i
    rw [e165_94, show jn_dn (i + 1) = nI i from rfl]
    cases hb : done.testBit i
    · have c1 : jb_f N i ≠ a := fun c => by rw [hno i (by omega) (Or.inl c)] at hb; cases hb
      have c2 : jb_s N i ≠ a := fun c => by rw [hno i (by omega) (Or.inr c)] at hb; cases hb
      simp (disch := omega) only [jx_bI_s, jx_bL_s, jx_bV_s, eq_self, true_or, or_true, jx_if_t, jx_if_f, jq_b0, jq_b1, jq_bb, jq_b01, jx_if_in, jx_if_lt, jx_if_nlt, jx_if_le, jx_if_nle, jq_eqp, jq_eqn, nI_clamp, nI_add, pk_sub, pk_mul, jn_and, jn_or, jn_xor, jq_andn, jq_shl1, jq_bit, jq_mn, jq_mx, cond_true, cond_false, jq_jt, jq_jf, jq_e1, jq_e2, jq_e3, jq_e4, Bool.not_true, Bool.not_false, jq_0, jq_1, jq_2, jq_3, jq_4, jq_5, jq_6, jq_8, jq_12, jq_16, jq_20, jq_21, jq_24, jq_30, jq_32, jq_60, jq_84, jq_1000, jq_2436, jq_20001, dm_inN, hb, m1, m2, e165_137, e165_139, nx]
      exact ih (by omega)
    · simp (disch := omega) only [jx_bI_s, jx_bL_s, jx_bV_s, eq_self, true_or, or_true, jx_if_t, jx_if_f, jq_b0, jq_b1, jq_bb, jq_b01, jx_if_in, jx_if_lt, jx_if_nlt, jx_if_le, jx_if_nle, jq_eqp, jq_eqn, nI_clamp, nI_add, pk_sub, pk_mul, jn_and, jn_or, jn_xor, jq_andn, jq_shl1, jq_bit, jq_mn, jq_mx, cond_true, cond_false, jq_jt, jq_jf, jq_e1, jq_e2, jq_e3, jq_e4, Bool.not_true, Bool.not_false, jq_0, jq_1, jq_2, jq_3, jq_4, jq_5, jq_6, jq_8, jq_12, jq_16, jq_20, jq_21, jq_24, jq_30, jq_32, jq_60, jq_84, jq_1000, jq_2436, jq_20001, dm_inN, hb, e165_137, e165_139, nx]
      exact ih (by omega)
theorem dm_next1 {h : jx_H} (w : jb_wf N) (m : jb_M h N) {a done r0 : Nat} (ha : a < jb_p N) (hd : done < 2 ^ jb_n N) (hr0 : r0 < jb_n N) (hi0 : jb_inc N a r0) (hd0 : done.testBit r0 = false) (hno : ∀ r, r < r0 → jb_inc N a r → done.testBit r = true) (x1 x3 x4 : Int32) : ∀ i, i ≤ jb_n N → ∀ x6 : Int32, (r0 < i ∨ x6 = nI r0) → F165_94 (DM (d + 1)) x1 (nI done) x3 x4 (nI a) x6 (jn_dn i) h = F165_165 (DM (d + 1)) x1 (nI (done ||| 2 ^ r0)) x3 x4 (nI a) (nI r0) h := by
  have hn := w.2.1
  have hp := w.1
  have h20 := jn_pow20 hn
  intro i
  induction i with
  | zero =>
    intro _ x6 hx
    have e : x6 = nI r0 := hx.resolve_left (by omega)
    subst e
    rw [e165_94, jq_0, jq_dlt0, jx_if_nlt (by omega) (by omega), show (1 : Int32) = nI 1 from rfl, jq_shl1 (by omega), jn_or]
  | succ i ih =>
    intro hi x6 hx
    obtain ⟨w1, w2, w3, _⟩ := w.2.2 i (by omega)
    obtain ⟨m1, m2, _⟩ := m.2.2.2 i (by omega)
    have nx : nI i + -nI 1 = jn_dn i := jq_dn i
    rw [e165_94, show jn_dn (i + 1) = nI i from rfl]
    by_cases e : i = r0
    · subst e
      by_cases c1 : jb_f N i = a
      · simp (disch := omega) only [jx_bI_s, jx_bL_s, jx_bV_s, eq_self, true_or, or_true, jx_if_t, jx_if_f, jq_b0, jq_b1, jq_bb, jq_b01, jx_if_in, jx_if_lt, jx_if_nlt, jx_if_le, jx_if_nle, jq_eqp, jq_eqn, nI_clamp, nI_add, pk_sub, pk_mul, jn_and, jn_or, jn_xor, jq_andn, jq_shl1, jq_bit, jq_mn, jq_mx, cond_true, cond_false, jq_jt, jq_jf, jq_e1, jq_e2, jq_e3, jq_e4, Bool.not_true, Bool.not_false, jq_0, jq_1, jq_2, jq_3, jq_4, jq_5, jq_6, jq_8, jq_12, jq_16, jq_20, jq_21, jq_24, jq_30, jq_32, jq_60, jq_84, jq_1000, jq_2436, jq_20001, dm_inN, hd0, m1, m2, e165_132, e165_139, nx]
        exact ih (by omega) _ (Or.inr rfl)
      · have c2 : jb_s N i = a := hi0.resolve_left c1
        simp (disch := omega) only [jx_bI_s, jx_bL_s, jx_bV_s, eq_self, true_or, or_true, jx_if_t, jx_if_f, jq_b0, jq_b1, jq_bb, jq_b01, jx_if_in, jx_if_lt, jx_if_nlt, jx_if_le, jx_if_nle, jq_eqp, jq_eqn, nI_clamp, nI_add, pk_sub, pk_mul, jn_and, jn_or, jn_xor, jq_andn, jq_shl1, jq_bit, jq_mn, jq_mx, cond_true, cond_false, jq_jt, jq_jf, jq_e1, jq_e2, jq_e3, jq_e4, Bool.not_true, Bool.not_false, jq_0, jq_1, jq_2, jq_3, jq_4, jq_5, jq_6, jq_8, jq_12, jq_16, jq_20, jq_21, jq_24, jq_30, jq_32, jq_60, jq_84, jq_1000, jq_2436, jq_20001, dm_inN, hd0, m1, m2, e165_132, e165_139, nx]
        exact ih (by omega) _ (Or.inr rfl)
    · by_cases c : r0 < i
      · -- above: whatever is found is found again lower
        cases hb : done.testBit i
        · by_cases c1 : jb_f N i = a
          · simp (disch := omega) only [jx_bI_s, jx_bL_s, jx_bV_s, eq_self, true_or, or_true, jx_if_t, jx_if_f, jq_b0, jq_b1, jq_bb, jq_b01, jx_if_in, jx_if_lt, jx_if_nlt, jx_if_le, jx_if_nle, jq_eqp, jq_eqn, nI_clamp, nI_add, pk_sub, pk_mul, jn_and, jn_or, jn_xor, jq_andn, jq_shl1, jq_bit, jq_mn, jq_mx, cond_true, cond_false, jq_jt, jq_jf, jq_e1, jq_e2, jq_e3, jq_e4, Bool.not_true, Bool.not_false, jq_0, jq_1, jq_2, jq_3, jq_4, jq_5, jq_6, jq_8, jq_12, jq_16, jq_20, jq_21, jq_24, jq_30, jq_32, jq_60, jq_84, jq_1000, jq_2436, jq_20001, dm_inN, hb, m1, m2, e165_132, e165_139, nx]
            exact ih (by omega) _ (Or.inl c)
          · by_cases c2 : jb_s N i = a
            · simp (disch := omega) only [jx_bI_s, jx_bL_s, jx_bV_s, eq_self, true_or, or_true, jx_if_t, jx_if_f, jq_b0, jq_b1, jq_bb, jq_b01, jx_if_in, jx_if_lt, jx_if_nlt, jx_if_le, jx_if_nle, jq_eqp, jq_eqn, nI_clamp, nI_add, pk_sub, pk_mul, jn_and, jn_or, jn_xor, jq_andn, jq_shl1, jq_bit, jq_mn, jq_mx, cond_true, cond_false, jq_jt, jq_jf, jq_e1, jq_e2, jq_e3, jq_e4, Bool.not_true, Bool.not_false, jq_0, jq_1, jq_2, jq_3, jq_4, jq_5, jq_6, jq_8, jq_12, jq_16, jq_20, jq_21, jq_24, jq_30, jq_32, jq_60, jq_84, jq_1000, jq_2436, jq_20001, dm_inN, hb, m1, m2, e165_132, e165_139, nx]
              exact ih (by omega) _ (Or.inl c)
            · simp (disch := omega) only [jx_bI_s, jx_bL_s, jx_bV_s, eq_self, true_or, or_true, jx_if_t, jx_if_f, jq_b0, jq_b1, jq_bb, jq_b01, jx_if_in, jx_if_lt, jx_if_nlt, jx_if_le, jx_if_nle, jq_eqp, jq_eqn, nI_clamp, nI_add, pk_sub, pk_mul, jn_and, jn_or, jn_xor, jq_andn, jq_shl1, jq_bit, jq_mn, jq_mx, cond_true, cond_false, jq_jt, jq_jf, jq_e1, jq_e2, jq_e3, jq_e4, Bool.not_true, Bool.not_false, jq_0, jq_1, jq_2, jq_3, jq_4, jq_5, jq_6, jq_8, jq_12, jq_16, jq_20, jq_21, jq_24, jq_30, jq_32, jq_60, jq_84, jq_1000, jq_2436, jq_20001, dm_inN, hb, m1, m2, e165_137, e165_139, nx]
              exact ih (by omega) _ (Or.inl c)
        · simp (disch := omega) only [jx_bI_s, jx_bL_s, jx_bV_s, eq_self, true_or, or_true, jx_if_t, jx_if_f, jq_b0, jq_b1, jq_bb, jq_b01, jx_if_in, jx_if_lt, jx_if_nlt, jx_if_le, jx_if_nle, jq_eqp, jq_eqn, nI_clamp, nI_add, pk_sub, pk_mul, jn_and, jn_or, jn_xor, jq_andn, jq_shl1, jq_bit, jq_mn, jq_mx, cond_true, cond_false, jq_jt, jq_jf, jq_e1, jq_e2, jq_e3, jq_e4, Bool.not_true, Bool.not_false, jq_0, jq_1, jq_2, jq_3, jq_4, jq_5, jq_6, jq_8, jq_12, jq_16, jq_20, jq_21, jq_24, jq_30, jq_32, jq_60, jq_84, jq_1000, jq_2436, jq_20001, dm_inN, hb, e165_137, e165_139, nx]
          exact ih (by omega) _ (Or.inl c)
      · have e6 : x6 = nI r0 := hx.resolve_left (by omega)
        cases hb : done.testBit i
        · have c1 : jb_f N i ≠ a := fun k => by rw [hno i (by omega) (Or.inl k)] at hb; cases hb
          have c2 : jb_s N i ≠ a := fun k => by rw [hno i (by omega) (Or.inr k)] at hb; cases hb
          simp (disch := omega) only [jx_bI_s, jx_bL_s, jx_bV_s, eq_self, true_or, or_true, jx_if_t, jx_if_f, jq_b0, jq_b1, jq_bb, jq_b01, jx_if_in, jx_if_lt, jx_if_nlt, jx_if_le, jx_if_nle, jq_eqp, jq_eqn, nI_clamp, nI_add, pk_sub, pk_mul, jn_and, jn_or, jn_xor, jq_andn, jq_shl1, jq_bit, jq_mn, jq_mx, cond_true, cond_false, jq_jt, jq_jf, jq_e1, jq_e2, jq_e3, jq_e4, Bool.not_true, Bool.not_false, jq_0, jq_1, jq_2, jq_3, jq_4, jq_5, jq_6, jq_8, jq_12, jq_16, jq_20, jq_21, jq_24, jq_30, jq_32, jq_60, jq_84, jq_1000, jq_2436, jq_20001, dm_inN, hb, m1, m2, e165_137, e165_139, nx]
          exact ih (by omega) _ (Or.inr e6)
        · simp (disch := omega) only [jx_bI_s, jx_bL_s, jx_bV_s, eq_self, true_or, or_true, jx_if_t, jx_if_f, jq_b0, jq_b1, jq_bb, jq_b01, jx_if_in, jx_if_lt, jx_if_nlt, jx_if_le, jx_if_nle, jq_eqp, jq_eqn, nI_clamp, nI_add, pk_sub, pk_mul, jn_and, jn_or, jn_xor, jq_andn, jq_shl1, jq_bit, jq_mn, jq_mx, cond_true, cond_false, jq_jt, jq_jf, jq_e1, jq_e2, jq_e3, jq_e4, Bool.not_true, Bool.not_false, jq_0, jq_1, jq_2, jq_3, jq_4, jq_5, jq_6, jq_8, jq_12, jq_16, jq_20, jq_21, jq_24, jq_30, jq_32, jq_60, jq_84, jq_1000, jq_2436, jq_20001, dm_inN, hb, e165_137, e165_139, nx]
          exact ih (by omega) _ (Or.inr e6)
def jw_out (N : jb_N) (gx gm hm : jx_H) (seen done s : Nat) (seen' done' back' : Nat) (hx' hm' : jx_H) : Prop := jw_X gx hx' seen' done' back' ∧ jw_M (jb_p N) gm hm' seen' ∧ (∀ q, q < s → hm'.1 52 0 q = hm.1 52 0 q) ∧ seen' < 2 ^ jb_p N ∧ done' < 2 ^ jb_n N ∧ back' < 2 ^ jb_n N ∧ jn_sb seen seen' ∧ jn_sb done done'
theorem dm_visit {d2 : Nat} {gx gm : jx_H} (w : jb_wf N) (x : jb_X gx 0 N) (m : jb_M gm N) (x3 : Int32) : ∀ (f a s seen done back : Nat) (hx hm : jx_H), jb_p N ≤ jn_pc seen + f → s ≤ jn_pc seen → a < jb_p N → seen.testBit a = false → seen < 2 ^ jb_p N → done < 2 ^ jb_n N → back < 2 ^ jb_n N → jw_X gx hx seen done back → jw_M (jb_p N) gm hm (seen ||| 2 ^ a) → hm.1 52 0 s = nI a → ∃ seen' done' back' hx' hm', DM (d + f + 2) 87 [vr 25 0, vi (nI a), vi (nI s)] hx = some ([], hx') ∧ F165_67 (DM (d2 + 1)) (nI back) (nI done) x3 (nI (s + 1)) hm = F165_67 (DM (d2 + 1)) (nI back') (nI done') x3 (nI s) hm' ∧ jw_out N gx gm hm seen done s seen' done' back' hx' hm' ∧ seen'.testBit a = true := by
  have hn := w.2.1
  have hp := w.1
  have h8 := jn_pow8 hp
  have h20 := jn_pow20 hn
  intro f
  induction f with
  | zero =>
    intro a s seen done back hx hm hf hs ha hsa hsl _ _ _ _ _
    exfalso
    have := jn_pc_sub (n := jb_p N) (x := seen) (y := 2 ^ jb_p N - 1) hsl (by have := Nat.two_pow_pos (jb_p N); omega) (by omega) (fun i hi => jn_allr (jn_hi hsl hi)) (fun e => by rw [e, jn_allr ha] at hsa; cases hsa)
    rw [jn_pc_all (by omega)] at this
    omega
  | succ f ih =>
    intro a s seen done back hx hm hf hs ha hsa hsl hdl hbl X M W
    have h2a := jn_2lt ha
    have hs1l : seen ||| 2 ^ a < 2 ^ jb_p N := jn_or_lt hsl h2a
    have hpc1 : jn_pc seen + 1 ≤ jn_pc (seen ||| 2 ^ a) := jn_pc_sub hsl hs1l (by omega) (fun i hi => by rw [Nat.testBit_or, hi]; rfl) (fun e => by
      have : (seen ||| 2 ^ a).testBit a = true := by rw [Nat.testBit_or, jn_2k]; simp
      rw [← e, hsa] at this
      cases this)
    have hpcl := jn_pc_len hs1l (by omega)
    -- the loop
    have loop : ∀ (k i seen done back : Nat) (hx hm : jx_H), i + k = jb_n N → jb_p N ≤ jn_pc seen + f → s + 1 ≤ jn_pc seen → seen.testBit a = true → seen < 2 ^ jb_p N → done < 2 ^ jb_n N → back < 2 ^ jb_n N → jw_X gx hx seen done back → jw_M (jb_p N) gm hm seen → hm.1 52 0 s = nI a → (∀ r, r < i → jb_inc N a r → done.testBit r = true) → ∃ seen' done' back' hx' hm', F87_21 (DM (d + f + 2)) (nI a) (nI s) (nI i) hx = some ([], hx') ∧ F165_67 (DM (d2 + 1)) (nI back) (nI done) x3 (nI (s + 1)) hm = F165_67 (DM (d2 + 1)) (nI back') (nI done') x3 (nI s) hm' ∧ jw_out N gx gm hm seen done s seen' done' back' hx' hm' := by
      intro k
      induction k with
      | zero =>
        intro i seen done back hx hm hi hf hs hsa hsl hdl hbl X M W hno
        have xx := x.kept (h' := hx) (i := 0) (fun c h1 h2 => by rw [X.1 c (by omega)])
        have mm : jb_M hm N := by
          unfold jb_M at *
          rw [M.1 30 (by decide) (by decide), M.1 33 (by decide) (by decide), M.1 34 (by decide) (by decide), M.1 35 (by decide) (by decide), M.1 36 (by decide) (by decide)]
          exact m
        have hpl := jn_pc_len hsl (by omega)
        refine ⟨seen, done, back, hx, hm, ?_, ?_, X, M, fun _ _ => rfl, hsl, hdl, hbl, fun i hi => hi, fun i hi => hi⟩
        · rw [e87_21, X.2.1, xx.2.1]
          simp (disch := omega) only [jx_bI_s, jx_bL_s, jx_bV_s, eq_self, true_or, or_true, jx_if_t, jx_if_f, jq_b0, jq_b1, jq_bb, jq_b01, jx_if_in, jx_if_lt, jx_if_nlt, jx_if_le, jx_if_nle, jq_eqp, jq_eqn, nI_clamp, nI_add, pk_sub, pk_mul, jn_and, jn_or, jn_xor, jq_andn, jq_shl1, jq_bit, jq_mn, jq_mx, cond_true, cond_false, jq_jt, jq_jf, jq_e1, jq_e2, jq_e3, jq_e4, Bool.not_true, Bool.not_false, jq_0, jq_1, jq_2, jq_3, jq_4, jq_5, jq_6, jq_8, jq_12, jq_16, jq_20, jq_21, jq_24, jq_30, jq_32, jq_60, jq_84, jq_1000, jq_2436, jq_20001]
        · have nx := dm_next0 (d := d2) w mm ha hdl (fun r hr => hno r (by omega)) (nI back) x3 (nI (s + 1)) (jb_n N) (Nat.le_refl _)
          rw [e165_67]
          simp (disch := omega) only [jx_bI_s, jx_bL_s, jx_bV_s, eq_self, true_or, or_true, jx_if_t, jx_if_f, jq_b0, jq_b1, jq_bb, jq_b01, jx_if_in, jx_if_lt, jx_if_nlt, jx_if_le, jx_if_nle, jq_eqp, jq_eqn, nI_clamp, nI_add, pk_mul, jn_and, jn_or, jn_xor, jq_andn, jq_shl1, jq_bit, jq_mn, jq_mx, cond_true, cond_false, jq_jt, jq_jf, jq_e1, jq_e2, jq_e3, jq_e4, Bool.not_true, Bool.not_false, jq_0, jq_1, jq_2, jq_3, jq_4, jq_5, jq_6, jq_8, jq_12, jq_16, jq_20, jq_21, jq_24, jq_30, jq_32, jq_60, jq_84, jq_1000, jq_2436, jq_20001]
          rw [pk_sub (by omega), Nat.add_sub_cancel]
          simp (disch := omega) only [jx_bI_s, jx_bL_s, jx_bV_s, eq_self, true_or, or_true, jx_if_t, jx_if_f, jq_b0, jq_b1, jq_bb, jq_b01, jx_if_in, jx_if_lt, jx_if_nlt, jx_if_le, jx_if_nle, jq_eqp, jq_eqn, nI_clamp, nI_add, pk_mul, jn_and, jn_or, jn_xor, jq_andn, jq_shl1, jq_bit, jq_mn, jq_mx, cond_true, cond_false, jq_jt, jq_jf, jq_e1, jq_e2, jq_e3, jq_e4, Bool.not_true, Bool.not_false, jq_0, jq_1, jq_2, jq_3, jq_4, jq_5, jq_6, jq_8, jq_12, jq_16, jq_20, jq_21, jq_24, jq_30, jq_32, jq_60, jq_84, jq_1000, jq_2436, jq_20001, W, e165_83, mm.2.1, jq_dn0, nx, e165_249, jq_dn]
          rfl
      | succ k ihk =>
        intro i seen done back hx hm hi hf hs hsa hsl hdl hbl X M W hno
        have hin : i < jb_n N := by omega
        obtain ⟨w1, w2, w3, _⟩ := w.2.2 i hin
        have xx := x.kept (h' := hx) (i := 0) (fun c h1 h2 => by rw [X.1 c (by omega)])
        have mm : jb_M hm N := by
          unfold jb_M at *
          rw [M.1 30 (by decide) (by decide), M.1 33 (by decide) (by decide), M.1 34 (by decide) (by decide), M.1 35 (by decide) (by decide), M.1 36 (by decide) (by decide)]
          exact m
        obtain ⟨x1, x2, _⟩ := xx.2.2.2 i hin
        obtain ⟨m1, m2, _⟩ := mm.2.2.2 i hin
        have hpl := jn_pc_len hsl (by omega)
        have h2i := jn_2lt hin
        obtain ⟨X1, X2, X3, X4, X5⟩ := X
        have skip : F87_21 (DM (d + f + 2)) (nI a) (nI s) (nI i) hx = F87_21 (DM (d + f + 2)) (nI a) (nI s) (nI (i + 1)) hx → (jb_inc N a i → done.testBit i = true) → ∃ seen' done' back' hx' hm', F87_21 (DM (d + f + 2)) (nI a) (nI s) (nI i) hx = some ([], hx') ∧ F165_67 (DM (d2 + 1)) (nI back) (nI done) x3 (nI (s + 1)) hm = F165_67 (DM (d2 + 1)) (nI back') (nI done') x3 (nI s) hm' ∧ jw_out N gx gm hm seen done s seen' done' back' hx' hm' := by
          intro e hd
          rw [e]
          exact ihk (i + 1) seen done back hx hm (by omega) hf hs hsa hsl hdl hbl ⟨X1, X2, X3, X4, X5⟩ M W (fun r hr hc => by
            by_cases er : r = i
            · rw [er] at hc ⊢; exact hd hc
            · exact hno r (by omega) hc)
        cases hdi : done.testBit i
        · by_cases hinc : jb_inc N a i
          · -- road i is walked
            obtain ⟨o, ho, hop⟩ : ∃ o, o = (if jb_f N i = a then jb_s N i else jb_f N i) ∧ o < jb_p N := ⟨_, rfl, by split <;> assumption⟩
            obtain ⟨bk, hbk, hbkl⟩ : ∃ bk, bk = (if jb_f N i = a then back else back ||| 2 ^ i) ∧ bk < 2 ^ jb_n N := ⟨_, rfl, by
              split
              · exact hbl
              · exact jn_or_lt hbl h2i⟩
            have hd1 : done ||| 2 ^ i < 2 ^ jb_n N := jn_or_lt hdl h2i
            -- the class's heap with the road done
            obtain ⟨hx1, e1, e2⟩ : ∃ hx1, F87_21 (DM (d + f + 2)) (nI a) (nI s) (nI i) hx = F87_141 (DM (d + f + 2)) (nI a) (nI s) (nI i) (nI o) hx1 ∧ jw_X gx hx1 seen (done ||| 2 ^ i) bk := by
              by_cases c1 : jb_f N i = a
              · rw [if_pos c1] at ho hbk
                refine ⟨jx_sI hx 25 0 2 (nI (done ||| 2 ^ i)), ?_, ⟨fun c hc => by rw [jx_sk hc]; exact X1 c hc, by rw [jx_sp (by decide)]; exact X2, by rw [jx_sp (by decide)]; exact X3, jx_ss, by rw [jx_sp (by decide), hbk]; exact X5⟩⟩
                rw [e87_21, X2, xx.2.1, ho]
                simp (disch := omega) only [jx_bI_s, jx_bL_s, jx_bV_s, eq_self, true_or, or_true, jx_if_t, jx_if_f, jq_b0, jq_b1, jq_bb, jq_b01, jx_if_in, jx_if_lt, jx_if_nlt, jx_if_le, jx_if_nle, jq_eqp, jq_eqn, nI_clamp, nI_add, pk_sub, pk_mul, jn_and, jn_or, jn_xor, jq_andn, jq_shl1, jq_bit, jq_mn, jq_mx, cond_true, cond_false, jq_jt, jq_jf, jq_e1, jq_e2, jq_e3, jq_e4, Bool.not_true, Bool.not_false, jq_0, jq_1, jq_2, jq_3, jq_4, jq_5, jq_6, jq_8, jq_12, jq_16, jq_20, jq_21, jq_24, jq_30, jq_32, jq_60, jq_84, jq_1000, jq_2436, jq_20001, x1, x2, e87_50, X4, dm_hasN, hdi, e87_84, e87_113, jx_sp, jx_sk, X2, e87_139]
              · rw [if_neg c1] at ho hbk
                have c2 : jb_s N i = a := hinc.resolve_left c1
                refine ⟨jx_sI (jx_sI hx 25 0 2 (nI (done ||| 2 ^ i))) 25 0 3 (nI (back ||| 2 ^ i)), ?_, ⟨fun c hc => by rw [jx_sk hc, jx_sk hc]; exact X1 c hc, by rw [jx_sp (by decide), jx_sp (by decide)]; exact X2, by rw [jx_sp (by decide), jx_sp (by decide)]; exact X3, by rw [jx_sp (by decide), jx_ss], by rw [jx_ss, hbk]⟩⟩
                rw [e87_21, X2, xx.2.1, ho]
                simp (disch := omega) only [jx_bI_s, jx_bL_s, jx_bV_s, eq_self, true_or, or_true, jx_if_t, jx_if_f, jq_b0, jq_b1, jq_bb, jq_b01, jx_if_in, jx_if_lt, jx_if_nlt, jx_if_le, jx_if_nle, jq_eqp, jq_eqn, nI_clamp, nI_add, pk_sub, pk_mul, jn_and, jn_or, jn_xor, jq_andn, jq_shl1, jq_bit, jq_mn, jq_mx, cond_true, cond_false, jq_jt, jq_jf, jq_e1, jq_e2, jq_e3, jq_e4, Bool.not_true, Bool.not_false, jq_0, jq_1, jq_2, jq_3, jq_4, jq_5, jq_6, jq_8, jq_12, jq_16, jq_20, jq_21, jq_24, jq_30, jq_32, jq_60, jq_84, jq_1000, jq_2436, jq_20001, x1, x2, e87_50, X4, X5, dm_hasN, hdi, e87_84, e87_113, jx_sp, jx_sk, X2, e87_139]
            -- the reference does the same
            have eM : F165_67 (DM (d2 + 1)) (nI back) (nI done) x3 (nI (s + 1)) hm = F165_219 (DM (d2 + 1)) (nI bk) (nI (done ||| 2 ^ i)) x3 (nI (s + 1)) (nI o) hm := by
              have nx := dm_next1 (d := d2) w mm ha hdl hin hinc hdi (fun r hr => hno r hr) (nI back) x3 (nI (s + 1)) (jb_n N) (Nat.le_refl _) (-nI 1) (Or.inl hin)
              have st : F165_67 (DM (d2 + 1)) (nI back) (nI done) x3 (nI (s + 1)) hm = F165_165 (DM (d2 + 1)) (nI back) (nI (done ||| 2 ^ i)) x3 (nI (s + 1)) (nI a) (nI i) hm := by
                rw [e165_67]
                simp (disch := omega) only [jx_bI_s, jx_bL_s, jx_bV_s, eq_self, true_or, or_true, jx_if_t, jx_if_f, jq_b0, jq_b1, jq_bb, jq_b01, jx_if_in, jx_if_lt, jx_if_nlt, jx_if_le, jx_if_nle, jq_eqp, jq_eqn, nI_clamp, nI_add, pk_mul, jn_and, jn_or, jn_xor, jq_andn, jq_shl1, jq_bit, jq_mn, jq_mx, cond_true, cond_false, jq_jt, jq_jf, jq_e1, jq_e2, jq_e3, jq_e4, Bool.not_true, Bool.not_false, jq_0, jq_1, jq_2, jq_3, jq_4, jq_5, jq_6, jq_8, jq_12, jq_16, jq_20, jq_21, jq_24, jq_30, jq_32, jq_60, jq_84, jq_1000, jq_2436, jq_20001]
                rw [pk_sub (by omega), Nat.add_sub_cancel]
                simp (disch := omega) only [jx_bI_s, jx_bL_s, jx_bV_s, eq_self, true_or, or_true, jx_if_t, jx_if_f, jq_b0, jq_b1, jq_bb, jq_b01, jx_if_in, jx_if_lt, jx_if_nlt, jx_if_le, jx_if_nle, jq_eqp, jq_eqn, nI_clamp, nI_add, pk_mul, jn_and, jn_or, jn_xor, jq_andn, jq_shl1, jq_bit, jq_mn, jq_mx, cond_true, cond_false, jq_jt, jq_jf, jq_e1, jq_e2, jq_e3, jq_e4, Bool.not_true, Bool.not_false, jq_0, jq_1, jq_2, jq_3, jq_4, jq_5, jq_6, jq_8, jq_12, jq_16, jq_20, jq_21, jq_24, jq_30, jq_32, jq_60, jq_84, jq_1000, jq_2436, jq_20001, W, e165_83, mm.2.1, jq_dn0, nx]
              rw [st, e165_165]
              by_cases c1 : jb_f N i = a
              · rw [if_pos c1] at ho hbk
                have c2 : jb_s N i ≠ a := fun c => w3 (by rw [c1, c])
                rw [ho, hbk]
                simp (disch := omega) only [jx_bI_s, jx_bL_s, jx_bV_s, eq_self, true_or, or_true, jx_if_t, jx_if_f, jq_b0, jq_b1, jq_bb, jq_b01, jx_if_in, jx_if_lt, jx_if_nlt, jx_if_le, jx_if_nle, jq_eqp, jq_eqn, nI_clamp, nI_add, pk_sub, pk_mul, jn_and, jn_or, jn_xor, jq_andn, jq_shl1, jq_bit, jq_mn, jq_mx, cond_true, cond_false, jq_jt, jq_jf, jq_e1, jq_e2, jq_e3, jq_e4, Bool.not_true, Bool.not_false, jq_0, jq_1, jq_2, jq_3, jq_4, jq_5, jq_6, jq_8, jq_12, jq_16, jq_20, jq_21, jq_24, jq_30, jq_32, jq_60, jq_84, jq_1000, jq_2436, jq_20001, m1, m2, e165_186, Nat.or_zero, e165_188, e165_217]
              · rw [if_neg c1] at ho hbk
                have c2 : jb_s N i = a := hinc.resolve_left c1
                rw [ho, hbk]
                simp (disch := omega) only [jx_bI_s, jx_bL_s, jx_bV_s, eq_self, true_or, or_true, jx_if_t, jx_if_f, jq_b0, jq_b1, jq_bb, jq_b01, jx_if_in, jx_if_lt, jx_if_nlt, jx_if_le, jx_if_nle, jq_eqp, jq_eqn, nI_clamp, nI_add, pk_sub, pk_mul, jn_and, jn_or, jn_xor, jq_andn, jq_shl1, jq_bit, jq_mn, jq_mx, cond_true, cond_false, jq_jt, jq_jf, jq_e1, jq_e2, jq_e3, jq_e4, Bool.not_true, Bool.not_false, jq_0, jq_1, jq_2, jq_3, jq_4, jq_5, jq_6, jq_8, jq_12, jq_16, jq_20, jq_21, jq_24, jq_30, jq_32, jq_60, jq_84, jq_1000, jq_2436, jq_20001, m1, m2, e165_186, e165_188, e165_217]
            have hno' : ∀ dn, jn_sb (done ||| 2 ^ i) dn → ∀ r, r < i + 1 → jb_inc N a r → dn.testBit r = true := fun dn hs2 r hr hc => by
              refine hs2 r ?_
              rw [Nat.testBit_or, jn_2k]
              by_cases er : r = i
              · simp [er]
              · rw [hno r (by omega) hc]
                rfl
            obtain ⟨Y1, Y2, Y3, Y4, Y5⟩ := e2
            cases hso : seen.testBit o
            · -- on to a new post
              have h2o := jn_2lt hop
              have M1 : jw_M (jb_p N) gm (jx_sI (jx_sI hm 51 0 o (nI 0)) 52 0 (s + 1) (nI o)) (seen ||| 2 ^ o) := by
                refine ⟨fun c h1 h2 => by rw [jx_sk h2, jx_sk h1]; exact M.1 c h1 h2, fun q hq => ?_⟩
                rw [jx_sk (by decide), jx_sv, Nat.testBit_or, jn_2k]
                by_cases e : q = o
                · rw [if_pos e]
                  simp [e]
                  rfl
                · have e' : ¬ o = q := fun k => e k.symm
                  rw [if_neg e, M.2 q hq]
                  simp [e']
              obtain ⟨sn, dn, bn, hx2, hm2, v1, v2, ⟨v3, v4, v5, v6, v7, v8, v9, v10⟩, v11⟩ := ih o (s + 1) seen (done ||| 2 ^ i) bk hx1 _ hf hs hop hso hsl hd1 hbkl ⟨Y1, Y2, Y3, Y4, Y5⟩ M1 jx_ss
              have hW2 : hm2.1 52 0 s = nI a := by
                rw [v5 s (by omega), jx_sp (by omega), jx_sk (by decide)]
                exact W
              obtain ⟨s', dn', b', hx3, hm3, u1, u2, u3, u4, u5, u6, u7, u8, u9, u10⟩ := ihk (i + 1) sn dn bn hx2 hm2 (by omega) (by have := jn_pc_mono v9; omega) (by have := jn_pc_mono v9; omega) (v9 a hsa) v6 v7 v8 v3 v4 hW2 (hno' dn v10)
              have hpo := jn_pc_sub hsl (jn_or_lt hsl h2o) (by omega) (fun i hi => by rw [Nat.testBit_or, hi]; rfl) (fun e => by
                have : (seen ||| 2 ^ o).testBit o = true := by rw [Nat.testBit_or, jn_2k]; simp
                rw [← e, hso] at this
                cases this)
              have hpo2 := jn_pc_len (jn_or_lt hsl h2o) (show jb_p N ≤ 32 by omega)
              refine ⟨s', dn', b', hx3, hm3, ?_, ?_, u3, u4, fun q hq => ?_, u6, u7, u8, fun q hq => u9 q (v9 q hq), fun q hq => u10 q (v10 q (by rw [Nat.testBit_or, hq]; rfl))⟩
              · rw [e1, e87_141, Y3]
                simp (disch := omega) only [jx_bI_s, jx_bL_s, jx_bV_s, eq_self, true_or, or_true, jx_if_t, jx_if_f, jq_b0, jq_b1, jq_bb, jq_b01, jx_if_in, jx_if_lt, jx_if_nlt, jx_if_le, jx_if_nle, jq_eqp, jq_eqn, nI_clamp, nI_add, pk_sub, pk_mul, jn_and, jn_or, jn_xor, jq_andn, jq_shl1, jq_bit, jq_mn, jq_mx, cond_true, cond_false, jq_jt, jq_jf, jq_e1, jq_e2, jq_e3, jq_e4, Bool.not_true, Bool.not_false, jq_0, jq_1, jq_2, jq_3, jq_4, jq_5, jq_6, jq_8, jq_12, jq_16, jq_20, jq_21, jq_24, jq_30, jq_32, jq_60, jq_84, jq_1000, jq_2436, jq_20001, dm_hasN, hso, v1, e87_162]
                exact u1
              · have is1 : hm.1 51 0 o = nI 1 := by
                  rw [M.2 o hop, hso]
                  rfl
                rw [eM, e165_219]
                simp (disch := omega) only [jx_bI_s, jx_bL_s, jx_bV_s, eq_self, true_or, or_true, jx_if_t, jx_if_f, jq_b0, jq_b1, jq_bb, jq_b01, jx_if_in, jx_if_lt, jx_if_nlt, jx_if_le, jx_if_nle, jq_eqp, jq_eqn, nI_clamp, nI_add, pk_sub, pk_mul, jn_and, jn_or, jn_xor, jq_andn, jq_shl1, jq_bit, jq_mn, jq_mx, cond_true, cond_false, jq_jt, jq_jf, jq_e1, jq_e2, jq_e3, jq_e4, Bool.not_true, Bool.not_false, jq_0, jq_1, jq_2, jq_3, jq_4, jq_5, jq_6, jq_8, jq_12, jq_16, jq_20, jq_21, jq_24, jq_30, jq_32, jq_60, jq_84, jq_1000, jq_2436, jq_20001, is1, e165_249]
                exact v2.trans u2
              · rw [u5 q hq, v5 q (by omega), jx_sp (by omega), jx_sk (by decide)]
            · -- the other end was seen
              obtain ⟨s', dn', b', hx3, hm3, u1, u2, u3, u4, u5, u6, u7, u8, u9, u10⟩ := ihk (i + 1) seen (done ||| 2 ^ i) bk hx1 hm (by omega) hf hs hsa hsl hd1 hbkl ⟨Y1, Y2, Y3, Y4, Y5⟩ M W (hno' _ (fun i hi => hi))
              refine ⟨s', dn', b', hx3, hm3, ?_, ?_, u3, u4, u5, u6, u7, u8, u9, fun q hq => u10 q (by rw [Nat.testBit_or, hq]; rfl)⟩
              · rw [e1, e87_141, Y3]
                simp (disch := omega) only [jx_bI_s, jx_bL_s, jx_bV_s, eq_self, true_or, or_true, jx_if_t, jx_if_f, jq_b0, jq_b1, jq_bb, jq_b01, jx_if_in, jx_if_lt, jx_if_nlt, jx_if_le, jx_if_nle, jq_eqp, jq_eqn, nI_clamp, nI_add, pk_sub, pk_mul, jn_and, jn_or, jn_xor, jq_andn, jq_shl1, jq_bit, jq_mn, jq_mx, cond_true, cond_false, jq_jt, jq_jf, jq_e1, jq_e2, jq_e3, jq_e4, Bool.not_true, Bool.not_false, jq_0, jq_1, jq_2, jq_3, jq_4, jq_5, jq_6, jq_8, jq_12, jq_16, jq_20, jq_21, jq_24, jq_30, jq_32, jq_60, jq_84, jq_1000, jq_2436, jq_20001, dm_hasN, hso, e87_162]
                exact u1
              · have is1 : hm.1 51 0 o = nI 0 := by
                  rw [M.2 o hop, hso]
                  rfl
                rw [eM, e165_219]
                simp (disch := omega) only [jx_bI_s, jx_bL_s, jx_bV_s, eq_self, true_or, or_true, jx_if_t, jx_if_f, jq_b0, jq_b1, jq_bb, jq_b01, jx_if_in, jx_if_lt, jx_if_nlt, jx_if_le, jx_if_nle, jq_eqp, jq_eqn, nI_clamp, nI_add, pk_sub, pk_mul, jn_and, jn_or, jn_xor, jq_andn, jq_shl1, jq_bit, jq_mn, jq_mx, cond_true, cond_false, jq_jt, jq_jf, jq_e1, jq_e2, jq_e3, jq_e4, Bool.not_true, Bool.not_false, jq_0, jq_1, jq_2, jq_3, jq_4, jq_5, jq_6, jq_8, jq_12, jq_16, jq_20, jq_21, jq_24, jq_30, jq_32, jq_60, jq_84, jq_1000, jq_2436, jq_20001, is1, e165_249]
                exact u2
          · have c1 : jb_f N i ≠ a := fun c => hinc (Or.inl c)
            have c2 : jb_s N i ≠ a := fun c => hinc (Or.inr c)
            refine skip ?_ (fun c => absurd c hinc)
            rw [e87_21, X2, xx.2.1]
            simp (disch := omega) only [jx_bI_s, jx_bL_s, jx_bV_s, eq_self, true_or, or_true, jx_if_t, jx_if_f, jq_b0, jq_b1, jq_bb, jq_b01, jx_if_in, jx_if_lt, jx_if_nlt, jx_if_le, jx_if_nle, jq_eqp, jq_eqn, nI_clamp, nI_add, pk_sub, pk_mul, jn_and, jn_or, jn_xor, jq_andn, jq_shl1, jq_bit, jq_mn, jq_mx, cond_true, cond_false, jq_jt, jq_jf, jq_e1, jq_e2, jq_e3, jq_e4, Bool.not_true, Bool.not_false, jq_0, jq_1, jq_2, jq_3, jq_4, jq_5, jq_6, jq_8, jq_12, jq_16, jq_20, jq_21, jq_24, jq_30, jq_32, jq_60, jq_84, jq_1000, jq_2436, jq_20001, x1, x2, e87_50, X4, X2, dm_hasN, hdi, e87_162]
        · refine skip ?_ (fun _ => hdi)
          rw [e87_21, X2, xx.2.1]
          by_cases c1 : jb_f N i = a
          · simp (disch := omega) only [jx_bI_s, jx_bL_s, jx_bV_s, eq_self, true_or, or_true, jx_if_t, jx_if_f, jq_b0, jq_b1, jq_bb, jq_b01, jx_if_in, jx_if_lt, jx_if_nlt, jx_if_le, jx_if_nle, jq_eqp, jq_eqn, nI_clamp, nI_add, pk_sub, pk_mul, jn_and, jn_or, jn_xor, jq_andn, jq_shl1, jq_bit, jq_mn, jq_mx, cond_true, cond_false, jq_jt, jq_jf, jq_e1, jq_e2, jq_e3, jq_e4, Bool.not_true, Bool.not_false, jq_0, jq_1, jq_2, jq_3, jq_4, jq_5, jq_6, jq_8, jq_12, jq_16, jq_20, jq_21, jq_24, jq_30, jq_32, jq_60, jq_84, jq_1000, jq_2436, jq_20001, x1, x2, e87_50, X4, X2, dm_hasN, hdi, e87_162]
          · simp (disch := omega) only [jx_bI_s, jx_bL_s, jx_bV_s, eq_self, true_or, or_true, jx_if_t, jx_if_f, jq_b0, jq_b1, jq_bb, jq_b01, jx_if_in, jx_if_lt, jx_if_nlt, jx_if_le, jx_if_nle, jq_eqp, jq_eqn, nI_clamp, nI_add, pk_sub, pk_mul, jn_and, jn_or, jn_xor, jq_andn, jq_shl1, jq_bit, jq_mn, jq_mx, cond_true, cond_false, jq_jt, jq_jf, jq_e1, jq_e2, jq_e3, jq_e4, Bool.not_true, Bool.not_false, jq_0, jq_1, jq_2, jq_3, jq_4, jq_5, jq_6, jq_8, jq_12, jq_16, jq_20, jq_21, jq_24, jq_30, jq_32, jq_60, jq_84, jq_1000, jq_2436, jq_20001, x1, x2, e87_50, X4, X2, dm_hasN, hdi, e87_162]
    obtain ⟨X1, X2, X3, X4, X5⟩ := X
    obtain ⟨s', dn', b', hx3, hm3, u1, u2, u3, u4, u5, u6, u7, u8, u9, u10⟩ := loop (jb_n N) 0 (seen ||| 2 ^ a) done back (jx_sI hx 25 0 1 (nI (seen ||| 2 ^ a))) hm (by omega) (by omega) (by omega) (by rw [Nat.testBit_or, jn_2k]; simp) hs1l hdl hbl ⟨fun c hc => by rw [jx_sk hc]; exact X1 c hc, by rw [jx_sp (by decide)]; exact X2, jx_ss, by rw [jx_sp (by decide)]; exact X4, by rw [jx_sp (by decide)]; exact X5⟩ M W (fun r hr => by omega)
    refine ⟨s', dn', b', hx3, hm3, ?_, u2, ⟨u3, u4, u5, u6, u7, u8, fun q hq => u9 q (by rw [Nat.testBit_or, hq]; rfl), u10⟩, u9 a (by rw [Nat.testBit_or, jn_2k]; simp)⟩
    rw [show d + (f + 1) + 2 = (d + f + 2) + 1 by omega, d87, e87_0, X3]
    simp (disch := omega) only [jx_bI_s, jx_bL_s, jx_bV_s, eq_self, true_or, or_true, jx_if_t, jx_if_f, jq_b0, jq_b1, jq_bb, jq_b01, jx_if_in, jx_if_lt, jx_if_nlt, jx_if_le, jx_if_nle, jq_eqp, jq_eqn, nI_clamp, nI_add, pk_sub, pk_mul, jn_and, jn_or, jn_xor, jq_andn, jq_shl1, jq_bit, jq_mn, jq_mx, cond_true, cond_false, jq_jt, jq_jf, jq_e1, jq_e2, jq_e3, jq_e4, Bool.not_true, Bool.not_false, jq_0, jq_1, jq_2, jq_3, jq_4, jq_5, jq_6, jq_8, jq_12, jq_16, jq_20, jq_21, jq_24, jq_30, jq_32, jq_60, jq_84, jq_1000, jq_2436, jq_20001]
    exact u1
end
