/-! ===== layer 2: blocks ===== -/
/-- the end of r that is not q -/
def jb_oe (N : jb_N) (r q : Nat) : Nat := if jb_f N r = q then jb_s N r else jb_f N r
def jb_en (N : jb_N) (r v u : Nat) : Prop := (jb_f N r = v ∧ jb_s N r = u) ∨ (jb_s N r = v ∧ jb_f N r = u)
/-- no post parts r and s -/
def jb_ob (N : jb_N) (r s : Nat) : Prop := ∀ q, q < jb_p N → jb_rc N (2 ^ q) (2 ^ jb_n N - 1) (jb_oe N r q) (jb_oe N s q)
theorem jn_2f {q i : Nat} : (2 ^ q).testBit i = false ↔ i ≠ q := by
  rw [jn_2k]
  simp only [decide_eq_false_iff_not]
  exact ⟨fun h e => h e.symm, fun h e => h e.symm⟩
theorem jn_allr {n r : Nat} (h : r < n) : (2 ^ n - 1).testBit r = true := by rw [jn_all_t]; simpa using h
section
variable {N : jb_N}
theorem jb_oe_ne (w : jb_wf N) {r q : Nat} (hr : r < jb_n N) : jb_oe N r q ≠ q := by
  obtain ⟨_, _, w3, _⟩ := w.2.2 r hr
  unfold jb_oe
  split
  · rename_i e
    intro k
    exact w3 (by rw [e, k])
  · rename_i e
    exact e
theorem jb_oe_lt (w : jb_wf N) {r q : Nat} (hr : r < jb_n N) : jb_oe N r q < jb_p N := by
  obtain ⟨w1, w2, w3, _⟩ := w.2.2 r hr
  unfold jb_oe
  split
  · exact w2
  · exact w1
theorem jb_oe_en (w : jb_wf N) {r v u : Nat} (hr : r < jb_n N) (h : jb_en N r v u) : jb_oe N r v = u := by
  obtain ⟨w1, w2, w3, _⟩ := w.2.2 r hr
  unfold jb_oe
  rcases h with ⟨h1, h2⟩ | ⟨h1, h2⟩
  · rw [if_pos h1, h2]
  · rw [if_neg (fun e => w3 (by rw [e, h1])), h2]
theorem jb_en_sym {r v u : Nat} (h : jb_en N r v u) : jb_en N r u v := h.elim (fun k => Or.inr ⟨k.2, k.1⟩) (fun k => Or.inl ⟨k.2, k.1⟩)
theorem jb_en_w (w : jb_wf N) {r v u : Nat} (hr : r < jb_n N) (h : jb_en N r v u) : v < jb_p N ∧ u < jb_p N ∧ v ≠ u := by
  obtain ⟨w1, w2, w3, _⟩ := w.2.2 r hr
  rcases h with ⟨rfl, rfl⟩ | ⟨rfl, rfl⟩
  · exact ⟨w1, w2, w3⟩
  · exact ⟨w2, w1, Ne.symm w3⟩
theorem jb_rd_rc (ht : jb_t N = false) {W r v u : Nat} (hr : r < jb_n N) (h : jb_en N r v u) (hv : W.testBit v = false) (hu : W.testBit u = false) : jb_rc N W (2 ^ jb_n N - 1) v u := by
  rcases h with ⟨rfl, rfl⟩ | ⟨rfl, rfl⟩
  · exact (jb_rc_cl N W _ _ r hr (jn_allr hr) hv hu).1 jb_rc.rf
  · exact (jb_rc_cl N W _ _ r hr (jn_allr hr) hu hv).2 ht jb_rc.rf
theorem jb_oe_v (ht : jb_t N = false) {r v u q : Nat} (hr : r < jb_n N) (h : jb_en N r v u) (hq : q ≠ v) : jb_rc N (2 ^ q) (2 ^ jb_n N - 1) (jb_oe N r q) v := by
  unfold jb_oe
  rcases h with ⟨rfl, rfl⟩ | ⟨rfl, rfl⟩
  · rw [if_neg (Ne.symm hq)]
    exact jb_rc.rf
  · by_cases e : jb_f N r = q
    · rw [if_pos e]
      exact jb_rc.rf
    · rw [if_neg e]
      exact jb_rd_rc ht hr (Or.inl ⟨rfl, rfl⟩) (jn_2f.2 e) (jn_2f.2 (Ne.symm hq))
theorem jb_ob_step (w : jb_wf N) (ht : jb_t N = false) {r0 e r v u u' : Nat} (he : e < jb_n N) (hr : r < jb_n N) (h0 : jb_ob N r0 e) (h1 : jb_en N e v u) (h2 : jb_en N r v u') (h3 : jb_rc N (2 ^ v) (2 ^ jb_n N - 1) u u') : jb_ob N r0 r := by
  intro q hq
  by_cases hqv : q = v
  · subst hqv
    have := h0 q hq
    rw [jb_oe_en w he h1] at this
    rw [jb_oe_en w hr h2]
    exact this.tr h3
  · exact ((h0 q hq).tr (jb_oe_v ht he h1 hqv)).tr (jb_rc_sym ht (jb_oe_v ht hr h2 hqv))
theorem jb_blk (w : jb_wf N) (ht : jb_t N = false) {K : Nat → Prop} {r0 : Nat} (hr0 : r0 < jb_n N) (k0 : K r0) (sound : ∀ r, r < jb_n N → K r → jb_ob N r0 r) (clos : ∀ e, e < jb_n N → K e → ∀ r, r < jb_n N → ∀ v u u', jb_en N e v u → jb_en N r v u' → jb_rc N (2 ^ v) (2 ^ jb_n N - 1) u u' → K r) {s : Nat} (hs : s < jb_n N) (h : jb_ob N r0 s) : K s := by
  apply Classical.byContradiction
  intro hn
  have V1 : ∀ e v u u', e < jb_n N → K e → jb_en N e v u → jb_en N s v u' → False := by
    intro e v u u' he hK h1 h2
    have hv := (jb_en_w w he h1).1
    have a := sound e he hK v hv
    have b := h v hv
    rw [jb_oe_en w he h1] at a
    rw [jb_oe_en w hs h2] at b
    exact hn (clos e he hK s hs v u u' h1 h2 ((jb_rc_sym ht a).tr b))
  have hVm := fun v => jn_mk_t (fun v => @decide (∃ e u, e < jb_n N ∧ K e ∧ jb_en N e v u) (Classical.propDecidable _)) v (jb_p N)
  generalize jn_mk (fun v => @decide (∃ e u, e < jb_n N ∧ K e ∧ jb_en N e v u) (Classical.propDecidable _)) (jb_p N) = V at hVm
  have hV : ∀ v, V.testBit v = true ↔ ∃ e u, e < jb_n N ∧ K e ∧ jb_en N e v u := fun v => by
    rw [hVm v, Bool.and_eq_true, decide_eq_true_eq, @decide_eq_true_eq _ (Classical.propDecidable _)]
    refine ⟨fun k => k.2, fun k => ⟨?_, k⟩⟩
    obtain ⟨e, u, he, _, h1⟩ := k
    exact (jb_en_w w he h1).1
  have hx : V.testBit (jb_f N s) = false := by
    cases hb : V.testBit (jb_f N s) with
    | false => rfl
    | true =>
      obtain ⟨e, u, he, hK, h1⟩ := (hV _).1 hb
      exact absurd (V1 e _ u _ he hK h1 (Or.inl ⟨rfl, rfl⟩)) id
  have ea : jb_en N r0 (jb_f N r0) (jb_s N r0) := Or.inl ⟨rfl, rfl⟩
  obtain ⟨va, vb, vab⟩ := jb_en_w w hr0 ea
  have hVa : V.testBit (jb_f N r0) = true := (hV _).2 ⟨r0, _, hr0, k0, ea⟩
  have hVb : V.testBit (jb_s N r0) = true := (hV _).2 ⟨r0, _, hr0, k0, Or.inr ⟨rfl, rfl⟩⟩
  have nex : ∀ v, V.testBit v = true → jb_oe N s v = jb_f N s := fun v hv => by
    unfold jb_oe
    rw [if_neg]
    intro e
    rw [e, hv] at hx
    cases hx
  have h1 := h _ va
  rw [jb_oe_en w hr0 ea, nex _ hVa] at h1
  have h2 := jb_rc_sym ht h1
  have h3 : jb_rc N V (2 ^ jb_n N - 1) (jb_f N s) (jb_s N r0) := by
    have step : ∀ r v u, r < jb_n N → jb_en N r u v → jb_rc N V (2 ^ jb_n N - 1) (jb_f N s) u → jb_rc N V (2 ^ jb_n N - 1) (jb_f N s) v := by
      intro r v u hr he hu
      have hVu := jb_rc_out hu hx
      cases hVv : V.testBit v with
      | false => exact hu.tr (jb_rd_rc ht hr he hVu hVv)
      | true =>
        exfalso
        obtain ⟨e, u2, he2, hK, h5⟩ := (hV v).1 hVv
        have hv := (jb_en_w w he2 h5).1
        have a := sound e he2 hK v hv
        have b := h v hv
        rw [jb_oe_en w he2 h5] at a
        rw [nex v hVv] at b
        have c : jb_rc N (2 ^ v) (2 ^ jb_n N - 1) (jb_f N s) u := jb_rc_mono (fun i hi => by
          rw [jn_2k, decide_eq_true_eq] at hi
          rw [← hi]
          exact hVv) (fun _ k => k) hu
        have hrK : K r := clos e he2 hK r hr v u2 u h5 (jb_en_sym he) (((jb_rc_sym ht a).tr b).tr c)
        have : V.testBit u = true := (hV u).2 ⟨r, v, hr, hrK, he⟩
        rw [this] at hVu
        cases hVu
    refine h2 (fun z => jb_rc N V (2 ^ jb_n N - 1) (jb_f N s) z) jb_rc.rf (fun r hr _ _ _ => ⟨fun k => step r _ _ hr (Or.inl ⟨rfl, rfl⟩) k, fun _ k => step r _ _ hr (Or.inr ⟨rfl, rfl⟩) k⟩)
  rw [jb_rc_out h3 hx] at hVb
  cases hVb
end
theorem jn_ct_full {f : Nat → Bool} : ∀ n, (∀ i, i < n → f i = true) → jn_ct f n = n := by
  intro n
  induction n with
  | zero => intro _; rfl
  | succ n ih =>
    intro hf
    simp only [jn_ct, ih (fun i hi => hf i (by omega))]
    rw [if_pos (hf n (by omega))]
theorem jn_pc_all {k : Nat} (hk : k ≤ 32) : jn_pc (2 ^ k - 1) = k := by
  rw [jn_pc_n (n := k) (by have := Nat.two_pow_pos k; omega) hk]
  exact jn_ct_full k (fun i hi => jn_allr hi)
section
variable {d : Nat} {h : jx_H} {N : jb_N}
theorem dm_low {x k q : Nat} (e : x = 2 ^ (k + 1) * q + 2 ^ k) (hx : x < 2 ^ 31) (h : jx_H) : DM (d + 2) 63 [vi (nI x)] h = some ([vi (nI k)], h) := by
  have h0 := Nat.two_pow_pos k
  have hk : k < 31 := jn_hi hx (jn_low_has e).1
  rw [d63, e63_0, jn_lowI e hx]
  have hl : 2 ^ k ≤ x := by omega
  simp (disch := omega) only [jx_bI_s, jx_bL_s, jx_bV_s, eq_self, true_or, or_true, jx_if_t, jx_if_f, jq_b0, jq_b1, jq_bb, jq_b01, jx_if_in, jx_if_lt, jx_if_nlt, jx_if_le, jx_if_nle, jq_eqp, jq_eqn, nI_clamp, nI_add, pk_sub, pk_mul, jn_and, jn_or, jn_xor, jq_andn, jq_shl1, jq_bit, jq_mn, jq_mx, cond_true, cond_false, jq_jt, jq_jf, jq_e1, jq_e2, jq_e3, jq_e4, Bool.not_true, Bool.not_false, jq_0, jq_1, jq_2, jq_3, jq_4, jq_5, jq_6, jq_8, jq_12, jq_16, jq_20, jq_21, jq_24, jq_30, jq_32, jq_60, jq_84, jq_1000, jq_2436, jq_20001, dm_bc, jn_pc_all (show k ≤ 32 by omega)]
theorem dm_ring (w : jb_wf N) (P : jp_P h N) (ht : jb_t N = false) {a b : Nat} (ha : a < jb_p N) (hb : b < jb_p N) (ne : a ≠ b) : ∃ G, G < 2 ^ jb_n N ∧ DM (d + 2) 64 [vr 14 0, vi (nI (2 ^ a)), vi (nI (2 ^ b))] h = some ([vi (nI G)], h) ∧ ∀ r, r < jb_n N → (G.testBit r = true ↔ ∃ u, jb_en N r a u ∧ jb_rc N (2 ^ a) (2 ^ jb_n N - 1) b u) := by
  have hp := w.1
  have h8 := jn_pow8 hp
  have i8 := Nat.two_pow_pos (jb_p N)
  have h2a := jn_2lt ha
  have h2b := jn_2lt hb
  have hO : jn_df (2 ^ jb_p N - 1) (2 ^ a) < 2 ^ jb_p N := jn_df_lt (by omega)
  obtain ⟨R, r1, r2, r3⟩ := dm_reachX (d := d) w P (F := 2 ^ b) (V := jn_df (2 ^ jb_p N - 1) (2 ^ a)) h2b hO
  have s4 : ∀ x, R.testBit x = true ↔ jb_rc N (2 ^ a) (2 ^ jb_n N - 1) b x := fun x => by
    rw [r3 x, jn_df_2 ha]
    constructor
    · rintro ⟨z, a1, a2, a3⟩
      rw [jn_2k, decide_eq_true_eq] at a1
      subst a1
      exact a3
    · intro z
      refine ⟨b, by rw [jn_2k]; simp, ?_, z⟩
      rw [jn_all_df, jn_2f.2 (Ne.symm ne)]
      simpa using hb
  refine ⟨jp_bt N (2 ^ a) R, jp_bt_lt _ _ _, ?_, fun r hr => ?_⟩
  · rw [d64, e64_0, P.1.2.2.2.1]
    simp (disch := omega) only [jx_bI_s, jx_bL_s, jx_bV_s, eq_self, true_or, or_true, jx_if_t, jx_if_f, jq_b0, jq_b1, jq_bb, jq_b01, jx_if_in, jx_if_lt, jx_if_nlt, jx_if_le, jx_if_nle, jq_eqp, jq_eqn, nI_clamp, nI_add, pk_sub, pk_mul, jn_and, jn_or, jn_xor, jq_andn, jq_shl1, jq_bit, jq_mn, jq_mx, cond_true, cond_false, jq_jt, jq_jf, jq_e1, jq_e2, jq_e3, jq_e4, Bool.not_true, Bool.not_false, jq_0, jq_1, jq_2, jq_3, jq_4, jq_5, jq_6, jq_8, jq_12, jq_16, jq_20, jq_21, jq_24, jq_30, jq_32, jq_60, jq_84, jq_1000, jq_2436, jq_20001, r2, dm_bt w P h2a r1]
  · unfold jp_bt
    rw [jn_mk_t, decide_eq_true hr, Bool.true_and, jp_btb_t]
    simp only [jn_2k, decide_eq_true_eq, s4]
    unfold jb_en
    constructor
    · rintro (⟨c1, c2⟩ | ⟨c0, c1, c2⟩)
      · exact ⟨_, Or.inl ⟨c1.symm, rfl⟩, c2⟩
      · exact ⟨_, Or.inr ⟨c1.symm, rfl⟩, c2⟩
    · rintro ⟨u, ⟨rfl, rfl⟩ | ⟨rfl, rfl⟩, c⟩
      · exact Or.inl ⟨rfl, c⟩
      · exact Or.inr ⟨ht, rfl, c⟩
theorem dm_blockX (w : jb_wf N) (x : jb_X h 0 N) (P : jp_P h N) (ht : jb_t N = false) {r0 : Nat} (hr0 : r0 < jb_n N) : ∃ K, K < 2 ^ jb_n N ∧ DM (d + 3) 62 [vr 14 0, vi (nI r0), vr 1 0] h = some ([vi (nI K)], h) ∧ ∀ r, r < jb_n N → (K.testBit r = true ↔ jb_ob N r0 r) := by
  have P0 := P
  obtain ⟨⟨p0, p1, p2, p3, p4, p5, p6⟩, pT⟩ := P
  have hn := w.2.1
  have hp := w.1
  have h8 := jn_pow8 hp
  have h20 := jn_pow20 hn
  have i20 := Nat.two_pow_pos (jb_n N)
  have fin : ∀ K, K < 2 ^ jb_n N → K.testBit r0 = true → (∀ r, K.testBit r = true → jb_ob N r0 r) → (∀ e, K.testBit e = true → ∀ r, r < jb_n N → ∀ v u u', jb_en N e v u → jb_en N r v u' → jb_rc N (2 ^ v) (2 ^ jb_n N - 1) u u' → K.testBit r = true) → ∀ r, r < jb_n N → (K.testBit r = true ↔ jb_ob N r0 r) := fun K hK k1 k2 k3 r hr => ⟨k2 r, fun c => jb_blk w ht (K := fun r => K.testBit r = true) hr0 k1 (fun r _ => k2 r) (fun e _ => k3 e) hr c⟩
  have loop : ∀ k i K O, i + k = jb_n N → K < 2 ^ jb_n N → O < 2 ^ jb_n N → jn_sb O K → K.testBit r0 = true → (∀ r, K.testBit r = true → jb_ob N r0 r) → (∀ e, K.testBit e = true → O.testBit e = false → ∀ r, r < jb_n N → ∀ v u u', jb_en N e v u → jb_en N r v u' → jb_rc N (2 ^ v) (2 ^ jb_n N - 1) u u' → K.testBit r = true) → i ≤ jn_pc (jn_df K O) → ∃ K', K' < 2 ^ jb_n N ∧ F62_10 (DM (d + 2)) (nI K) (nI O) (nI i) h = some ([vi (nI K')], h) ∧ ∀ r, r < jb_n N → (K'.testBit r = true ↔ jb_ob N r0 r) := by
    intro k
    induction k with
    | zero =>
      intro i K O hi hK hO hOK h0 hs hc hcount
      refine ⟨K, hK, ?_, fin K hK h0 hs (fun e he r hr v u u' a b c => hc e he ?_ r hr v u u' a b c)⟩
      · rw [e62_10, p1]
        simp (disch := omega) only [jx_bI_s, jx_bL_s, jx_bV_s, eq_self, true_or, or_true, jx_if_t, jx_if_f, jq_b0, jq_b1, jq_bb, jq_b01, jx_if_in, jx_if_lt, jx_if_nlt, jx_if_le, jx_if_nle, jq_eqp, jq_eqn, nI_clamp, nI_add, pk_sub, pk_mul, jn_and, jn_or, jn_xor, jq_andn, jq_shl1, jq_bit, jq_mn, jq_mx, cond_true, cond_false, jq_jt, jq_jf, jq_e1, jq_e2, jq_e3, jq_e4, Bool.not_true, Bool.not_false, jq_0, jq_1, jq_2, jq_3, jq_4, jq_5, jq_6, jq_8, jq_12, jq_16, jq_20, jq_21, jq_24, jq_30, jq_32, jq_60, jq_84, jq_1000, jq_2436, jq_20001, e62_101]
      · cases hb : O.testBit e with
        | false => rfl
        | true =>
          have := jn_pc_sub (n := jb_n N) (x := jn_df K O) (y := 2 ^ jb_n N - 1) (jn_df_lt hK) (by omega) (by omega) (fun j hj => by
            rw [jn_df_t, Bool.and_eq_true] at hj
            exact jn_allr (jn_hi hK hj.1)) (fun e2 => by
            have h1 : (jn_df K O).testBit e = true := by
              rw [e2]
              exact jn_allr (jn_hi hO hb)
            rw [jn_df_t, hb] at h1
            simp at h1)
          rw [jn_pc_all (by omega)] at this
          omega
    | succ k ih =>
      intro i K O hi hK hO hOK h0 hs hc hcount
      by_cases hO0 : O = 0
      · subst hO0
        refine ⟨K, hK, ?_, fin K hK h0 hs (fun e he => hc e he (Nat.zero_testBit _))⟩
        rw [e62_10, p1]
        simp (disch := omega) only [jx_bI_s, jx_bL_s, jx_bV_s, eq_self, true_or, or_true, jx_if_t, jx_if_f, jq_b0, jq_b1, jq_bb, jq_b01, jx_if_in, jx_if_lt, jx_if_nlt, jx_if_le, jx_if_nle, jq_eqp, jq_eqn, nI_clamp, nI_add, pk_sub, pk_mul, jn_and, jn_or, jn_xor, jq_andn, jq_shl1, jq_bit, jq_mn, jq_mx, cond_true, cond_false, jq_jt, jq_jf, jq_e1, jq_e2, jq_e3, jq_e4, Bool.not_true, Bool.not_false, jq_0, jq_1, jq_2, jq_3, jq_4, jq_5, jq_6, jq_8, jq_12, jq_16, jq_20, jq_21, jq_24, jq_30, jq_32, jq_60, jq_84, jq_1000, jq_2436, jq_20001, e62_101]
      · obtain ⟨e, q, ee⟩ := jn_low (show 0 < O by omega)
        have heO := (jn_low_has ee).1
        have hen := jn_hi hO heO
        obtain ⟨w1, w2, w3, _⟩ := w.2.2 e hen
        obtain ⟨x1, x2, _⟩ := x.2.2.2 e hen
        obtain ⟨G1, g1, g2, g3⟩ := dm_ring (d := d) w P0 ht w1 w2 w3
        obtain ⟨G2, f1, f2, f3⟩ := dm_ring (d := d) w P0 ht w2 w1 (Ne.symm w3)
        have hG : G1 ||| G2 < 2 ^ jb_n N := jn_or_lt g1 f1
        have hM : jn_df (G1 ||| G2) K < 2 ^ jb_n N := jn_df_lt hG
        have hGt : ∀ r, r < jb_n N → ((G1 ||| G2).testBit r = true ↔ ∃ v u u', jb_en N e v u ∧ jb_en N r v u' ∧ jb_rc N (2 ^ v) (2 ^ jb_n N - 1) u u') := fun r hr => by
          rw [Nat.testBit_or, Bool.or_eq_true, g3 r hr, f3 r hr]
          constructor
          · rintro (⟨u, c1, c2⟩ | ⟨u, c1, c2⟩)
            · exact ⟨_, _, u, Or.inl ⟨rfl, rfl⟩, c1, c2⟩
            · exact ⟨_, _, u, Or.inr ⟨rfl, rfl⟩, c1, c2⟩
          · rintro ⟨v, u, u', ⟨rfl, rfl⟩ | ⟨rfl, rfl⟩, c1, c2⟩
            · exact Or.inl ⟨u', c1, c2⟩
            · exact Or.inr ⟨u', c1, c2⟩
        have hheK := hOK e heO
        have hM2 : ∀ r, (jn_df (G1 ||| G2) K).testBit r = true ↔ (G1 ||| G2).testBit r = true ∧ K.testBit r = false := fun r => by
          rw [jn_df_t, Bool.and_eq_true, Bool.not_eq_true']
        generalize hMe : jn_df (G1 ||| G2) K = Mr at *
        have hO' : jn_df O (2 ^ e) ||| Mr < 2 ^ jb_n N := jn_or_lt (jn_df_lt hO) hM
        have hO't : ∀ r, (jn_df O (2 ^ e) ||| Mr).testBit r = true ↔ (O.testBit r = true ∧ r ≠ e) ∨ Mr.testBit r = true := fun r => by
          rw [Nat.testBit_or, Bool.or_eq_true, jn_df_t, Bool.and_eq_true, Bool.not_eq_true', jn_2f]
        have hK't : ∀ r, (K ||| Mr).testBit r = true ↔ K.testBit r = true ∨ Mr.testBit r = true := fun r => by
          rw [Nat.testBit_or, Bool.or_eq_true]
        obtain ⟨K', l1, l2, l3⟩ := ih (i + 1) (K ||| Mr) (jn_df O (2 ^ e) ||| Mr) (by omega) (jn_or_lt hK hM) hO' (fun r hr => by
          rw [hK't]
          rcases (hO't r).1 hr with c | c
          · exact Or.inl (hOK r c.1)
          · exact Or.inr c) ((hK't r0).2 (Or.inl h0)) (fun r hr => by
          rcases (hK't r).1 hr with c | c
          · exact hs r c
          · have hrn := jn_hi hM c
            obtain ⟨v, u, u', c1, c2, c3⟩ := (hGt r hrn).1 ((hM2 r).1 c).1
            exact jb_ob_step w ht hen hrn (hs e hheK) c1 c2 c3) (fun e' he' hoe' r hr v u u' c1 c2 c3 => by
          rw [hK't]
          have hno : ¬ ((O.testBit e' = true ∧ e' ≠ e) ∨ Mr.testBit e' = true) := fun c => by
            rw [(hO't e').2 c] at hoe'
            cases hoe'
          by_cases ee' : e' = e
          · subst ee'
            cases hKr : K.testBit r with
            | true => exact Or.inl rfl
            | false => exact Or.inr ((hM2 r).2 ⟨(hGt r hr).2 ⟨v, u, u', c1, c2, c3⟩, hKr⟩)
          · have hKe : K.testBit e' = true := ((hK't e').1 he').resolve_right (fun c => hno (Or.inr c))
            have hOe : O.testBit e' = false := by
              cases hb : O.testBit e' with
              | false => rfl
              | true => exact absurd (Or.inl ⟨hb, ee'⟩) hno
            exact Or.inl (hc e' hKe hOe r hr v u u' c1 c2 c3)) (by
          have := jn_pc_sub (n := jb_n N) (x := jn_df K O) (y := jn_df (K ||| Mr) (jn_df O (2 ^ e) ||| Mr)) (jn_df_lt hK) (jn_df_lt (jn_or_lt hK hM)) (by omega) (fun j hj => by
            rw [jn_df_t, Bool.and_eq_true, Bool.not_eq_true'] at hj
            rw [jn_df_t, Bool.and_eq_true, Bool.not_eq_true']
            refine ⟨(hK't j).2 (Or.inl hj.1), ?_⟩
            cases hb : (jn_df O (2 ^ e) ||| Mr).testBit j with
            | false => rfl
            | true =>
              rcases (hO't j).1 hb with c | c
              · rw [c.1] at hj
                cases hj.2
              · have := ((hM2 j).1 c).2
                rw [hj.1] at this
                cases this) (fun e2 => by
            have h1 : (jn_df (K ||| Mr) (jn_df O (2 ^ e) ||| Mr)).testBit e = true := by
              rw [jn_df_t, Bool.and_eq_true, Bool.not_eq_true']
              refine ⟨(hK't e).2 (Or.inl hheK), ?_⟩
              cases hb : (jn_df O (2 ^ e) ||| Mr).testBit e with
              | false => rfl
              | true =>
                rcases (hO't e).1 hb with c | c
                · exact absurd rfl c.2
                · have := ((hM2 e).1 c).2
                  rw [hheK] at this
                  cases this
            rw [← e2, jn_df_t, heO] at h1
            simp at h1)
          omega)
        refine ⟨K', l1, ?_, l3⟩
        rw [e62_10, p1]
        simp (disch := omega) only [jx_bI_s, jx_bL_s, jx_bV_s, eq_self, true_or, or_true, jx_if_t, jx_if_f, jq_b0, jq_b1, jq_bb, jq_b01, jx_if_in, jx_if_lt, jx_if_nlt, jx_if_le, jx_if_nle, jq_eqp, jq_eqn, nI_clamp, nI_add, pk_sub, pk_mul, jn_and, jn_or, jn_xor, jq_andn, jq_shl1, jq_bit, jq_mn, jq_mx, cond_true, cond_false, jq_jt, jq_jf, jq_e1, jq_e2, jq_e3, jq_e4, Bool.not_true, Bool.not_false, jq_0, jq_1, jq_2, jq_3, jq_4, jq_5, jq_6, jq_8, jq_12, jq_16, jq_20, jq_21, jq_24, jq_30, jq_32, jq_60, jq_84, jq_1000, jq_2436, jq_20001, dm_low ee (show O < 2 ^ 31 by omega), x1, x2, e62_42, e62_53, g2, f2, e62_76, e62_81, e62_95, hMe]
        exact l2
  have h2r := jn_2lt hr0
  obtain ⟨K', l1, l2, l3⟩ := loop (jb_n N) 0 (2 ^ r0) (2 ^ r0) (by omega) h2r h2r (fun i hi => hi) (by rw [jn_2k]; simp) (fun r hr => by
    rw [jn_2k, decide_eq_true_eq] at hr
    subst hr
    exact fun q hq => jb_rc.rf) (fun e he hne => by
    rw [he] at hne
    cases hne) (Nat.zero_le _)
  refine ⟨K', l1, ?_, l3⟩
  rw [d62, e62_0]
  simp (disch := omega) only [jx_bI_s, jx_bL_s, jx_bV_s, eq_self, true_or, or_true, jx_if_t, jx_if_f, jq_b0, jq_b1, jq_bb, jq_b01, jx_if_in, jx_if_lt, jx_if_nlt, jx_if_le, jx_if_nle, jq_eqp, jq_eqn, nI_clamp, nI_add, pk_sub, pk_mul, jn_and, jn_or, jn_xor, jq_andn, jq_shl1, jq_bit, jq_mn, jq_mx, cond_true, cond_false, jq_jt, jq_jf, jq_e1, jq_e2, jq_e3, jq_e4, Bool.not_true, Bool.not_false, jq_0, jq_1, jq_2, jq_3, jq_4, jq_5, jq_6, jq_8, jq_12, jq_16, jq_20, jq_21, jq_24, jq_30, jq_32, jq_60, jq_84, jq_1000, jq_2436, jq_20001, e62_4]
  exact l2
theorem dm_oneM (w : jb_wf N) (m : jb_M h N) {r s : Nat} (hr : r < jb_n N) (hs : s < jb_n N) : ∃ B : Bool, DM (d + 3) 152 [vr 30 0, vi (nI r), vi (nI s)] h = some ([vi (jn_b B)], h) ∧ (B = true ↔ jb_ob N r s) := by
  have hn := w.2.1
  have hp := w.1
  have h8 := jn_pow8 hp
  have h20 := jn_pow20 hn
  have i20 := Nat.two_pow_pos (jb_n N)
  obtain ⟨w1, w2, w3, _⟩ := w.2.2 r hr
  obtain ⟨v1, v2, v3, _⟩ := w.2.2 s hs
  obtain ⟨m1, m2, _⟩ := m.2.2.2 r hr
  obtain ⟨n1, n2, _⟩ := m.2.2.2 s hs
  have st : ∀ i, i < jb_p N → F152_2 (DM (d + 2)) (nI r) (nI s) (nI i) h = F152_62 (DM (d + 2)) (nI r) (nI s) (nI i) (nI (jb_oe N r i)) (nI (jb_oe N s i)) h := by
    intro i hi
    rw [e152_2, m.1]
    unfold jb_oe
    by_cases a : jb_f N r = i
    · by_cases b : jb_f N s = i
      · rw [if_pos a, if_pos b]
        simp (disch := omega) only [jx_bI_s, jx_bL_s, jx_bV_s, eq_self, true_or, or_true, jx_if_t, jx_if_f, jq_b0, jq_b1, jq_bb, jq_b01, jx_if_in, jx_if_lt, jx_if_nlt, jx_if_le, jx_if_nle, jq_eqp, jq_eqn, nI_clamp, nI_add, pk_sub, pk_mul, jn_and, jn_or, jn_xor, jq_andn, jq_shl1, jq_bit, jq_mn, jq_mx, cond_true, cond_false, jq_jt, jq_jf, jq_e1, jq_e2, jq_e3, jq_e4, Bool.not_true, Bool.not_false, jq_0, jq_1, jq_2, jq_3, jq_4, jq_5, jq_6, jq_8, jq_12, jq_16, jq_20, jq_21, jq_24, jq_30, jq_32, jq_60, jq_84, jq_1000, jq_2436, jq_20001, m1, m2, n1, n2, e152_35]
      · rw [if_pos a, if_neg b]
        simp (disch := omega) only [jx_bI_s, jx_bL_s, jx_bV_s, eq_self, true_or, or_true, jx_if_t, jx_if_f, jq_b0, jq_b1, jq_bb, jq_b01, jx_if_in, jx_if_lt, jx_if_nlt, jx_if_le, jx_if_nle, jq_eqp, jq_eqn, nI_clamp, nI_add, pk_sub, pk_mul, jn_and, jn_or, jn_xor, jq_andn, jq_shl1, jq_bit, jq_mn, jq_mx, cond_true, cond_false, jq_jt, jq_jf, jq_e1, jq_e2, jq_e3, jq_e4, Bool.not_true, Bool.not_false, jq_0, jq_1, jq_2, jq_3, jq_4, jq_5, jq_6, jq_8, jq_12, jq_16, jq_20, jq_21, jq_24, jq_30, jq_32, jq_60, jq_84, jq_1000, jq_2436, jq_20001, m1, m2, n1, n2, e152_35]
    · by_cases b : jb_f N s = i
      · rw [if_neg a, if_pos b]
        simp (disch := omega) only [jx_bI_s, jx_bL_s, jx_bV_s, eq_self, true_or, or_true, jx_if_t, jx_if_f, jq_b0, jq_b1, jq_bb, jq_b01, jx_if_in, jx_if_lt, jx_if_nlt, jx_if_le, jx_if_nle, jq_eqp, jq_eqn, nI_clamp, nI_add, pk_sub, pk_mul, jn_and, jn_or, jn_xor, jq_andn, jq_shl1, jq_bit, jq_mn, jq_mx, cond_true, cond_false, jq_jt, jq_jf, jq_e1, jq_e2, jq_e3, jq_e4, Bool.not_true, Bool.not_false, jq_0, jq_1, jq_2, jq_3, jq_4, jq_5, jq_6, jq_8, jq_12, jq_16, jq_20, jq_21, jq_24, jq_30, jq_32, jq_60, jq_84, jq_1000, jq_2436, jq_20001, m1, m2, n1, n2, e152_35]
      · rw [if_neg a, if_neg b]
        simp (disch := omega) only [jx_bI_s, jx_bL_s, jx_bV_s, eq_self, true_or, or_true, jx_if_t, jx_if_f, jq_b0, jq_b1, jq_bb, jq_b01, jx_if_in, jx_if_lt, jx_if_nlt, jx_if_le, jx_if_nle, jq_eqp, jq_eqn, nI_clamp, nI_add, pk_sub, pk_mul, jn_and, jn_or, jn_xor, jq_andn, jq_shl1, jq_bit, jq_mn, jq_mx, cond_true, cond_false, jq_jt, jq_jf, jq_e1, jq_e2, jq_e3, jq_e4, Bool.not_true, Bool.not_false, jq_0, jq_1, jq_2, jq_3, jq_4, jq_5, jq_6, jq_8, jq_12, jq_16, jq_20, jq_21, jq_24, jq_30, jq_32, jq_60, jq_84, jq_1000, jq_2436, jq_20001, m1, m2, n1, n2, e152_35]
  have loop : ∀ k i, i + k = jb_p N → (∀ q, q < i → jb_rc N (2 ^ q) (2 ^ jb_n N - 1) (jb_oe N r q) (jb_oe N s q)) → ∃ B : Bool, F152_2 (DM (d + 2)) (nI r) (nI s) (nI i) h = some ([vi (jn_b B)], h) ∧ (B = true ↔ jb_ob N r s) := by
    intro k
    induction k with
    | zero =>
      intro i hi hl
      refine ⟨true, ?_, fun _ q hq => hl q (by omega), fun _ => rfl⟩
      rw [e152_2, m.1]
      simp (disch := omega) only [jx_bI_s, jx_bL_s, jx_bV_s, eq_self, true_or, or_true, jx_if_t, jx_if_f, jq_b0, jq_b1, jq_bb, jq_b01, jx_if_in, jx_if_lt, jx_if_nlt, jx_if_le, jx_if_nle, jq_eqp, jq_eqn, nI_clamp, nI_add, pk_sub, pk_mul, jn_and, jn_or, jn_xor, jq_andn, jq_shl1, jq_bit, jq_mn, jq_mx, cond_true, cond_false, jq_jt, jq_jf, jq_e1, jq_e2, jq_e3, jq_e4, Bool.not_true, Bool.not_false, jq_0, jq_1, jq_2, jq_3, jq_4, jq_5, jq_6, jq_8, jq_12, jq_16, jq_20, jq_21, jq_24, jq_30, jq_32, jq_60, jq_84, jq_1000, jq_2436, jq_20001]
    | succ k ih =>
      intro i hi hl
      have hO := jb_oe_lt w (q := i) hr
      have hO2 := jb_oe_lt w (q := i) hs
      have h2i := jn_2lt (show i < jb_p N by omega)
      obtain ⟨R, r1, r2, r3⟩ := dm_reachM (d := d) (W := 2 ^ i) (T := 2 ^ jb_n N - 1) w m (by omega) (by omega) hO (jn_2f.2 (jb_oe_ne w hr))
      rw [st i (by omega), e152_62]
      cases hb : R.testBit (jb_oe N s i)
      · refine ⟨false, ?_, fun c => (by cases c), fun c => ?_⟩
        · simp (disch := omega) only [jx_bI_s, jx_bL_s, jx_bV_s, eq_self, true_or, or_true, jx_if_t, jx_if_f, jq_b0, jq_b1, jq_bb, jq_b01, jx_if_in, jx_if_lt, jx_if_nlt, jx_if_le, jx_if_nle, jq_eqp, jq_eqn, nI_clamp, nI_add, pk_sub, pk_mul, jn_and, jn_or, jn_xor, jq_andn, jq_shl1, jq_bit, jq_mn, jq_mx, cond_true, cond_false, jq_jt, jq_jf, jq_e1, jq_e2, jq_e3, jq_e4, Bool.not_true, Bool.not_false, jq_0, jq_1, jq_2, jq_3, jq_4, jq_5, jq_6, jq_8, jq_12, jq_16, jq_20, jq_21, jq_24, jq_30, jq_32, jq_60, jq_84, jq_1000, jq_2436, jq_20001, dm_allR (n := jb_n N) (by omega) m.2.1, r2, dm_inN, hb]
        · rw [(r3 _).2 (c i (by omega))] at hb
          cases hb
      · obtain ⟨B, b1, b2⟩ := ih (i + 1) (by omega) (fun q hq => by
          by_cases e : q = i
          · rw [e]; exact (r3 _).1 hb
          · exact hl q (by omega))
        refine ⟨B, ?_, b2⟩
        simp (disch := omega) only [jx_bI_s, jx_bL_s, jx_bV_s, eq_self, true_or, or_true, jx_if_t, jx_if_f, jq_b0, jq_b1, jq_bb, jq_b01, jx_if_in, jx_if_lt, jx_if_nlt, jx_if_le, jx_if_nle, jq_eqp, jq_eqn, nI_clamp, nI_add, pk_sub, pk_mul, jn_and, jn_or, jn_xor, jq_andn, jq_shl1, jq_bit, jq_mn, jq_mx, cond_true, cond_false, jq_jt, jq_jf, jq_e1, jq_e2, jq_e3, jq_e4, Bool.not_true, Bool.not_false, jq_0, jq_1, jq_2, jq_3, jq_4, jq_5, jq_6, jq_8, jq_12, jq_16, jq_20, jq_21, jq_24, jq_30, jq_32, jq_60, jq_84, jq_1000, jq_2436, jq_20001, dm_allR (n := jb_n N) (by omega) m.2.1, r2, dm_inN, hb]
        exact b1
  rw [d152, e152_0]
  exact loop (jb_p N) 0 (by omega) (fun q hq => by omega)
end
theorem jt_21 {d : Nat} {hx hm : jx_H} (I : jb_Inv hx hm) (a : Int32) : jl_g d 61 151 [vi a] hx hm := by
  obtain ⟨N, w, x, m, h', rd, I', x', P⟩ := I.rd d
  have hp := w.1
  have hn := w.2.1
  have h20 := jn_pow20 hn
  cases ha : jb_ip (jb_n N) a
  · refine ⟨-1, _, _, ?_, ?_, I.fd⟩
    · rw [d61, e61_0]
      simp (disch := omega) only [jx_bI_s, jx_bL_s, jx_bV_s, eq_self, true_or, or_true, jx_if_t, jx_if_f, jq_b0, jq_b1, jq_bb, jq_b01, jx_if_in, jx_if_lt, jx_if_nlt, jx_if_le, jx_if_nle, jq_eqp, jq_eqn, nI_clamp, nI_add, pk_sub, pk_mul, jn_and, jn_or, jn_xor, jq_andn, jq_shl1, jq_bit, jq_mn, jq_mx, cond_true, cond_false, jq_jt, jq_jf, jq_e1, jq_e2, jq_e3, jq_e4, Bool.not_true, Bool.not_false, jq_0, jq_1, jq_2, jq_3, jq_4, jq_5, jq_6, jq_8, jq_12, jq_16, jq_20, jq_21, jq_24, jq_30, jq_32, jq_60, jq_84, jq_1000, jq_2436, jq_20001, dm_noRoad a x.2.1, ha, dm_fx]
    · rw [d151, e151_0]
      simp (disch := omega) only [jx_bI_s, jx_bL_s, jx_bV_s, eq_self, true_or, or_true, jx_if_t, jx_if_f, jq_b0, jq_b1, jq_bb, jq_b01, jx_if_in, jx_if_lt, jx_if_nlt, jx_if_le, jx_if_nle, jq_eqp, jq_eqn, nI_clamp, nI_add, pk_sub, pk_mul, jn_and, jn_or, jn_xor, jq_andn, jq_shl1, jq_bit, jq_mn, jq_mx, cond_true, cond_false, jq_jt, jq_jf, jq_e1, jq_e2, jq_e3, jq_e4, Bool.not_true, Bool.not_false, jq_0, jq_1, jq_2, jq_3, jq_4, jq_5, jq_6, jq_8, jq_12, jq_16, jq_20, jq_21, jq_24, jq_30, jq_32, jq_60, jq_84, jq_1000, jq_2436, jq_20001, dm_isRoad a m.2.1, ha, dm_fm]
  · obtain ⟨r0, hr0, rfl⟩ := jb_ip_t (by omega) ha
    cases ht : jb_t N
    · obtain ⟨K, k1, k2, k3⟩ := dm_blockX (d := d + 36) w x' P ht hr0
      have hself : jb_ob N r0 r0 := fun q hq => jb_rc.rf
      have hK0 : K.testBit r0 = true := (k3 r0 hr0).2 hself
      have hK1 := jn_has1 hK0
      obtain ⟨k, q, ek⟩ := jn_low (show 0 < K by omega)
      obtain ⟨lk1, lk2⟩ := jn_low_has ek
      have hkn := jn_hi k1 lk1
      have hk0 : k ≤ r0 := by
        apply Classical.byContradiction
        intro c
        rw [lk2 r0 (by omega)] at hK0
        cases hK0
      have loop : ∀ z i, i + z = k → F151_30 (DM (d + 39)) (nI r0) (nI i) hm = some ([vi (nI k)], hm) := by
        intro z
        induction z with
        | zero =>
          intro i hi
          have e : i = k := by omega
          subst e
          rw [e151_30]
          by_cases e2 : i = r0
          · subst e2
            simp (disch := omega) only [jx_bI_s, jx_bL_s, jx_bV_s, eq_self, true_or, or_true, jx_if_t, jx_if_f, jq_b0, jq_b1, jq_bb, jq_b01, jx_if_in, jx_if_lt, jx_if_nlt, jx_if_le, jx_if_nle, jq_eqp, jq_eqn, nI_clamp, nI_add, pk_sub, pk_mul, jn_and, jn_or, jn_xor, jq_andn, jq_shl1, jq_bit, jq_mn, jq_mx, cond_true, cond_false, jq_jt, jq_jf, jq_e1, jq_e2, jq_e3, jq_e4, Bool.not_true, Bool.not_false, jq_0, jq_1, jq_2, jq_3, jq_4, jq_5, jq_6, jq_8, jq_12, jq_16, jq_20, jq_21, jq_24, jq_30, jq_32, jq_60, jq_84, jq_1000, jq_2436, jq_20001]
          · obtain ⟨B, b1, b2⟩ := dm_oneM (d := d + 36) w m hkn hr0
            have : B = true := b2.2 (fun q hq => jb_rc_sym ht ((k3 i hkn).1 lk1 q hq))
            subst this
            simp (disch := omega) only [jx_bI_s, jx_bL_s, jx_bV_s, eq_self, true_or, or_true, jx_if_t, jx_if_f, jq_b0, jq_b1, jq_bb, jq_b01, jx_if_in, jx_if_lt, jx_if_nlt, jx_if_le, jx_if_nle, jq_eqp, jq_eqn, nI_clamp, nI_add, pk_sub, pk_mul, jn_and, jn_or, jn_xor, jq_andn, jq_shl1, jq_bit, jq_mn, jq_mx, cond_true, cond_false, jq_jt, jq_jf, jq_e1, jq_e2, jq_e3, jq_e4, Bool.not_true, Bool.not_false, jq_0, jq_1, jq_2, jq_3, jq_4, jq_5, jq_6, jq_8, jq_12, jq_16, jq_20, jq_21, jq_24, jq_30, jq_32, jq_60, jq_84, jq_1000, jq_2436, jq_20001, b1]
        | succ z ih =>
          intro i hi
          rw [e151_30]
          obtain ⟨B, b1, b2⟩ := dm_oneM (d := d + 36) w m (r := i) (s := r0) (by omega) hr0
          have : B = false := by
            cases B with
            | false => rfl
            | true =>
              have h1 := (k3 i (by omega)).2 (fun q hq => jb_rc_sym ht (b2.1 rfl q hq))
              rw [lk2 i (by omega)] at h1
              cases h1
          subst this
          simp (disch := omega) only [jx_bI_s, jx_bL_s, jx_bV_s, eq_self, true_or, or_true, jx_if_t, jx_if_f, jq_b0, jq_b1, jq_bb, jq_b01, jx_if_in, jx_if_lt, jx_if_nlt, jx_if_le, jx_if_nle, jq_eqp, jq_eqn, nI_clamp, nI_add, pk_sub, pk_mul, jn_and, jn_or, jn_xor, jq_andn, jq_shl1, jq_bit, jq_mn, jq_mx, cond_true, cond_false, jq_jt, jq_jf, jq_e1, jq_e2, jq_e3, jq_e4, Bool.not_true, Bool.not_false, jq_0, jq_1, jq_2, jq_3, jq_4, jq_5, jq_6, jq_8, jq_12, jq_16, jq_20, jq_21, jq_24, jq_30, jq_32, jq_60, jq_84, jq_1000, jq_2436, jq_20001, b1]
          exact ih (i + 1) (by omega)
      refine ⟨nI k, h', hm, ?_, ?_, I'⟩
      · rw [d61, e61_0]
        simp (disch := omega) only [jx_bI_s, jx_bL_s, jx_bV_s, eq_self, true_or, or_true, jx_if_t, jx_if_f, jq_b0, jq_b1, jq_bb, jq_b01, jx_if_in, jx_if_lt, jx_if_nlt, jx_if_le, jx_if_nle, jq_eqp, jq_eqn, nI_clamp, nI_add, pk_sub, pk_mul, jn_and, jn_or, jn_xor, jq_andn, jq_shl1, jq_bit, jq_mn, jq_mx, cond_true, cond_false, jq_jt, jq_jf, jq_e1, jq_e2, jq_e3, jq_e4, Bool.not_true, Bool.not_false, jq_0, jq_1, jq_2, jq_3, jq_4, jq_5, jq_6, jq_8, jq_12, jq_16, jq_20, jq_21, jq_24, jq_30, jq_32, jq_60, jq_84, jq_1000, jq_2436, jq_20001, dm_noRoad _ x.2.1, ha, x.2.2.1, ht, rd, k2, dm_low ek (show K < 2 ^ 31 by omega)]
      · rw [d151, e151_0]
        simp (disch := omega) only [jx_bI_s, jx_bL_s, jx_bV_s, eq_self, true_or, or_true, jx_if_t, jx_if_f, jq_b0, jq_b1, jq_bb, jq_b01, jx_if_in, jx_if_lt, jx_if_nlt, jx_if_le, jx_if_nle, jq_eqp, jq_eqn, nI_clamp, nI_add, pk_sub, pk_mul, jn_and, jn_or, jn_xor, jq_andn, jq_shl1, jq_bit, jq_mn, jq_mx, cond_true, cond_false, jq_jt, jq_jf, jq_e1, jq_e2, jq_e3, jq_e4, Bool.not_true, Bool.not_false, jq_0, jq_1, jq_2, jq_3, jq_4, jq_5, jq_6, jq_8, jq_12, jq_16, jq_20, jq_21, jq_24, jq_30, jq_32, jq_60, jq_84, jq_1000, jq_2436, jq_20001, dm_isRoad _ m.2.1, ha, m.2.2.1, ht]
        exact loop k 0 (by omega)
    · refine ⟨-8, _, _, ?_, ?_, I.fd⟩
      · rw [d61, e61_0]
        simp (disch := omega) only [jx_bI_s, jx_bL_s, jx_bV_s, eq_self, true_or, or_true, jx_if_t, jx_if_f, jq_b0, jq_b1, jq_bb, jq_b01, jx_if_in, jx_if_lt, jx_if_nlt, jx_if_le, jx_if_nle, jq_eqp, jq_eqn, nI_clamp, nI_add, pk_sub, pk_mul, jn_and, jn_or, jn_xor, jq_andn, jq_shl1, jq_bit, jq_mn, jq_mx, cond_true, cond_false, jq_jt, jq_jf, jq_e1, jq_e2, jq_e3, jq_e4, Bool.not_true, Bool.not_false, jq_0, jq_1, jq_2, jq_3, jq_4, jq_5, jq_6, jq_8, jq_12, jq_16, jq_20, jq_21, jq_24, jq_30, jq_32, jq_60, jq_84, jq_1000, jq_2436, jq_20001, dm_noRoad _ x.2.1, ha, x.2.2.1, ht, dm_fx]
      · rw [d151, e151_0]
        simp (disch := omega) only [jx_bI_s, jx_bL_s, jx_bV_s, eq_self, true_or, or_true, jx_if_t, jx_if_f, jq_b0, jq_b1, jq_bb, jq_b01, jx_if_in, jx_if_lt, jx_if_nlt, jx_if_le, jx_if_nle, jq_eqp, jq_eqn, nI_clamp, nI_add, pk_sub, pk_mul, jn_and, jn_or, jn_xor, jq_andn, jq_shl1, jq_bit, jq_mn, jq_mx, cond_true, cond_false, jq_jt, jq_jf, jq_e1, jq_e2, jq_e3, jq_e4, Bool.not_true, Bool.not_false, jq_0, jq_1, jq_2, jq_3, jq_4, jq_5, jq_6, jq_8, jq_12, jq_16, jq_20, jq_21, jq_24, jq_30, jq_32, jq_60, jq_84, jq_1000, jq_2436, jq_20001, dm_isRoad _ m.2.1, ha, m.2.2.1, ht, dm_fm]
