/-! ===== layer 2: ways, as the class walks them; bridges ===== -/
def jp_gr (N : jb_N) (V S : Nat) : Nat := S ||| (jp_nr N S &&& V)
theorem jp_nr_t {N : jb_N} {S y : Nat} : (jp_nr N S).testBit y = true ↔ y < jb_p N ∧ ∃ r, r < jb_n N ∧ ((S.testBit (jb_f N r) = true ∧ jb_s N r = y) ∨ (jb_t N = false ∧ S.testBit (jb_s N r) = true ∧ jb_f N r = y)) := by
  unfold jp_nr jp_nb
  rw [jn_mk_t, Bool.and_eq_true, decide_eq_true_eq, jn_ex_t]
  refine and_congr_right (fun _ => exists_congr (fun r => and_congr_right (fun _ => ?_)))
  unfold jp_g
  simp [Bool.or_eq_true, Bool.and_eq_true]
def jp_gi (N : jb_N) (V S : Nat) : Nat → Nat
  | 0 => S
  | i + 1 => jp_gr N V (jp_gi N V S i)
theorem jp_gr_sub {N : jb_N} {V S x : Nat} (h : S.testBit x = true) : (jp_gr N V S).testBit x = true := by
  unfold jp_gr
  rw [Nat.testBit_or, h, Bool.true_or]
theorem jp_gr_lt {N : jb_N} {V S : Nat} (hV : V < 2 ^ jb_p N) (hS : S < 2 ^ jb_p N) : jp_gr N V S < 2 ^ jb_p N := jn_or_lt hS (jn_and_lt' hV)
theorem jp_gi_lt {N : jb_N} {V S : Nat} (hV : V < 2 ^ jb_p N) (hS : S < 2 ^ jb_p N) : ∀ i, jp_gi N V S i < 2 ^ jb_p N := by
  intro i
  induction i with
  | zero => exact hS
  | succ i ih => exact jp_gr_lt hV ih
theorem jp_gi_fix {N : jb_N} {V S : Nat} (hp : jb_p N ≤ 8) (hV : V < 2 ^ jb_p N) (hS : S < 2 ^ jb_p N) (h1 : 1 ≤ S) : ∀ i, jp_gr N V (jp_gi N V S i) = jp_gi N V S i ∨ i + 1 ≤ jn_pc (jp_gi N V S i) := by
  intro i
  induction i with
  | zero =>
    right
    obtain ⟨q, hq⟩ := jn_some h1
    have := jn_hi hS hq
    exact jn_ct_pos.2 ⟨q, by omega, hq⟩
  | succ i ih =>
    rcases ih with ih | ih
    · left
      show jp_gr N V (jp_gr N V (jp_gi N V S i)) = jp_gr N V (jp_gi N V S i)
      rw [ih, ih]
    · by_cases e : jp_gr N V (jp_gi N V S i) = jp_gi N V S i
      · left
        show jp_gr N V (jp_gr N V (jp_gi N V S i)) = jp_gr N V (jp_gi N V S i)
        rw [e, e]
      · right
        have := jn_pc_sub (jp_gi_lt hV hS i) (jp_gr_lt hV (jp_gi_lt hV hS i)) (by omega) (fun x hx => jp_gr_sub (V := V) hx) (Ne.symm e)
        show i + 1 + 1 ≤ jn_pc (jp_gr N V (jp_gi N V S i))
        omega
theorem jp_gi_end {N : jb_N} {V S : Nat} (hp : jb_p N ≤ 8) (hV : V < 2 ^ jb_p N) (hS : S < 2 ^ jb_p N) : jp_gr N V (jp_gi N V S (jb_p N)) = jp_gi N V S (jb_p N) := by
  by_cases h1 : 1 ≤ S
  · rcases jp_gi_fix hp hV hS h1 (jb_p N) with h | h
    · exact h
    · have := jn_pc_len (jp_gi_lt hV hS (jb_p N)) (by omega)
      omega
  · have e : S = 0 := by omega
    subst e
    have g0 : jp_gr N V 0 = 0 := by
      unfold jp_gr
      rw [jp_nr0]
      simp
    have : ∀ i, jp_gi N V 0 i = 0 := by
      intro i
      induction i with
      | zero => rfl
      | succ i ih =>
        show jp_gr N V (jp_gi N V 0 i) = 0
        rw [ih, g0]
    rw [this, g0]
section
variable {d : Nat} {h : jx_H} {N : jb_N}
theorem dm_reachX (w : jb_wf N) (P : jp_P h N) {F V : Nat} (hF : F < 2 ^ jb_p N) (hV : V < 2 ^ jb_p N) : ∃ R, R < 2 ^ jb_p N ∧ DM (d + 1) 60 [vr 14 0, vi (nI F), vi (nI V)] h = some ([vi (nI R)], h) ∧ ∀ x, R.testBit x = true ↔ ∃ a, F.testBit a = true ∧ V.testBit a = true ∧ jb_rc N (jn_df (2 ^ jb_p N - 1) V) (2 ^ jb_n N - 1) a x := by
  obtain ⟨⟨p0, p1, p2, p3, p4, p5, p6⟩, pT⟩ := P
  have hp := w.1
  have h8 := jn_pow8 hp
  have hS : F &&& V < 2 ^ jb_p N := jn_and_lt hF
  refine ⟨jp_gi N V (F &&& V) (jb_p N), jp_gi_lt hV hS _, ?_, fun x => ?_⟩
  · rw [d60, e60_0, jn_and, e60_4]
    refine (jn_loop (fun i => F60_7 (DM d) (nI V) (nI (jp_gi N V (F &&& V) i)) (nI i) h) (Nat.zero_le (jb_p N)) (fun i _ hi => ?_)).trans ?_
    · show F60_7 _ _ _ _ _ = F60_7 _ _ (nI (jp_gr N V (jp_gi N V (F &&& V) i))) _ _
      have hl := jp_gi_lt hV hS i
      have e := (pT _ hl).1.2.2
      unfold jp_gr
      rw [e60_7, p0]
      simp (disch := omega) only [jx_bI_s, jx_bL_s, jx_bV_s, eq_self, true_or, or_true, jx_if_t, jx_if_f, jq_b0, jq_b1, jq_bb, jq_b01, jx_if_in, jx_if_lt, jx_if_nlt, jx_if_le, jx_if_nle, jq_eqp, jq_eqn, nI_clamp, nI_add, pk_sub, pk_mul, jn_and, jn_or, jn_xor, jq_andn, jq_shl1, jq_bit, jq_mn, jq_mx, cond_true, cond_false, jq_jt, jq_jf, jq_e1, jq_e2, jq_e3, jq_e4, Bool.not_true, Bool.not_false, jq_0, jq_1, jq_2, jq_3, jq_4, jq_5, jq_6, jq_8, jq_12, jq_16, jq_20, jq_21, jq_24, jq_30, jq_32, jq_60, jq_84, jq_1000, jq_2436, jq_20001, e60_27, e]
    · show F60_7 _ _ _ _ _ = _
      rw [e60_7, p0, jx_if_nlt (Nat.le_refl _) (by omega)]
  · have hV' : ∀ y, y < jb_p N → ((jn_df (2 ^ jb_p N - 1) V).testBit y = false ↔ V.testBit y = true) := fun y hy => by
      rw [jn_all_df]
      simp [hy]
    have hT : ∀ r, r < jb_n N → (2 ^ jb_n N - 1).testBit r = true := fun r hr => by rw [jn_all_t]; simpa using hr
    constructor
    · have key : ∀ i, ∀ x, (jp_gi N V (F &&& V) i).testBit x = true → V.testBit x = true ∧ ∃ a, F.testBit a = true ∧ V.testBit a = true ∧ jb_rc N (jn_df (2 ^ jb_p N - 1) V) (2 ^ jb_n N - 1) a x := by
        intro i
        induction i with
        | zero =>
          intro x hx
          have hx : (F &&& V).testBit x = true := hx
          rw [Nat.testBit_and, Bool.and_eq_true] at hx
          exact ⟨hx.2, x, hx.1, hx.2, jb_rc.rf⟩
        | succ i ih =>
          intro x hx
          have hx : (jp_gi N V (F &&& V) i ||| (jp_nr N (jp_gi N V (F &&& V) i) &&& V)).testBit x = true := hx
          rw [Nat.testBit_or, Nat.testBit_and, Bool.or_eq_true, Bool.and_eq_true] at hx
          rcases hx with hx | ⟨hx, hxV⟩
          · exact ih x hx
          · refine ⟨hxV, ?_⟩
            obtain ⟨hxp, r, hr, k⟩ := jp_nr_t.1 hx
            obtain ⟨w1, w2, _⟩ := w.2.2 r hr
            rcases k with ⟨k1, rfl⟩ | ⟨k0, k1, rfl⟩
            · obtain ⟨kV, a, a1, a2, a3⟩ := ih _ k1
              exact ⟨a, a1, a2, (jb_rc_cl _ _ _ a r hr (hT r hr) ((hV' _ w1).2 kV) ((hV' _ w2).2 hxV)).1 a3⟩
            · obtain ⟨kV, a, a1, a2, a3⟩ := ih _ k1
              exact ⟨a, a1, a2, (jb_rc_cl _ _ _ a r hr (hT r hr) ((hV' _ w1).2 hxV) ((hV' _ w2).2 kV)).2 k0 a3⟩
      exact fun hx => (key _ x hx).2
    · rintro ⟨a, a1, a2, a3⟩
      have fx := jp_gi_end (N := N) hp hV hS
      generalize hR : jp_gi N V (F &&& V) (jb_p N) = R at *
      have hsub : ∀ i, (jp_gi N V (F &&& V) i).testBit a = true := by
        intro i
        induction i with
        | zero =>
          show (F &&& V).testBit a = true
          rw [Nat.testBit_and, a1, a2]; rfl
        | succ i ih => exact jp_gr_sub ih
      have h0 := hsub (jb_p N)
      rw [hR] at h0
      refine a3 (fun x => R.testBit x = true) h0 (fun r hr _ hf hs => ?_)
      obtain ⟨w1, w2, _⟩ := w.2.2 r hr
      refine ⟨fun k => ?_, fun k0 k => ?_⟩
      · show R.testBit (jb_s N r) = true
        rw [← fx]
        unfold jp_gr
        rw [Nat.testBit_or, Nat.testBit_and, jp_nr_t.2 ⟨w2, r, hr, Or.inl ⟨k, rfl⟩⟩, (hV' _ w2).1 hs]
        simp
      · show R.testBit (jb_f N r) = true
        rw [← fx]
        unfold jp_gr
        rw [Nat.testBit_or, Nat.testBit_and, jp_nr_t.2 ⟨w1, r, hr, Or.inr ⟨k0, k, rfl⟩⟩, (hV' _ w1).1 hf]
        simp
theorem jb_rc_sym {W T a b : Nat} (ht : jb_t N = false) (hh : jb_rc N W T a b) : jb_rc N W T b a := by
  refine hh (fun y => jb_rc N W T y a) jb_rc.rf (fun r h1 h2 h3 h4 => ⟨fun k => ?_, fun _ k => ?_⟩)
  · exact ((jb_rc_cl N W T (jb_s N r) r h1 h2 h3 h4).2 ht jb_rc.rf).tr k
  · exact ((jb_rc_cl N W T (jb_f N r) r h1 h2 h3 h4).1 jb_rc.rf).tr k
theorem jn_ct_one {f : Nat → Bool} {r : Nat} : ∀ {n : Nat}, r < n → (∀ i, i < n → (f i = true ↔ i = r)) → jn_ct f n = 1 := by
  intro n
  induction n with
  | zero => intro h; omega
  | succ n ih =>
    intro hr hf
    by_cases e : r = n
    · have h0 : jn_ct f n = 0 := jn_ct_zero n (fun i hi => by
        cases hb : f i with
        | false => rfl
        | true => have := (hf i (by omega)).1 hb; omega)
      simp only [jn_ct, h0]
      rw [if_pos ((hf n (by omega)).2 e.symm)]
    · have h1 := ih (by omega) (fun i hi => hf i (by omega))
      simp only [jn_ct, h1]
      rw [if_neg (fun k => e ((hf n (by omega)).1 k).symm)]
theorem jn_ct_uniq {f : Nat → Bool} {n r s : Nat} (h : jn_ct f n = 1) (hr : r < n) (hs : s < n) (fr : f r = true) (fs : f s = true) : r = s := by
  apply Classical.byContradiction
  intro ne
  have h1 : 0 < jn_ct (fun i => f i && decide (i ≠ r)) n := jn_ct_pos.2 ⟨s, hs, by simp [fs, Ne.symm ne]⟩
  have h2 := jn_ct_mlt (f := fun i => f i && decide (i ≠ r)) (g := f) n (fun i _ k => by
    rw [Bool.and_eq_true] at k
    exact k.1) ⟨r, hr, by simp, fr⟩
  omega
theorem dm_loneX (w : jb_wf N) (P : jp_P h N) : ∃ L, L < 2 ^ jb_n N ∧ DM (d + 2) 57 [vr 14 0] h = some ([vi (nI L)], h) ∧ ∀ r, r < jb_n N → (L.testBit r = true ↔ ∃ s, 1 ≤ s ∧ s < jp_sd N ∧ jb_cu N (jp_X N s) (2 ^ jb_n N - 1) = 1 ∧ jb_cb N (jp_X N s) r = true) := by
  obtain ⟨⟨p0, p1, p2, p3, p4, p5, p6⟩, pT⟩ := P
  have hn := w.2.1
  have hp := w.1
  have h2 := jn_pow8 hp
  have h20 := jn_pow20 hn
  have hsd := jp_sd_le (N := N)
  have loop : ∀ k i L, jp_sd N ≤ i + k → i ≤ 256 → 1 ≤ i → L < 2 ^ jb_n N → (∀ r, r < jb_n N → (L.testBit r = true ↔ ∃ s, 1 ≤ s ∧ s < i ∧ s < jp_sd N ∧ jb_cu N (jp_X N s) (2 ^ jb_n N - 1) = 1 ∧ jb_cb N (jp_X N s) r = true)) → ∃ L', L' < 2 ^ jb_n N ∧ F57_4 (DM (d + 1)) (nI L) (nI i) h = some ([vi (nI L')], h) ∧ ∀ r, r < jb_n N → (L'.testBit r = true ↔ ∃ s, 1 ≤ s ∧ s < jp_sd N ∧ jb_cu N (jp_X N s) (2 ^ jb_n N - 1) = 1 ∧ jb_cb N (jp_X N s) r = true) := by
    intro k
    induction k with
    | zero =>
      intro i L hi h256 h1 hL hl
      refine ⟨L, hL, ?_, fun r hr => (hl r hr).trans ⟨fun ⟨s, a, b, c, e⟩ => ⟨s, a, c, e⟩, fun ⟨s, a, c, e⟩ => ⟨s, a, by omega, c, e⟩⟩⟩
      rw [e57_4, p5]
      simp (disch := omega) only [jx_bI_s, jx_bL_s, jx_bV_s, eq_self, true_or, or_true, jx_if_t, jx_if_f, jq_b0, jq_b1, jq_bb, jq_b01, jx_if_in, jx_if_lt, jx_if_nlt, jx_if_le, jx_if_nle, jq_eqp, jq_eqn, nI_clamp, nI_add, pk_sub, pk_mul, jn_and, jn_or, jn_xor, jq_andn, jq_shl1, jq_bit, jq_mn, jq_mx, cond_true, cond_false, jq_jt, jq_jf, jq_e1, jq_e2, jq_e3, jq_e4, Bool.not_true, Bool.not_false, jq_0, jq_1, jq_2, jq_3, jq_4, jq_5, jq_6, jq_8, jq_12, jq_16, jq_20, jq_21, jq_24, jq_30, jq_32, jq_60, jq_84, jq_1000, jq_2436, jq_20001]
    | succ k ih =>
      intro i L hi h256 h1 hL hl
      by_cases hlt : i < jp_sd N
      · have hX := jp_X_in h1 hlt
        have hcl := jp_cu_lt N (jp_X N i)
        have hcu := jb_cu_le N (jp_X N i) (2 ^ jb_n N - 1)
        have hct : ∀ r, r < jb_n N → (jp_cu N (jp_X N i)).testBit r = jb_cb N (jp_X N i) r := fun r hr => by
          unfold jp_cu
          rw [jn_mk_t]
          simp [hr]
        by_cases e : jb_cu N (jp_X N i) (2 ^ jb_n N - 1) = 1
        · obtain ⟨L', l1, l2, l3⟩ := ih (i + 1) (L ||| jp_cu N (jp_X N i)) (by omega) (by omega) (by omega) (jn_or_lt hL hcl) (fun r hr => by
            rw [Nat.testBit_or, Bool.or_eq_true, hl r hr, hct r hr]
            constructor
            · rintro (⟨s, a, b, c⟩ | k)
              · exact ⟨s, a, by omega, c⟩
              · exact ⟨i, h1, by omega, hlt, e, k⟩
            · rintro ⟨s, a, b, c, c2, c3⟩
              by_cases e2 : s = i
              · right
                rw [← e2]; exact c3
              · exact Or.inl ⟨s, a, by omega, c, c2, c3⟩)
          refine ⟨L', l1, ?_, l3⟩
          rw [e57_4, p5, p6, jp_side_sh hlt hp]
          simp (disch := omega) only [jx_bI_s, jx_bL_s, jx_bV_s, eq_self, true_or, or_true, jx_if_t, jx_if_f, jq_b0, jq_b1, jq_bb, jq_b01, jx_if_in, jx_if_lt, jx_if_nlt, jx_if_le, jx_if_nle, jq_eqp, jq_eqn, nI_clamp, nI_add, pk_sub, pk_mul, jn_and, jn_or, jn_xor, jq_andn, jq_shl1, jq_bit, jq_mn, jq_mx, cond_true, cond_false, jq_jt, jq_jf, jq_e1, jq_e2, jq_e3, jq_e4, Bool.not_true, Bool.not_false, jq_0, jq_1, jq_2, jq_3, jq_4, jq_5, jq_6, jq_8, jq_12, jq_16, jq_20, jq_21, jq_24, jq_30, jq_32, jq_60, jq_84, jq_1000, jq_2436, jq_20001, (pT _ (show jp_X N i < 2 ^ jb_p N by omega)).2, dm_bc, jb_cu_all hn, p6, jp_side_sh hlt hp, e57_44]
          exact l2
        · obtain ⟨L', l1, l2, l3⟩ := ih (i + 1) L (by omega) (by omega) (by omega) hL (fun r hr => by
            rw [hl r hr]
            constructor
            · rintro ⟨s, a, b, c⟩
              exact ⟨s, a, by omega, c⟩
            · rintro ⟨s, a, b, c, c2, c3⟩
              by_cases e2 : s = i
              · rw [e2] at c2
                exact absurd c2 e
              · exact ⟨s, a, by omega, c, c2, c3⟩)
          refine ⟨L', l1, ?_, l3⟩
          rw [e57_4, p5, p6, jp_side_sh hlt hp]
          simp (disch := omega) only [jx_bI_s, jx_bL_s, jx_bV_s, eq_self, true_or, or_true, jx_if_t, jx_if_f, jq_b0, jq_b1, jq_bb, jq_b01, jx_if_in, jx_if_lt, jx_if_nlt, jx_if_le, jx_if_nle, jq_eqp, jq_eqn, nI_clamp, nI_add, pk_sub, pk_mul, jn_and, jn_or, jn_xor, jq_andn, jq_shl1, jq_bit, jq_mn, jq_mx, cond_true, cond_false, jq_jt, jq_jf, jq_e1, jq_e2, jq_e3, jq_e4, Bool.not_true, Bool.not_false, jq_0, jq_1, jq_2, jq_3, jq_4, jq_5, jq_6, jq_8, jq_12, jq_16, jq_20, jq_21, jq_24, jq_30, jq_32, jq_60, jq_84, jq_1000, jq_2436, jq_20001, (pT _ (show jp_X N i < 2 ^ jb_p N by omega)).2, dm_bc, jb_cu_all hn, e57_44]
          exact l2
      · refine ⟨L, hL, ?_, fun r hr => (hl r hr).trans ⟨fun ⟨s, a, b, c, e⟩ => ⟨s, a, c, e⟩, fun ⟨s, a, c, e⟩ => ⟨s, a, by omega, c, e⟩⟩⟩
        rw [e57_4, p5]
        simp (disch := omega) only [jx_bI_s, jx_bL_s, jx_bV_s, eq_self, true_or, or_true, jx_if_t, jx_if_f, jq_b0, jq_b1, jq_bb, jq_b01, jx_if_in, jx_if_lt, jx_if_nlt, jx_if_le, jx_if_nle, jq_eqp, jq_eqn, nI_clamp, nI_add, pk_sub, pk_mul, jn_and, jn_or, jn_xor, jq_andn, jq_shl1, jq_bit, jq_mn, jq_mx, cond_true, cond_false, jq_jt, jq_jf, jq_e1, jq_e2, jq_e3, jq_e4, Bool.not_true, Bool.not_false, jq_0, jq_1, jq_2, jq_3, jq_4, jq_5, jq_6, jq_8, jq_12, jq_16, jq_20, jq_21, jq_24, jq_30, jq_32, jq_60, jq_84, jq_1000, jq_2436, jq_20001]
  rw [d57, e57_0]
  exact loop (jp_sd N) 1 0 (by omega) (by omega) (by omega) (Nat.two_pow_pos _) (fun r hr => ⟨fun k => (by rw [Nat.zero_testBit] at k; cases k), fun ⟨s, a, b, _⟩ => (by omega)⟩)
theorem dm_bridgeM (w : jb_wf N) (m : jb_M h N) : ∃ L, L < 2 ^ jb_n N ∧ F149_18 (DM (d + 2)) (nI 0) (nI 0) h = some ([vi (nI L)], h) ∧ ∀ r, r < jb_n N → (L.testBit r = true ↔ ¬ jb_rc N 0 (jn_df (2 ^ jb_n N - 1) (2 ^ r)) (jb_f N r) (jb_s N r)) := by
  have hn := w.2.1
  have hp := w.1
  have h2 := jn_pow8 hp
  have h20 := jn_pow20 hn
  have i20 := Nat.two_pow_pos (jb_n N)
  have loop : ∀ k i L, i + k = jb_n N → L < 2 ^ jb_n N → (∀ r, r < jb_n N → (L.testBit r = true ↔ r < i ∧ ¬ jb_rc N 0 (jn_df (2 ^ jb_n N - 1) (2 ^ r)) (jb_f N r) (jb_s N r))) → ∃ L', L' < 2 ^ jb_n N ∧ F149_18 (DM (d + 2)) (nI L) (nI i) h = some ([vi (nI L')], h) ∧ ∀ r, r < jb_n N → (L'.testBit r = true ↔ ¬ jb_rc N 0 (jn_df (2 ^ jb_n N - 1) (2 ^ r)) (jb_f N r) (jb_s N r)) := by
    intro k
    induction k with
    | zero =>
      intro i L hi hL hl
      refine ⟨L, hL, ?_, fun r hr => (hl r hr).trans ⟨fun k => k.2, fun k => ⟨by omega, k⟩⟩⟩
      rw [e149_18, m.2.1]
      simp (disch := omega) only [jx_bI_s, jx_bL_s, jx_bV_s, eq_self, true_or, or_true, jx_if_t, jx_if_f, jq_b0, jq_b1, jq_bb, jq_b01, jx_if_in, jx_if_lt, jx_if_nlt, jx_if_le, jx_if_nle, jq_eqp, jq_eqn, nI_clamp, nI_add, pk_sub, pk_mul, jn_and, jn_or, jn_xor, jq_andn, jq_shl1, jq_bit, jq_mn, jq_mx, cond_true, cond_false, jq_jt, jq_jf, jq_e1, jq_e2, jq_e3, jq_e4, Bool.not_true, Bool.not_false, jq_0, jq_1, jq_2, jq_3, jq_4, jq_5, jq_6, jq_8, jq_12, jq_16, jq_20, jq_21, jq_24, jq_30, jq_32, jq_60, jq_84, jq_1000, jq_2436, jq_20001]
    | succ k ih =>
      intro i L hi hL hl
      have hin : i < jb_n N := by omega
      obtain ⟨w1, w2, w3, _⟩ := w.2.2 i hin
      obtain ⟨m1, m2, _⟩ := m.2.2.2 i hin
      have hT : jn_df (2 ^ jb_n N - 1) (2 ^ i) < 2 ^ jb_n N := jn_df_lt (by omega)
      have h2i := jn_2lt hin
      obtain ⟨R, r1, r2, r3⟩ := dm_reachM (d := d) (W := 0) (T := jn_df (2 ^ jb_n N - 1) (2 ^ i)) w m (by omega) (by omega) w1 (Nat.zero_testBit _)
      cases hb : R.testBit (jb_s N i)
      · obtain ⟨L', l1, l2, l3⟩ := ih (i + 1) (L ||| 2 ^ i) (by omega) (jn_or_lt hL h2i) (fun r hr => by
          rw [Nat.testBit_or, Bool.or_eq_true, hl r hr, jn_2k, decide_eq_true_eq]
          constructor
          · rintro (⟨a, b⟩ | e)
            · exact ⟨by omega, b⟩
            · subst e
              refine ⟨by omega, fun c => ?_⟩
              rw [(r3 _).2 c] at hb
              cases hb
          · rintro ⟨a, b⟩
            by_cases e2 : r = i
            · exact Or.inr e2.symm
            · exact Or.inl ⟨by omega, b⟩)
        refine ⟨L', l1, ?_, l3⟩
        rw [e149_18, m.2.1]
        simp (disch := omega) only [jx_bI_s, jx_bL_s, jx_bV_s, eq_self, true_or, or_true, jx_if_t, jx_if_f, jq_b0, jq_b1, jq_bb, jq_b01, jx_if_in, jx_if_lt, jx_if_nlt, jx_if_le, jx_if_nle, jq_eqp, jq_eqn, nI_clamp, nI_add, pk_sub, pk_mul, jn_and, jn_or, jn_xor, jq_andn, jq_shl1, jq_bit, jq_mn, jq_mx, cond_true, cond_false, jq_jt, jq_jf, jq_e1, jq_e2, jq_e3, jq_e4, Bool.not_true, Bool.not_false, jq_0, jq_1, jq_2, jq_3, jq_4, jq_5, jq_6, jq_8, jq_12, jq_16, jq_20, jq_21, jq_24, jq_30, jq_32, jq_60, jq_84, jq_1000, jq_2436, jq_20001, m1, m2, dm_allR (n := jb_n N) (by omega) m.2.1, r2, dm_inN, hb, e149_67, e149_69]
        exact l2
      · obtain ⟨L', l1, l2, l3⟩ := ih (i + 1) L (by omega) hL (fun r hr => by
          rw [hl r hr]
          constructor
          · rintro ⟨a, b⟩
            exact ⟨by omega, b⟩
          · rintro ⟨a, b⟩
            by_cases e2 : r = i
            · subst e2
              exact absurd ((r3 _).1 hb) b
            · exact ⟨by omega, b⟩)
        refine ⟨L', l1, ?_, l3⟩
        rw [e149_18, m.2.1]
        simp (disch := omega) only [jx_bI_s, jx_bL_s, jx_bV_s, eq_self, true_or, or_true, jx_if_t, jx_if_f, jq_b0, jq_b1, jq_bb, jq_b01, jx_if_in, jx_if_lt, jx_if_nlt, jx_if_le, jx_if_nle, jq_eqp, jq_eqn, nI_clamp, nI_add, pk_sub, pk_mul, jn_and, jn_or, jn_xor, jq_andn, jq_shl1, jq_bit, jq_mn, jq_mx, cond_true, cond_false, jq_jt, jq_jf, jq_e1, jq_e2, jq_e3, jq_e4, Bool.not_true, Bool.not_false, jq_0, jq_1, jq_2, jq_3, jq_4, jq_5, jq_6, jq_8, jq_12, jq_16, jq_20, jq_21, jq_24, jq_30, jq_32, jq_60, jq_84, jq_1000, jq_2436, jq_20001, m1, m2, dm_allR (n := jb_n N) (by omega) m.2.1, r2, dm_inN, hb, e149_67, e149_69, Nat.or_zero]
        exact l2
  exact loop (jb_n N) 0 0 (by omega) (Nat.two_pow_pos _) (fun r hr => ⟨fun k => (by rw [Nat.zero_testBit] at k; cases k), fun k => (by omega)⟩)
theorem jb_bridge (w : jb_wf N) (ht : jb_t N = false) {r : Nat} (hr : r < jb_n N) : (∃ s, 1 ≤ s ∧ s < jp_sd N ∧ jb_cu N (jp_X N s) (2 ^ jb_n N - 1) = 1 ∧ jb_cb N (jp_X N s) r = true) ↔ ¬ jb_rc N 0 (jn_df (2 ^ jb_n N - 1) (2 ^ r)) (jb_f N r) (jb_s N r) := by
  have hn := w.2.1
  have hall : ∀ i, i < jb_n N → (2 ^ jb_n N - 1).testBit i = true := fun i hi => by rw [jn_all_t]; simpa using hi
  have hT : ∀ i, (jn_df (2 ^ jb_n N - 1) (2 ^ r)).testBit i = true ↔ i < jb_n N ∧ i ≠ r := fun i => by
    rw [jn_all_df, jn_2k]
    simp only [Bool.and_eq_true, decide_eq_true_eq, Bool.not_eq_true', decide_eq_false_iff_not]
    exact ⟨fun k => ⟨k.1, fun e => k.2 e.symm⟩, fun k => ⟨k.1, fun e => k.2 e.symm⟩⟩
  obtain ⟨w1, w2, w3, _⟩ := w.2.2 r hr
  constructor
  · rintro ⟨s, s1, s2, s3, s4⟩ hrc
    have hcl : jb_cl N 0 (jn_df (2 ^ jb_n N - 1) (2 ^ r)) (fun x => (jp_X N s).testBit x = true) := jb_cl_cb.2 (fun i hi hTi => by
      cases hb : jb_cb N (jp_X N s) i with
      | false => rfl
      | true => exact absurd (jn_ct_uniq s3 hi hr (by rw [hb, hall i hi]; rfl) (by rw [s4, hall r hr]; rfl)) ((hT i).1 hTi).2)
    rcases jb_cb_t.1 s4 with ⟨k1, k2⟩ | ⟨k0, k1, k2⟩
    · have := hrc _ k1 hcl
      rw [show (jp_X N s).testBit (jb_s N r) = true from this] at k2
      cases k2
    · have := jb_rc_sym ht hrc _ k1 hcl
      rw [show (jp_X N s).testBit (jb_f N r) = true from this] at k2
      cases k2
  · intro hrc
    have hR := fun y => jb_R_t w (W := 0) (T := jn_df (2 ^ jb_n N - 1) (2 ^ r)) (a := jb_f N r) (x := y) w1
    have hRs : (jb_R N 0 (jn_df (2 ^ jb_n N - 1) (2 ^ r)) (jb_f N r)).testBit (jb_s N r) = false := by
      cases hb : (jb_R N 0 (jn_df (2 ^ jb_n N - 1) (2 ^ r)) (jb_f N r)).testBit (jb_s N r) with
      | false => rfl
      | true => exact absurd ((hR _).1 hb) hrc
    have hRf := (hR (jb_f N r)).2 jb_rc.rf
    have hcl : jb_cl N 0 (jn_df (2 ^ jb_n N - 1) (2 ^ r)) (fun x => (jb_R N 0 (jn_df (2 ^ jb_n N - 1) (2 ^ r)) (jb_f N r)).testBit x = true) := by
      intro r' a b c e
      have := jb_rc_cl N 0 (jn_df (2 ^ jb_n N - 1) (2 ^ r)) (jb_f N r) r' a b c e
      exact ⟨fun k => (hR _).2 (this.1 ((hR _).1 k)), fun t k => (hR _).2 (this.2 t ((hR _).1 k))⟩
    obtain ⟨s, s1, s2, s3⟩ := jp_side w (X := jb_R N 0 (jn_df (2 ^ jb_n N - 1) (2 ^ r)) (jb_f N r)) (jn_has1 hRf) (jn_lack jb_R_lt w2 hRs)
    have hcr : jb_cb N (jb_R N 0 (jn_df (2 ^ jb_n N - 1) (2 ^ r)) (jb_f N r)) r = true := jb_cb_t.2 (Or.inl ⟨hRf, hRs⟩)
    refine ⟨s, s1, s2, ?_, by rw [s3 r hr]; exact hcr⟩
    rw [jb_cu_congr s3]
    refine jn_ct_one hr (fun i hi => ?_)
    rw [hall i hi, Bool.and_true]
    constructor
    · intro k
      apply Classical.byContradiction
      intro ne
      rw [jb_cl_cb.1 hcl i hi ((hT i).2 ⟨hi, ne⟩)] at k
      cases k
    · rintro rfl
      exact hcr
end
theorem jt_19 {d : Nat} {hx hm : jx_H} (I : jb_Inv hx hm) : jl_g d 56 149 [] hx hm := by
  obtain ⟨N, w, x, m, h', rd, I', x', P⟩ := I.rd d
  have hp := w.1
  cases ht : jb_t N
  · obtain ⟨L, l1, l2, l3⟩ := dm_loneX (d := d + 37) w P
    obtain ⟨K, k1, k2, k3⟩ := dm_bridgeM (d := d + 37) w m
    have e : L = K := by
      refine jn_ext l1 k1 (fun i hi => ?_)
      rw [Bool.eq_iff_iff, l3 i hi, k3 i hi]
      exact jb_bridge w ht hi
    subst e
    refine ⟨nI L, h', hm, ?_, ?_, I'⟩
    · rw [d56, e56_0, x.2.2.1, ht]
      simp (disch := omega) only [jx_bI_s, jx_bL_s, jx_bV_s, eq_self, true_or, or_true, jx_if_t, jx_if_f, jq_b0, jq_b1, jq_bb, jq_b01, jx_if_in, jx_if_lt, jx_if_nlt, jx_if_le, jx_if_nle, jq_eqp, jq_eqn, nI_clamp, nI_add, pk_sub, pk_mul, jn_and, jn_or, jn_xor, jq_andn, jq_shl1, jq_bit, jq_mn, jq_mx, cond_true, cond_false, jq_jt, jq_jf, jq_e1, jq_e2, jq_e3, jq_e4, Bool.not_true, Bool.not_false, jq_0, jq_1, jq_2, jq_3, jq_4, jq_5, jq_6, jq_8, jq_12, jq_16, jq_20, jq_21, jq_24, jq_30, jq_32, jq_60, jq_84, jq_1000, jq_2436, jq_20001, rd, l2]
    · rw [d149, e149_0, m.2.2.1, ht]
      simp (disch := omega) only [jx_bI_s, jx_bL_s, jx_bV_s, eq_self, true_or, or_true, jx_if_t, jx_if_f, jq_b0, jq_b1, jq_bb, jq_b01, jx_if_in, jx_if_lt, jx_if_nlt, jx_if_le, jx_if_nle, jq_eqp, jq_eqn, nI_clamp, nI_add, pk_sub, pk_mul, jn_and, jn_or, jn_xor, jq_andn, jq_shl1, jq_bit, jq_mn, jq_mx, cond_true, cond_false, jq_jt, jq_jf, jq_e1, jq_e2, jq_e3, jq_e4, Bool.not_true, Bool.not_false, jq_0, jq_1, jq_2, jq_3, jq_4, jq_5, jq_6, jq_8, jq_12, jq_16, jq_20, jq_21, jq_24, jq_30, jq_32, jq_60, jq_84, jq_1000, jq_2436, jq_20001, k2]
  · refine ⟨-8, _, _, ?_, ?_, I.fd⟩
    · rw [d56, e56_0, x.2.2.1, ht]
      simp (disch := omega) only [jx_bI_s, jx_bL_s, jx_bV_s, eq_self, true_or, or_true, jx_if_t, jx_if_f, jq_b0, jq_b1, jq_bb, jq_b01, jx_if_in, jx_if_lt, jx_if_nlt, jx_if_le, jx_if_nle, jq_eqp, jq_eqn, nI_clamp, nI_add, pk_sub, pk_mul, jn_and, jn_or, jn_xor, jq_andn, jq_shl1, jq_bit, jq_mn, jq_mx, cond_true, cond_false, jq_jt, jq_jf, jq_e1, jq_e2, jq_e3, jq_e4, Bool.not_true, Bool.not_false, jq_0, jq_1, jq_2, jq_3, jq_4, jq_5, jq_6, jq_8, jq_12, jq_16, jq_20, jq_21, jq_24, jq_30, jq_32, jq_60, jq_84, jq_1000, jq_2436, jq_20001, dm_fx]
    · rw [d149, e149_0, m.2.2.1, ht]
      simp (disch := omega) only [jx_bI_s, jx_bL_s, jx_bV_s, eq_self, true_or, or_true, jx_if_t, jx_if_f, jq_b0, jq_b1, jq_bb, jq_b01, jx_if_in, jx_if_lt, jx_if_nlt, jx_if_le, jx_if_nle, jq_eqp, jq_eqn, nI_clamp, nI_add, pk_sub, pk_mul, jn_and, jn_or, jn_xor, jq_andn, jq_shl1, jq_bit, jq_mn, jq_mx, cond_true, cond_false, jq_jt, jq_jf, jq_e1, jq_e2, jq_e3, jq_e4, Bool.not_true, Bool.not_false, jq_0, jq_1, jq_2, jq_3, jq_4, jq_5, jq_6, jq_8, jq_12, jq_16, jq_20, jq_21, jq_24, jq_30, jq_32, jq_60, jq_84, jq_1000, jq_2436, jq_20001, dm_fm]
