/-! ===== layer 2: joints ===== -/
theorem jb_rc_mono {N : jb_N} {W W' T T' a x : Nat} (hW : ∀ i, W'.testBit i = true → W.testBit i = true) (hT : ∀ i, T.testBit i = true → T'.testBit i = true) (h : jb_rc N W T a x) : jb_rc N W' T' a x := by
  intro C c1 c2
  refine h C c1 (fun r hr t f s => c2 r hr (hT r t) ?_ ?_)
  · cases hb : W'.testBit (jb_f N r) with
    | false => rfl
    | true => rw [hW _ hb] at f; cases f
  · cases hb : W'.testBit (jb_s N r) with
    | false => rfl
    | true => rw [hW _ hb] at s; cases s
theorem jb_rc_0 {N : jb_N} {W T a x : Nat} (h : jb_rc N W T a x) : jb_rc N 0 T a x := jb_rc_mono (fun i k => by rw [Nat.zero_testBit] at k; cases k) (fun _ k => k) h
theorem jn_df_self (X : Nat) : jn_df X X = 0 := by
  apply Nat.eq_of_testBit_eq
  intro i
  rw [jn_df_t, Nat.zero_testBit]
  cases X.testBit i <;> rfl
theorem jn_df_2 {p q : Nat} (h : q < p) : jn_df (2 ^ p - 1) (jn_df (2 ^ p - 1) (2 ^ q)) = 2 ^ q := by
  apply Nat.eq_of_testBit_eq
  intro i
  rw [jn_all_df, jn_all_df, jn_2k]
  by_cases e : q = i
  · subst e
    simp [h]
  · simp [e]
/-- without q, a way from y to x is gone -/
def jb_jt (N : jb_N) (q : Nat) : Prop := ∃ y x, y < jb_p N ∧ y ≠ q ∧ x ≠ q ∧ jb_rc N 0 (2 ^ jb_n N - 1) y x ∧ ¬ jb_rc N (2 ^ q) (2 ^ jb_n N - 1) y x
theorem jb_jt_h {N : jb_N} (w : jb_wf N) (ht : jb_t N = false) {q k : Nat} (hk : k ≠ q) (hkp : k < jb_p N) (hq : jb_rc N 0 (2 ^ jb_n N - 1) q k) : jb_jt N q ↔ ∃ z, z ≠ q ∧ jb_rc N 0 (2 ^ jb_n N - 1) q z ∧ ¬ jb_rc N (2 ^ q) (2 ^ jb_n N - 1) k z := by
  have hall : ∀ i, i < jb_n N → (2 ^ jb_n N - 1).testBit i = true := fun i hi => by rw [jn_all_t]; simpa using hi
  have h2 : ∀ i, (2 ^ q).testBit i = false ↔ i ≠ q := fun i => by
    rw [jn_2k]
    simp only [decide_eq_false_iff_not]
    exact ⟨fun h e => h e.symm, fun h e => h e.symm⟩
  constructor
  · rintro ⟨y, x, y1, y2, y3, y4, y5⟩
    have hqy : jb_rc N 0 (2 ^ jb_n N - 1) q y := by
      apply Classical.byContradiction
      intro hn
      refine y5 ?_
      refine (y4 (fun z => jb_rc N (2 ^ q) (2 ^ jb_n N - 1) y z) jb_rc.rf (fun r hr hT _ _ => ?_))
      have nf : ∀ z, jb_rc N (2 ^ q) (2 ^ jb_n N - 1) y z → z ≠ q := fun z hz e => by
        have := jb_rc_out hz ((h2 y).2 y2)
        rw [(h2 z)] at this
        exact this e
      have nq : ∀ z, jb_rc N (2 ^ q) (2 ^ jb_n N - 1) y z → ¬ jb_rc N 0 (2 ^ jb_n N - 1) z q := fun z hz hzq => hn (jb_rc_sym ht ((jb_rc_0 hz).tr hzq))
      refine ⟨fun k => ?_, fun _ k => ?_⟩
      · have e1 := nf _ k
        have e2 : jb_s N r ≠ q := fun e => nq _ k (by
          rw [← e]
          exact (jb_rc_cl N 0 _ _ r hr hT (Nat.zero_testBit _) (Nat.zero_testBit _)).1 jb_rc.rf)
        exact (jb_rc_cl N (2 ^ q) _ y r hr hT ((h2 _).2 e1) ((h2 _).2 e2)).1 k
      · have e1 := nf _ k
        have e2 : jb_f N r ≠ q := fun e => nq _ k (by
          rw [← e]
          exact (jb_rc_cl N 0 _ _ r hr hT (Nat.zero_testBit _) (Nat.zero_testBit _)).2 ht jb_rc.rf)
        exact (jb_rc_cl N (2 ^ q) _ y r hr hT ((h2 _).2 e2) ((h2 _).2 e1)).2 ht k
    apply Classical.byContradiction
    intro hn
    have key : ∀ z, z ≠ q → jb_rc N 0 (2 ^ jb_n N - 1) q z → jb_rc N (2 ^ q) (2 ^ jb_n N - 1) k z := fun z z1 z2 => by
      apply Classical.byContradiction
      intro z3
      exact hn ⟨z, z1, z2, z3⟩
    exact y5 ((jb_rc_sym ht (key y y2 hqy)).tr (key x y3 (hqy.tr y4)))
  · rintro ⟨z, z1, z2, z3⟩
    exact ⟨k, z, hkp, hk, z1, (jb_rc_sym ht hq).tr z2, z3⟩
section
variable {d : Nat} {h : jx_H} {N : jb_N}
theorem dm_joint1 (w : jb_wf N) (P : jp_P h N) (ht : jb_t N = false) {q L : Nat} (hq : q < jb_p N) : ∃ B : Bool, F59_4 (DM (d + 1)) (nI L) (nI q) h = F59_60 (DM (d + 1)) (nI (bif B then L ||| 2 ^ q else L)) (nI q) h ∧ (B = true ↔ jb_jt N q) := by
  have P0 := P
  obtain ⟨⟨p0, p1, p2, p3, p4, p5, p6⟩, pT⟩ := P
  have hp := w.1
  have h8 := jn_pow8 hp
  have i8 := Nat.two_pow_pos (jb_p N)
  have h2q := jn_2lt hq
  have hO : jn_df (2 ^ jb_p N - 1) (2 ^ q) < 2 ^ jb_p N := jn_df_lt (by omega)
  have hOt : ∀ i, (jn_df (2 ^ jb_p N - 1) (2 ^ q)).testBit i = true ↔ i < jb_p N ∧ i ≠ q := fun i => by
    rw [jn_all_df, jn_2k]
    simp only [Bool.and_eq_true, decide_eq_true_eq, Bool.not_eq_true', decide_eq_false_iff_not]
    exact ⟨fun k => ⟨k.1, fun e => k.2 e.symm⟩, fun k => ⟨k.1, fun e => k.2 e.symm⟩⟩
  obtain ⟨R, r1, r2, r3⟩ := dm_reachX (d := d) w P0 h2q (V := 2 ^ jb_p N - 1) (by omega)
  have r4 : ∀ x, R.testBit x = true ↔ jb_rc N 0 (2 ^ jb_n N - 1) q x := fun x => by
    rw [r3 x, jn_df_self]
    constructor
    · rintro ⟨a, a1, a2, a3⟩
      rw [jn_2k, decide_eq_true_eq] at a1
      subst a1
      exact a3
    · intro k
      exact ⟨q, by rw [jn_2k]; simp, by rw [jn_all_t]; simpa using hq, k⟩
  have hH : R &&& jn_df (2 ^ jb_p N - 1) (2 ^ q) < 2 ^ jb_p N := jn_and_lt r1
  have hHt : ∀ x, (R &&& jn_df (2 ^ jb_p N - 1) (2 ^ q)).testBit x = true ↔ x ≠ q ∧ jb_rc N 0 (2 ^ jb_n N - 1) q x := fun x => by
    rw [Nat.testBit_and, Bool.and_eq_true, r4, hOt]
    exact ⟨fun k => ⟨k.2.2, k.1⟩, fun k => ⟨k.2, jb_rc_in w k.2 hq, k.1⟩⟩
  rw [e59_4, p0, p3]
  by_cases h0 : R &&& jn_df (2 ^ jb_p N - 1) (2 ^ q) = 0
  · obtain ⟨R2, s1, s2, s3⟩ := dm_reachX (d := d) w P0 (F := 0) (V := jn_df (2 ^ jb_p N - 1) (2 ^ q)) (by omega) hO
    have e2 : R2 = 0 := by
      apply Nat.eq_of_testBit_eq
      intro i
      rw [Nat.zero_testBit]
      cases hb : R2.testBit i with
      | false => rfl
      | true =>
        obtain ⟨a, a1, _⟩ := (s3 i).1 hb
        rw [Nat.zero_testBit] at a1
        cases a1
    subst e2
    have nz : nI 0 &&& -nI 0 = nI 0 := by decide
    refine ⟨false, ?_, fun c => (by cases c), ?_⟩
    · simp (disch := omega) only [jx_bI_s, jx_bL_s, jx_bV_s, eq_self, true_or, or_true, jx_if_t, jx_if_f, jq_b0, jq_b1, jq_bb, jq_b01, jx_if_in, jx_if_lt, jx_if_nlt, jx_if_le, jx_if_nle, jq_eqp, jq_eqn, nI_clamp, nI_add, pk_sub, pk_mul, jn_and, jn_or, jn_xor, jq_andn, jq_shl1, jq_bit, jq_mn, jq_mx, cond_true, cond_false, jq_jt, jq_jf, jq_e1, jq_e2, jq_e3, jq_e4, Bool.not_true, Bool.not_false, jq_0, jq_1, jq_2, jq_3, jq_4, jq_5, jq_6, jq_8, jq_12, jq_16, jq_20, jq_21, jq_24, jq_30, jq_32, jq_60, jq_84, jq_1000, jq_2436, jq_20001, e59_23, p3, r2, h0, e59_38, nz, s2]
    · rintro ⟨y, z, y1, y2, y3, y4, y5⟩
      refine absurd ?_ y5
      have nq : ∀ z, z ≠ q → ¬ jb_rc N 0 (2 ^ jb_n N - 1) q z := fun z z1 z2 => by
        have := (hHt z).2 ⟨z1, z2⟩
        rw [h0, Nat.zero_testBit] at this
        cases this
      have h2 : ∀ i, (2 ^ q).testBit i = false ↔ i ≠ q := fun i => by
        rw [jn_2k]
        simp only [decide_eq_false_iff_not]
        exact ⟨fun h e => h e.symm, fun h e => h e.symm⟩
      refine (y4 (fun z => z ≠ q ∧ jb_rc N (2 ^ q) (2 ^ jb_n N - 1) y z) ⟨y2, jb_rc.rf⟩ (fun r hr hT _ _ => ⟨fun k => ?_, fun _ k => ?_⟩)).2
      · have e2 : jb_s N r ≠ q := fun e => nq _ k.1 (by
          rw [← e]
          exact (jb_rc_cl N 0 _ _ r hr hT (Nat.zero_testBit _) (Nat.zero_testBit _)).2 ht jb_rc.rf)
        exact ⟨e2, (jb_rc_cl N (2 ^ q) _ y r hr hT ((h2 _).2 k.1) ((h2 _).2 e2)).1 k.2⟩
      · have e2 : jb_f N r ≠ q := fun e => nq _ k.1 (by
          rw [← e]
          exact (jb_rc_cl N 0 _ _ r hr hT (Nat.zero_testBit _) (Nat.zero_testBit _)).1 jb_rc.rf)
        exact ⟨e2, (jb_rc_cl N (2 ^ q) _ y r hr hT ((h2 _).2 e2) ((h2 _).2 k.1)).2 ht k.2⟩
  · obtain ⟨k, c, ek⟩ := jn_low (show 0 < R &&& jn_df (2 ^ jb_p N - 1) (2 ^ q) by omega)
    have hlow := jn_lowI ek (by omega)
    have hk := (jn_low_has ek).1
    obtain ⟨k1, k2⟩ := (hHt k).1 hk
    have hkp := jb_rc_in w k2 hq
    obtain ⟨R2, s1, s2, s3⟩ := dm_reachX (d := d) w P0 (F := 2 ^ k) (V := jn_df (2 ^ jb_p N - 1) (2 ^ q)) (jn_2lt hkp) hO
    have s4 : ∀ x, R2.testBit x = true ↔ jb_rc N (2 ^ q) (2 ^ jb_n N - 1) k x := fun x => by
      rw [s3 x, jn_df_2 hq]
      constructor
      · rintro ⟨a, a1, a2, a3⟩
        rw [jn_2k, decide_eq_true_eq] at a1
        subst a1
        exact a3
      · intro z
        exact ⟨k, by rw [jn_2k]; simp, (hOt k).2 ⟨hkp, k1⟩, z⟩
    have hjt := jb_jt_h w ht k1 hkp k2
    by_cases e : R2 = R &&& jn_df (2 ^ jb_p N - 1) (2 ^ q)
    · refine ⟨false, ?_, fun c => (by cases c), fun c => ?_⟩
      · simp (disch := omega) only [jx_bI_s, jx_bL_s, jx_bV_s, eq_self, true_or, or_true, jx_if_t, jx_if_f, jq_b0, jq_b1, jq_bb, jq_b01, jx_if_in, jx_if_lt, jx_if_nlt, jx_if_le, jx_if_nle, jq_eqp, jq_eqn, nI_clamp, nI_add, pk_sub, pk_mul, jn_and, jn_or, jn_xor, jq_andn, jq_shl1, jq_bit, jq_mn, jq_mx, cond_true, cond_false, jq_jt, jq_jf, jq_e1, jq_e2, jq_e3, jq_e4, Bool.not_true, Bool.not_false, jq_0, jq_1, jq_2, jq_3, jq_4, jq_5, jq_6, jq_8, jq_12, jq_16, jq_20, jq_21, jq_24, jq_30, jq_32, jq_60, jq_84, jq_1000, jq_2436, jq_20001, e59_23, p3, r2, e59_38, hlow, s2]
      · obtain ⟨z, z1, z2, z3⟩ := hjt.1 c
        refine absurd ((s4 z).1 ?_) z3
        rw [e]
        exact (hHt z).2 ⟨z1, z2⟩
    · refine ⟨true, ?_, fun _ => ?_, fun _ => rfl⟩
      · simp (disch := omega) only [jx_bI_s, jx_bL_s, jx_bV_s, eq_self, true_or, or_true, jx_if_t, jx_if_f, jq_b0, jq_b1, jq_bb, jq_b01, jx_if_in, jx_if_lt, jx_if_nlt, jx_if_le, jx_if_nle, jq_eqp, jq_eqn, nI_clamp, nI_add, pk_sub, pk_mul, jn_and, jn_or, jn_xor, jq_andn, jq_shl1, jq_bit, jq_mn, jq_mx, cond_true, cond_false, jq_jt, jq_jf, jq_e1, jq_e2, jq_e3, jq_e4, Bool.not_true, Bool.not_false, jq_0, jq_1, jq_2, jq_3, jq_4, jq_5, jq_6, jq_8, jq_12, jq_16, jq_20, jq_21, jq_24, jq_30, jq_32, jq_60, jq_84, jq_1000, jq_2436, jq_20001, e59_23, p3, r2, e59_38, hlow, s2]
      · apply Classical.byContradiction
        intro hn
        refine e (jn_ext s1 hH (fun z _ => ?_))
        rw [Bool.eq_iff_iff, s4, hHt]
        constructor
        · intro c
          refine ⟨fun e => ?_, k2.tr (jb_rc_0 c)⟩
          have := jb_rc_out c (by rw [jn_2k]; simp [Ne.symm k1])
          rw [e, jn_2k] at this
          simp at this
        · rintro ⟨z1, z2⟩
          apply Classical.byContradiction
          intro z3
          exact hn (hjt.2 ⟨z, z1, z2, z3⟩)
theorem dm_jointsX (w : jb_wf N) (P : jp_P h N) (ht : jb_t N = false) : ∃ L, L < 2 ^ jb_p N ∧ DM (d + 2) 59 [vr 14 0] h = some ([vi (nI L)], h) ∧ ∀ q, q < jb_p N → (L.testBit q = true ↔ jb_jt N q) := by
  have hp := w.1
  have loop : ∀ k i L, i + k = jb_p N → L < 2 ^ jb_p N → (∀ q, q < jb_p N → (L.testBit q = true ↔ q < i ∧ jb_jt N q)) → ∃ L', L' < 2 ^ jb_p N ∧ F59_4 (DM (d + 1)) (nI L) (nI i) h = some ([vi (nI L')], h) ∧ ∀ q, q < jb_p N → (L'.testBit q = true ↔ jb_jt N q) := by
    intro k
    induction k with
    | zero =>
      intro i L hi hL hl
      refine ⟨L, hL, ?_, fun q hq => (hl q hq).trans ⟨fun c => c.2, fun c => ⟨by omega, c⟩⟩⟩
      rw [e59_4, P.1.1]
      simp (disch := omega) only [jx_bI_s, jx_bL_s, jx_bV_s, eq_self, true_or, or_true, jx_if_t, jx_if_f, jq_b0, jq_b1, jq_bb, jq_b01, jx_if_in, jx_if_lt, jx_if_nlt, jx_if_le, jx_if_nle, jq_eqp, jq_eqn, nI_clamp, nI_add, pk_sub, pk_mul, jn_and, jn_or, jn_xor, jq_andn, jq_shl1, jq_bit, jq_mn, jq_mx, cond_true, cond_false, jq_jt, jq_jf, jq_e1, jq_e2, jq_e3, jq_e4, Bool.not_true, Bool.not_false, jq_0, jq_1, jq_2, jq_3, jq_4, jq_5, jq_6, jq_8, jq_12, jq_16, jq_20, jq_21, jq_24, jq_30, jq_32, jq_60, jq_84, jq_1000, jq_2436, jq_20001]
    | succ k ih =>
      intro i L hi hL hl
      obtain ⟨B, b1, b2⟩ := dm_joint1 (d := d) w P ht (q := i) (L := L) (by omega)
      rw [b1, e59_60]
      cases B
      · rw [cond_false]
        have hn : ¬ jb_jt N i := fun c => by cases b2.2 c
        obtain ⟨L', l1, l2, l3⟩ := ih (i + 1) L (by omega) hL (fun q hq => by
          rw [hl q hq]
          refine ⟨fun c => ⟨by omega, c.2⟩, fun c => ⟨?_, c.2⟩⟩
          by_cases e : q = i
          · subst e
            exact absurd c.2 hn
          · omega)
        refine ⟨L', l1, ?_, l3⟩
        simp (disch := omega) only [jx_bI_s, jx_bL_s, jx_bV_s, eq_self, true_or, or_true, jx_if_t, jx_if_f, jq_b0, jq_b1, jq_bb, jq_b01, jx_if_in, jx_if_lt, jx_if_nlt, jx_if_le, jx_if_nle, jq_eqp, jq_eqn, nI_clamp, nI_add, pk_sub, pk_mul, jn_and, jn_or, jn_xor, jq_andn, jq_shl1, jq_bit, jq_mn, jq_mx, cond_true, cond_false, jq_jt, jq_jf, jq_e1, jq_e2, jq_e3, jq_e4, Bool.not_true, Bool.not_false, jq_0, jq_1, jq_2, jq_3, jq_4, jq_5, jq_6, jq_8, jq_12, jq_16, jq_20, jq_21, jq_24, jq_30, jq_32, jq_60, jq_84, jq_1000, jq_2436, jq_20001]
        exact l2
      · rw [cond_true]
        have hn : jb_jt N i := b2.1 rfl
        obtain ⟨L', l1, l2, l3⟩ := ih (i + 1) (L ||| 2 ^ i) (by omega) (jn_or_lt hL (jn_2lt (by omega))) (fun q hq => by
          rw [Nat.testBit_or, Bool.or_eq_true, hl q hq, jn_2k, decide_eq_true_eq]
          constructor
          · rintro (c | rfl)
            · exact ⟨by omega, c.2⟩
            · exact ⟨by omega, hn⟩
          · rintro ⟨c1, c2⟩
            by_cases e : q = i
            · exact Or.inr e.symm
            · exact Or.inl ⟨by omega, c2⟩)
        refine ⟨L', l1, ?_, l3⟩
        simp (disch := omega) only [jx_bI_s, jx_bL_s, jx_bV_s, eq_self, true_or, or_true, jx_if_t, jx_if_f, jq_b0, jq_b1, jq_bb, jq_b01, jx_if_in, jx_if_lt, jx_if_nlt, jx_if_le, jx_if_nle, jq_eqp, jq_eqn, nI_clamp, nI_add, pk_sub, pk_mul, jn_and, jn_or, jn_xor, jq_andn, jq_shl1, jq_bit, jq_mn, jq_mx, cond_true, cond_false, jq_jt, jq_jf, jq_e1, jq_e2, jq_e3, jq_e4, Bool.not_true, Bool.not_false, jq_0, jq_1, jq_2, jq_3, jq_4, jq_5, jq_6, jq_8, jq_12, jq_16, jq_20, jq_21, jq_24, jq_30, jq_32, jq_60, jq_84, jq_1000, jq_2436, jq_20001]
        exact l2
  rw [d59, e59_0]
  exact loop (jb_p N) 0 0 (by omega) (Nat.two_pow_pos _) (fun r hr => ⟨fun k => (by rw [Nat.zero_testBit] at k; cases k), fun k => (by omega)⟩)
theorem dm_joint2 (w : jb_wf N) (m : jb_M h N) {q L : Nat} (hq : q < jb_p N) : ∀ k i (b : Bool), i + k = jb_p N → ∃ B : Bool, F150_31 (DM (d + 2)) (nI L) (nI q) (jn_b b) (nI i) h = F150_107 (DM (d + 2)) (nI (bif B then L ||| 2 ^ q else L)) (nI q) h ∧ (B = true ↔ b = true ∨ ∃ y x, i ≤ y ∧ y < jb_p N ∧ y ≠ q ∧ x ≠ q ∧ jb_rc N 0 (2 ^ jb_n N - 1) y x ∧ ¬ jb_rc N (2 ^ q) (2 ^ jb_n N - 1) y x) := by
  have hn := w.2.1
  have hp := w.1
  have h8 := jn_pow8 hp
  have h20 := jn_pow20 hn
  have i20 := Nat.two_pow_pos (jb_n N)
  have h2q := jn_2lt hq
  have h2 : ∀ i, (2 ^ q).testBit i = false ↔ i ≠ q := fun i => by
    rw [jn_2k]
    simp only [decide_eq_false_iff_not]
    exact ⟨fun h e => h e.symm, fun h e => h e.symm⟩
  intro k
  induction k with
  | zero =>
    intro i b hi
    refine ⟨b, ?_, fun c => Or.inl c, fun c => c.elim id (fun ⟨y, x, c1, c2, _⟩ => by omega)⟩
    rw [e150_31, m.1]
    cases b
    · simp (disch := omega) only [jx_bI_s, jx_bL_s, jx_bV_s, eq_self, true_or, or_true, jx_if_t, jx_if_f, jq_b0, jq_b1, jq_bb, jq_b01, jx_if_in, jx_if_lt, jx_if_nlt, jx_if_le, jx_if_nle, jq_eqp, jq_eqn, nI_clamp, nI_add, pk_sub, pk_mul, jn_and, jn_or, jn_xor, jq_andn, jq_shl1, jq_bit, jq_mn, jq_mx, cond_true, cond_false, jq_jt, jq_jf, jq_e1, jq_e2, jq_e3, jq_e4, Bool.not_true, Bool.not_false, jq_0, jq_1, jq_2, jq_3, jq_4, jq_5, jq_6, jq_8, jq_12, jq_16, jq_20, jq_21, jq_24, jq_30, jq_32, jq_60, jq_84, jq_1000, jq_2436, jq_20001, e150_105, Nat.or_zero]
    · simp (disch := omega) only [jx_bI_s, jx_bL_s, jx_bV_s, eq_self, true_or, or_true, jx_if_t, jx_if_f, jq_b0, jq_b1, jq_bb, jq_b01, jx_if_in, jx_if_lt, jx_if_nlt, jx_if_le, jx_if_nle, jq_eqp, jq_eqn, nI_clamp, nI_add, pk_sub, pk_mul, jn_and, jn_or, jn_xor, jq_andn, jq_shl1, jq_bit, jq_mn, jq_mx, cond_true, cond_false, jq_jt, jq_jf, jq_e1, jq_e2, jq_e3, jq_e4, Bool.not_true, Bool.not_false, jq_0, jq_1, jq_2, jq_3, jq_4, jq_5, jq_6, jq_8, jq_12, jq_16, jq_20, jq_21, jq_24, jq_30, jq_32, jq_60, jq_84, jq_1000, jq_2436, jq_20001, e150_105]
  | succ k ih =>
    intro i b hi
    rw [e150_31, m.1]
    by_cases e : i = q
    · obtain ⟨B, b1, b2⟩ := ih (i + 1) b (by omega)
      refine ⟨B, ?_, b2.trans (or_congr_right ⟨fun ⟨y, x, c1, c⟩ => ⟨y, x, by omega, c⟩, fun ⟨y, x, c1, c2, c3, c⟩ => ⟨y, x, by omega, c2, c3, c⟩⟩)⟩
      simp (disch := omega) only [jx_bI_s, jx_bL_s, jx_bV_s, eq_self, true_or, or_true, jx_if_t, jx_if_f, jq_b0, jq_b1, jq_bb, jq_b01, jx_if_in, jx_if_lt, jx_if_nlt, jx_if_le, jx_if_nle, jq_eqp, jq_eqn, nI_clamp, nI_add, pk_sub, pk_mul, jn_and, jn_or, jn_xor, jq_andn, jq_shl1, jq_bit, jq_mn, jq_mx, cond_true, cond_false, jq_e1, jq_e2, jq_e3, jq_e4, Bool.not_true, Bool.not_false, jq_0, jq_1, jq_2, jq_3, jq_4, jq_5, jq_6, jq_8, jq_12, jq_16, jq_20, jq_21, jq_24, jq_30, jq_32, jq_60, jq_84, jq_1000, jq_2436, jq_20001, e150_84, e150_85, e150_87, jq_bo0]
      exact b1
    · obtain ⟨R1, r1, r2, r3⟩ := dm_reachM (d := d) (W := 2 ^ q) (T := 2 ^ jb_n N - 1) w m (by omega) (by omega) (a := i) (by omega) ((h2 i).2 e)
      obtain ⟨R0, s1, s2, s3⟩ := dm_reachM (d := d) (W := 0) (T := 2 ^ jb_n N - 1) w m (by omega) (by omega) (a := i) (by omega) (Nat.zero_testBit _)
      have hd : jn_df R0 (2 ^ q) < 2 ^ jb_p N := jn_df_lt s1
      by_cases e2 : R1 = jn_df R0 (2 ^ q)
      · obtain ⟨B, b1, b2⟩ := ih (i + 1) b (by omega)
        refine ⟨B, ?_, b2.trans (or_congr_right ⟨fun ⟨y, x, c1, c⟩ => ⟨y, x, by omega, c⟩, fun ⟨y, x, c1, c2, c3, c4, c5, c6⟩ => ⟨y, x, ?_, c2, c3, c4, c5, c6⟩⟩)⟩
        · simp (disch := omega) only [jx_bI_s, jx_bL_s, jx_bV_s, eq_self, true_or, or_true, jx_if_t, jx_if_f, jq_b0, jq_b1, jq_bb, jq_b01, jx_if_in, jx_if_lt, jx_if_nlt, jx_if_le, jx_if_nle, jq_eqp, jq_eqn, nI_clamp, nI_add, pk_sub, pk_mul, jn_and, jn_or, jn_xor, jq_andn, jq_shl1, jq_bit, jq_mn, jq_mx, cond_true, cond_false, jq_e1, jq_e2, jq_e3, jq_e4, Bool.not_true, Bool.not_false, jq_0, jq_1, jq_2, jq_3, jq_4, jq_5, jq_6, jq_8, jq_12, jq_16, jq_20, jq_21, jq_24, jq_30, jq_32, jq_60, jq_84, jq_1000, jq_2436, jq_20001, e150_84, e150_85, e150_87, jq_bo0, dm_allR (n := jb_n N) (by omega) m.2.1, r2, s2]
          exact b1
        · by_cases e3 : y = i
          · subst e3
            refine absurd ((r3 x).1 ?_) c6
            rw [e2, jn_df_t, (s3 x).2 c5, (h2 x).2 c4]
            rfl
          · omega
      · obtain ⟨B, b1, b2⟩ := ih (i + 1) true (by omega)
        refine ⟨B, ?_, b2.trans ⟨fun _ => Or.inr ?_, fun _ => Or.inl rfl⟩⟩
        · simp (disch := omega) only [jx_bI_s, jx_bL_s, jx_bV_s, eq_self, true_or, or_true, jx_if_t, jx_if_f, jq_b0, jq_b1, jq_bb, jq_b01, jx_if_in, jx_if_lt, jx_if_nlt, jx_if_le, jx_if_nle, jq_eqp, jq_eqn, nI_clamp, nI_add, pk_sub, pk_mul, jn_and, jn_or, jn_xor, jq_andn, jq_shl1, jq_bit, jq_mn, jq_mx, cond_true, cond_false, jq_e1, jq_e2, jq_e3, jq_e4, Bool.not_true, Bool.not_false, jq_0, jq_1, jq_2, jq_3, jq_4, jq_5, jq_6, jq_8, jq_12, jq_16, jq_20, jq_21, jq_24, jq_30, jq_32, jq_60, jq_84, jq_1000, jq_2436, jq_20001, e150_84, e150_85, e150_87, jq_bo1, dm_allR (n := jb_n N) (by omega) m.2.1, r2, s2]
          exact b1
        · apply Classical.byContradiction
          intro hh
          refine e2 (jn_ext r1 hd (fun x _ => ?_))
          rw [Bool.eq_iff_iff, r3, jn_df_t, Bool.and_eq_true, s3, Bool.not_eq_true', h2]
          constructor
          · intro c
            exact ⟨jb_rc_0 c, (h2 x).1 (jb_rc_out c ((h2 i).2 e))⟩
          · rintro ⟨c1, c2⟩
            apply Classical.byContradiction
            intro c3
            exact hh ⟨i, x, Nat.le_refl _, by omega, e, c2, c1, c3⟩
theorem dm_jointsM (w : jb_wf N) (m : jb_M h N) : ∃ L, L < 2 ^ jb_p N ∧ F150_18 (DM (d + 2)) (nI 0) (nI 0) h = some ([vi (nI L)], h) ∧ ∀ q, q < jb_p N → (L.testBit q = true ↔ jb_jt N q) := by
  have hp := w.1
  have loop : ∀ k i L, i + k = jb_p N → L < 2 ^ jb_p N → (∀ q, q < jb_p N → (L.testBit q = true ↔ q < i ∧ jb_jt N q)) → ∃ L', L' < 2 ^ jb_p N ∧ F150_18 (DM (d + 2)) (nI L) (nI i) h = some ([vi (nI L')], h) ∧ ∀ q, q < jb_p N → (L'.testBit q = true ↔ jb_jt N q) := by
    intro k
    induction k with
    | zero =>
      intro i L hi hL hl
      refine ⟨L, hL, ?_, fun q hq => (hl q hq).trans ⟨fun c => c.2, fun c => ⟨by omega, c⟩⟩⟩
      rw [e150_18, m.1]
      simp (disch := omega) only [jx_bI_s, jx_bL_s, jx_bV_s, eq_self, true_or, or_true, jx_if_t, jx_if_f, jq_b0, jq_b1, jq_bb, jq_b01, jx_if_in, jx_if_lt, jx_if_nlt, jx_if_le, jx_if_nle, jq_eqp, jq_eqn, nI_clamp, nI_add, pk_sub, pk_mul, jn_and, jn_or, jn_xor, jq_andn, jq_shl1, jq_bit, jq_mn, jq_mx, cond_true, cond_false, jq_jt, jq_jf, jq_e1, jq_e2, jq_e3, jq_e4, Bool.not_true, Bool.not_false, jq_0, jq_1, jq_2, jq_3, jq_4, jq_5, jq_6, jq_8, jq_12, jq_16, jq_20, jq_21, jq_24, jq_30, jq_32, jq_60, jq_84, jq_1000, jq_2436, jq_20001]
    | succ k ih =>
      intro i L hi hL hl
      obtain ⟨B, b1, b2⟩ := dm_joint2 (d := d) w m (q := i) (L := L) (by omega) (jb_p N) 0 false (by omega)
      have b3 : B = true ↔ jb_jt N i := b2.trans ⟨fun c => c.elim (fun c => by cases c) (fun ⟨y, x, _, c⟩ => ⟨y, x, c⟩), fun ⟨y, x, c⟩ => Or.inr ⟨y, x, by omega, c⟩⟩
      have b4 : F150_31 (DM (d + 2)) (nI L) (nI i) (nI 0) (nI 0) h = F150_107 (DM (d + 2)) (nI (bif B then L ||| 2 ^ i else L)) (nI i) h := b1
      rw [e150_18, m.1]
      cases B
      · rw [cond_false] at b4
        have hn : ¬ jb_jt N i := fun c => by cases b3.2 c
        obtain ⟨L', l1, l2, l3⟩ := ih (i + 1) L (by omega) hL (fun q hq => by
          rw [hl q hq]
          refine ⟨fun c => ⟨by omega, c.2⟩, fun c => ⟨?_, c.2⟩⟩
          by_cases e : q = i
          · subst e
            exact absurd c.2 hn
          · omega)
        refine ⟨L', l1, ?_, l3⟩
        simp (disch := omega) only [jx_bI_s, jx_bL_s, jx_bV_s, eq_self, true_or, or_true, jx_if_t, jx_if_f, jq_b0, jq_b1, jq_bb, jq_b01, jx_if_in, jx_if_lt, jx_if_nlt, jx_if_le, jx_if_nle, jq_eqp, jq_eqn, nI_clamp, nI_add, pk_sub, pk_mul, jn_and, jn_or, jn_xor, jq_andn, jq_shl1, jq_bit, jq_mn, jq_mx, cond_true, cond_false, jq_jt, jq_jf, jq_e1, jq_e2, jq_e3, jq_e4, Bool.not_true, Bool.not_false, jq_0, jq_1, jq_2, jq_3, jq_4, jq_5, jq_6, jq_8, jq_12, jq_16, jq_20, jq_21, jq_24, jq_30, jq_32, jq_60, jq_84, jq_1000, jq_2436, jq_20001, b4, e150_107]
        exact l2
      · rw [cond_true] at b4
        have hn : jb_jt N i := b3.1 rfl
        obtain ⟨L', l1, l2, l3⟩ := ih (i + 1) (L ||| 2 ^ i) (by omega) (jn_or_lt hL (jn_2lt (by omega))) (fun q hq => by
          rw [Nat.testBit_or, Bool.or_eq_true, hl q hq, jn_2k, decide_eq_true_eq]
          constructor
          · rintro (c | rfl)
            · exact ⟨by omega, c.2⟩
            · exact ⟨by omega, hn⟩
          · rintro ⟨c1, c2⟩
            by_cases e : q = i
            · exact Or.inr e.symm
            · exact Or.inl ⟨by omega, c2⟩)
        refine ⟨L', l1, ?_, l3⟩
        simp (disch := omega) only [jx_bI_s, jx_bL_s, jx_bV_s, eq_self, true_or, or_true, jx_if_t, jx_if_f, jq_b0, jq_b1, jq_bb, jq_b01, jx_if_in, jx_if_lt, jx_if_nlt, jx_if_le, jx_if_nle, jq_eqp, jq_eqn, nI_clamp, nI_add, pk_sub, pk_mul, jn_and, jn_or, jn_xor, jq_andn, jq_shl1, jq_bit, jq_mn, jq_mx, cond_true, cond_false, jq_jt, jq_jf, jq_e1, jq_e2, jq_e3, jq_e4, Bool.not_true, Bool.not_false, jq_0, jq_1, jq_2, jq_3, jq_4, jq_5, jq_6, jq_8, jq_12, jq_16, jq_20, jq_21, jq_24, jq_30, jq_32, jq_60, jq_84, jq_1000, jq_2436, jq_20001, b4, e150_107]
        exact l2
  exact loop (jb_p N) 0 0 (by omega) (Nat.two_pow_pos _) (fun r hr => ⟨fun k => (by rw [Nat.zero_testBit] at k; cases k), fun k => (by omega)⟩)
end
theorem jt_20 {d : Nat} {hx hm : jx_H} (I : jb_Inv hx hm) : jl_g d 58 150 [] hx hm := by
  obtain ⟨N, w, x, m, h', rd, I', x', P⟩ := I.rd d
  have hp := w.1
  cases ht : jb_t N
  · obtain ⟨L, l1, l2, l3⟩ := dm_jointsX (d := d + 37) w P ht
    obtain ⟨K, k1, k2, k3⟩ := dm_jointsM (d := d + 37) w m
    have e : L = K := by
      refine jn_ext l1 k1 (fun i hi => ?_)
      rw [Bool.eq_iff_iff, l3 i hi, k3 i hi]
    subst e
    refine ⟨nI L, h', hm, ?_, ?_, I'⟩
    · rw [d58, e58_0, x.2.2.1, ht]
      simp (disch := omega) only [jx_bI_s, jx_bL_s, jx_bV_s, eq_self, true_or, or_true, jx_if_t, jx_if_f, jq_b0, jq_b1, jq_bb, jq_b01, jx_if_in, jx_if_lt, jx_if_nlt, jx_if_le, jx_if_nle, jq_eqp, jq_eqn, nI_clamp, nI_add, pk_sub, pk_mul, jn_and, jn_or, jn_xor, jq_andn, jq_shl1, jq_bit, jq_mn, jq_mx, cond_true, cond_false, jq_jt, jq_jf, jq_e1, jq_e2, jq_e3, jq_e4, Bool.not_true, Bool.not_false, jq_0, jq_1, jq_2, jq_3, jq_4, jq_5, jq_6, jq_8, jq_12, jq_16, jq_20, jq_21, jq_24, jq_30, jq_32, jq_60, jq_84, jq_1000, jq_2436, jq_20001, rd, l2]
    · rw [d150, e150_0, m.2.2.1, ht]
      simp (disch := omega) only [jx_bI_s, jx_bL_s, jx_bV_s, eq_self, true_or, or_true, jx_if_t, jx_if_f, jq_b0, jq_b1, jq_bb, jq_b01, jx_if_in, jx_if_lt, jx_if_nlt, jx_if_le, jx_if_nle, jq_eqp, jq_eqn, nI_clamp, nI_add, pk_sub, pk_mul, jn_and, jn_or, jn_xor, jq_andn, jq_shl1, jq_bit, jq_mn, jq_mx, cond_true, cond_false, jq_jt, jq_jf, jq_e1, jq_e2, jq_e3, jq_e4, Bool.not_true, Bool.not_false, jq_0, jq_1, jq_2, jq_3, jq_4, jq_5, jq_6, jq_8, jq_12, jq_16, jq_20, jq_21, jq_24, jq_30, jq_32, jq_60, jq_84, jq_1000, jq_2436, jq_20001, k2]
  · refine ⟨-8, _, _, ?_, ?_, I.fd⟩
    · rw [d58, e58_0, x.2.2.1, ht]
      simp (disch := omega) only [jx_bI_s, jx_bL_s, jx_bV_s, eq_self, true_or, or_true, jx_if_t, jx_if_f, jq_b0, jq_b1, jq_bb, jq_b01, jx_if_in, jx_if_lt, jx_if_nlt, jx_if_le, jx_if_nle, jq_eqp, jq_eqn, nI_clamp, nI_add, pk_sub, pk_mul, jn_and, jn_or, jn_xor, jq_andn, jq_shl1, jq_bit, jq_mn, jq_mx, cond_true, cond_false, jq_jt, jq_jf, jq_e1, jq_e2, jq_e3, jq_e4, Bool.not_true, Bool.not_false, jq_0, jq_1, jq_2, jq_3, jq_4, jq_5, jq_6, jq_8, jq_12, jq_16, jq_20, jq_21, jq_24, jq_30, jq_32, jq_60, jq_84, jq_1000, jq_2436, jq_20001, dm_fx]
    · rw [d150, e150_0, m.2.2.1, ht]
      simp (disch := omega) only [jx_bI_s, jx_bL_s, jx_bV_s, eq_self, true_or, or_true, jx_if_t, jx_if_f, jq_b0, jq_b1, jq_bb, jq_b01, jx_if_in, jx_if_lt, jx_if_nlt, jx_if_le, jx_if_nle, jq_eqp, jq_eqn, nI_clamp, nI_add, pk_sub, pk_mul, jn_and, jn_or, jn_xor, jq_andn, jq_shl1, jq_bit, jq_mn, jq_mx, cond_true, cond_false, jq_jt, jq_jf, jq_e1, jq_e2, jq_e3, jq_e4, Bool.not_true, Bool.not_false, jq_0, jq_1, jq_2, jq_3, jq_4, jq_5, jq_6, jq_8, jq_12, jq_16, jq_20, jq_21, jq_24, jq_30, jq_32, jq_60, jq_84, jq_1000, jq_2436, jq_20001, dm_fm]
