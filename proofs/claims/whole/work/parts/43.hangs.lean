/-! ===== layer 2: hanging together ===== -/
noncomputable def jb_R (N : jb_N) (W T a : Nat) : Nat := jn_mk (fun x => @decide (jb_rc N W T a x) (Classical.propDecidable _)) (jb_p N)
theorem jb_R_lt {N : jb_N} {W T a : Nat} : jb_R N W T a < 2 ^ jb_p N := jn_mk_lt _ _
theorem jb_R_t {N : jb_N} (w : jb_wf N) {W T a x : Nat} (ha : a < jb_p N) : (jb_R N W T a).testBit x = true ↔ jb_rc N W T a x := by
  unfold jb_R
  rw [jn_mk_t, Bool.and_eq_true, decide_eq_true_eq, @decide_eq_true_eq _ (Classical.propDecidable _)]
  exact ⟨fun k => k.2, fun k => ⟨jb_rc_in w k ha, k⟩⟩
theorem jb_cb_t {N : jb_N} {X r : Nat} : jb_cb N X r = true ↔ (X.testBit (jb_f N r) = true ∧ X.testBit (jb_s N r) = false) ∨ (jb_t N = false ∧ X.testBit (jb_s N r) = true ∧ X.testBit (jb_f N r) = false) := by
  unfold jb_cb
  cases X.testBit (jb_f N r) <;> cases X.testBit (jb_s N r) <;> cases jb_t N <;> decide
/-- closed: no road of T leads out -/
theorem jb_cl_cb {N : jb_N} {X T : Nat} : jb_cl N 0 T (fun x => X.testBit x = true) ↔ ∀ r, r < jb_n N → T.testBit r = true → jb_cb N X r = false := by
  constructor
  · intro h r hr hT
    obtain ⟨h1, h2⟩ := h r hr hT (Nat.zero_testBit _) (Nat.zero_testBit _)
    cases hc : jb_cb N X r with
    | false => rfl
    | true =>
      rcases jb_cb_t.1 hc with ⟨k1, k2⟩ | ⟨k0, k1, k2⟩
      · rw [show X.testBit (jb_s N r) = true from h1 k1] at k2
        cases k2
      · rw [show X.testBit (jb_f N r) = true from h2 k0 k1] at k2
        cases k2
  · intro h r hr hT _ _
    have hc := h r hr hT
    refine ⟨fun k => ?_, fun k0 k => ?_⟩
    · show X.testBit (jb_s N r) = true
      cases hs : X.testBit (jb_s N r) with
      | true => rfl
      | false =>
        rw [jb_cb_t.2 (Or.inl ⟨k, hs⟩)] at hc
        cases hc
    · show X.testBit (jb_f N r) = true
      cases hs : X.testBit (jb_f N r) with
      | true => rfl
      | false =>
        rw [jb_cb_t.2 (Or.inr ⟨k0, k, hs⟩)] at hc
        cases hc
theorem jb_hg_cut {N : jb_N} (w : jb_wf N) {T : Nat} : jb_hg N 0 T ↔ 0 < jb_p N ∧ ∀ X, 1 ≤ X → X < 2 ^ jb_p N - 1 → ∃ r, r < jb_n N ∧ T.testBit r = true ∧ jb_cb N X r = true := by
  constructor
  · rintro ⟨h0, h⟩
    refine ⟨h0, fun X h1 h2 => ?_⟩
    apply Classical.byContradiction
    intro hn
    obtain ⟨q, hq⟩ := jn_some h1
    obtain ⟨x, hx1, hx2⟩ := jn_miss h2
    have hc : jb_cl N 0 T (fun x => X.testBit x = true) := jb_cl_cb.2 (fun r hr hT => by
      cases hc : jb_cb N X r with
      | false => rfl
      | true => exact absurd ⟨r, hr, hT, hc⟩ hn)
    have := h q (jn_hi (n := jb_p N) (by omega) hq) (Nat.zero_testBit _) x hx1 (Nat.zero_testBit _) _ hq hc
    rw [show X.testBit x = true from this] at hx2
    cases hx2
  · rintro ⟨h0, h⟩
    refine ⟨h0, fun q hq _ x hx _ => ?_⟩
    apply Classical.byContradiction
    intro hn
    have hRq : (jb_R N 0 T q).testBit q = true := (jb_R_t w hq).2 jb_rc.rf
    have hRx : (jb_R N 0 T q).testBit x = false := by
      cases hb : (jb_R N 0 T q).testBit x with
      | false => rfl
      | true => exact absurd ((jb_R_t w hq).1 hb) hn
    obtain ⟨r, r1, r2, r3⟩ := h (jb_R N 0 T q) (jn_has1 hRq) (jn_lack jb_R_lt hx hRx)
    have hc : jb_cl N 0 T (fun x => (jb_R N 0 T q).testBit x = true) := by
      intro r' a b c e
      have := jb_rc_cl N 0 T q r' a b c e
      exact ⟨fun k => (jb_R_t w hq).2 (this.1 ((jb_R_t w hq).1 k)), fun t k => (jb_R_t w hq).2 (this.2 t ((jb_R_t w hq).1 k))⟩
    rw [jb_cl_cb.1 hc r r1 r2] at r3
    cases r3
theorem jp_cuT0 {N : jb_N} {X T : Nat} : jp_cu N X &&& T = 0 ↔ ∀ r, r < jb_n N → T.testBit r = true → jb_cb N X r = false := by
  have e : jp_cu N X &&& T = jn_mk (fun r => jb_cb N X r && T.testBit r) (jb_n N) := by
    apply Nat.eq_of_testBit_eq
    intro i
    unfold jp_cu
    rw [Nat.testBit_and, jn_mk_t, jn_mk_t, Bool.and_assoc]
  rw [e, jn_mk_eq0]
  constructor
  · intro h r hr hT
    have := h r hr
    rw [hT, Bool.and_true] at this
    exact this
  · intro h r hr
    cases hT : T.testBit r with
    | false => exact Bool.and_false _
    | true => rw [h r hr hT]; rfl
section
variable {d : Nat} {h : jx_H} {N : jb_N}
theorem dm_hangsX (w : jb_wf N) (P : jp_P h N) {T : Nat} (hT : T < 2 ^ 31) : ∃ B : Bool, DM (d + 1) 55 [vr 14 0, vi (nI T)] h = some ([vi (jn_b B)], h) ∧ (B = true ↔ jb_hg N 0 T) := by
  obtain ⟨⟨p0, p1, p2, p3, p4, p5, p6⟩, pT⟩ := P
  have hn := w.2.1
  have hp := w.1
  have h2 := jn_pow8 hp
  have h20 := jn_pow20 hn
  have hsd := jp_sd_le (N := N)
  have loop : ∀ k i, jp_sd N ≤ i + k → i ≤ 256 → 1 ≤ i → (∀ s, 1 ≤ s → s < i → s < jp_sd N → jp_cu N (jp_X N s) &&& T ≠ 0) → ∃ B : Bool, F55_2 (DM d) (nI T) (nI i) h = some ([vi (jn_b B)], h) ∧ (B = true ↔ 0 < jb_p N ∧ ∀ s, 1 ≤ s → s < jp_sd N → jp_cu N (jp_X N s) &&& T ≠ 0) := by
    intro k
    induction k with
    | zero =>
      intro i hi h256 h1 hs
      by_cases h0 : 0 < jb_p N
      · refine ⟨true, ?_, fun _ => ⟨h0, fun s s1 s2 => hs s s1 (by omega) s2⟩, fun _ => rfl⟩
        rw [e55_2, p5, p0]
        simp (disch := omega) only [jx_bI_s, jx_bL_s, jx_bV_s, eq_self, true_or, or_true, jx_if_t, jx_if_f, jq_b0, jq_b1, jq_bb, jq_b01, jx_if_in, jx_if_lt, jx_if_nlt, jx_if_le, jx_if_nle, jq_eqp, jq_eqn, nI_clamp, nI_add, pk_sub, pk_mul, jn_and, jn_or, jn_xor, jq_andn, jq_shl1, jq_bit, jq_mn, jq_mx, cond_true, cond_false, jq_jt, jq_jf, jq_e1, jq_e2, jq_e3, jq_e4, Bool.not_true, Bool.not_false, jq_0, jq_1, jq_2, jq_3, jq_4, jq_5, jq_6, jq_8, jq_12, jq_16, jq_20, jq_21, jq_24, jq_30, jq_32, jq_60, jq_84, jq_1000, jq_2436, jq_20001, e55_46]
      · refine ⟨false, ?_, fun c => (by cases c), fun c => absurd c.1 h0⟩
        rw [e55_2, p5, p0]
        simp (disch := omega) only [jx_bI_s, jx_bL_s, jx_bV_s, eq_self, true_or, or_true, jx_if_t, jx_if_f, jq_b0, jq_b1, jq_bb, jq_b01, jx_if_in, jx_if_lt, jx_if_nlt, jx_if_le, jx_if_nle, jq_eqp, jq_eqn, nI_clamp, nI_add, pk_sub, pk_mul, jn_and, jn_or, jn_xor, jq_andn, jq_shl1, jq_bit, jq_mn, jq_mx, cond_true, cond_false, jq_jt, jq_jf, jq_e1, jq_e2, jq_e3, jq_e4, Bool.not_true, Bool.not_false, jq_0, jq_1, jq_2, jq_3, jq_4, jq_5, jq_6, jq_8, jq_12, jq_16, jq_20, jq_21, jq_24, jq_30, jq_32, jq_60, jq_84, jq_1000, jq_2436, jq_20001, e55_46]
    | succ k ih =>
      intro i hi h256 h1 hs
      by_cases hlt : i < jp_sd N
      · have hX := jp_X_in h1 hlt
        have hl : jp_cu N (jp_X N i) &&& T < 2 ^ 31 := jn_and_lt' hT
        by_cases e : jp_cu N (jp_X N i) &&& T = 0
        · refine ⟨false, ?_, fun c => (by cases c), fun c => absurd e (c.2 i h1 hlt)⟩
          rw [e55_2, p5, p6, jp_side_sh hlt hp]
          simp (disch := omega) only [jx_bI_s, jx_bL_s, jx_bV_s, eq_self, true_or, or_true, jx_if_t, jx_if_f, jq_b0, jq_b1, jq_bb, jq_b01, jx_if_in, jx_if_lt, jx_if_nlt, jx_if_le, jx_if_nle, jq_eqp, jq_eqn, nI_clamp, nI_add, pk_sub, pk_mul, jn_and, jn_or, jn_xor, jq_andn, jq_shl1, jq_bit, jq_mn, jq_mx, cond_true, cond_false, jq_jt, jq_jf, jq_e1, jq_e2, jq_e3, jq_e4, Bool.not_true, Bool.not_false, jq_0, jq_1, jq_2, jq_3, jq_4, jq_5, jq_6, jq_8, jq_12, jq_16, jq_20, jq_21, jq_24, jq_30, jq_32, jq_60, jq_84, jq_1000, jq_2436, jq_20001, (pT _ (show jp_X N i < 2 ^ jb_p N by omega)).2, e]
        · obtain ⟨B, b1, b2⟩ := ih (i + 1) (by omega) (by omega) (by omega) (fun s s1 s2 s3 => by
            by_cases e2 : s = i
            · rw [e2]; exact e
            · exact hs s s1 (by omega) s3)
          refine ⟨B, ?_, b2⟩
          rw [e55_2, p5, p6, jp_side_sh hlt hp]
          simp (disch := omega) only [jx_bI_s, jx_bL_s, jx_bV_s, eq_self, true_or, or_true, jx_if_t, jx_if_f, jq_b0, jq_b1, jq_bb, jq_b01, jx_if_in, jx_if_lt, jx_if_nlt, jx_if_le, jx_if_nle, jq_eqp, jq_eqn, nI_clamp, nI_add, pk_sub, pk_mul, jn_and, jn_or, jn_xor, jq_andn, jq_shl1, jq_bit, jq_mn, jq_mx, cond_true, cond_false, jq_jt, jq_jf, jq_e1, jq_e2, jq_e3, jq_e4, Bool.not_true, Bool.not_false, jq_0, jq_1, jq_2, jq_3, jq_4, jq_5, jq_6, jq_8, jq_12, jq_16, jq_20, jq_21, jq_24, jq_30, jq_32, jq_60, jq_84, jq_1000, jq_2436, jq_20001, (pT _ (show jp_X N i < 2 ^ jb_p N by omega)).2]
          exact b1
      · by_cases h0 : 0 < jb_p N
        · refine ⟨true, ?_, fun _ => ⟨h0, fun s s1 s2 => hs s s1 (by omega) s2⟩, fun _ => rfl⟩
          rw [e55_2, p5, p0]
          simp (disch := omega) only [jx_bI_s, jx_bL_s, jx_bV_s, eq_self, true_or, or_true, jx_if_t, jx_if_f, jq_b0, jq_b1, jq_bb, jq_b01, jx_if_in, jx_if_lt, jx_if_nlt, jx_if_le, jx_if_nle, jq_eqp, jq_eqn, nI_clamp, nI_add, pk_sub, pk_mul, jn_and, jn_or, jn_xor, jq_andn, jq_shl1, jq_bit, jq_mn, jq_mx, cond_true, cond_false, jq_jt, jq_jf, jq_e1, jq_e2, jq_e3, jq_e4, Bool.not_true, Bool.not_false, jq_0, jq_1, jq_2, jq_3, jq_4, jq_5, jq_6, jq_8, jq_12, jq_16, jq_20, jq_21, jq_24, jq_30, jq_32, jq_60, jq_84, jq_1000, jq_2436, jq_20001, e55_46]
        · refine ⟨false, ?_, fun c => (by cases c), fun c => absurd c.1 h0⟩
          rw [e55_2, p5, p0]
          simp (disch := omega) only [jx_bI_s, jx_bL_s, jx_bV_s, eq_self, true_or, or_true, jx_if_t, jx_if_f, jq_b0, jq_b1, jq_bb, jq_b01, jx_if_in, jx_if_lt, jx_if_nlt, jx_if_le, jx_if_nle, jq_eqp, jq_eqn, nI_clamp, nI_add, pk_sub, pk_mul, jn_and, jn_or, jn_xor, jq_andn, jq_shl1, jq_bit, jq_mn, jq_mx, cond_true, cond_false, jq_jt, jq_jf, jq_e1, jq_e2, jq_e3, jq_e4, Bool.not_true, Bool.not_false, jq_0, jq_1, jq_2, jq_3, jq_4, jq_5, jq_6, jq_8, jq_12, jq_16, jq_20, jq_21, jq_24, jq_30, jq_32, jq_60, jq_84, jq_1000, jq_2436, jq_20001, e55_46]
  obtain ⟨B, b1, b2⟩ := loop (jp_sd N) 1 (by omega) (by omega) (by omega) (fun s s1 s2 => by omega)
  refine ⟨B, ?_, b2.trans ?_⟩
  · rw [d55, e55_0]
    exact b1
  · rw [jb_hg_cut w]
    refine and_congr_right (fun h0 => ⟨fun c X h1 h2 => ?_, fun c s s1 s2 => ?_⟩)
    · obtain ⟨s, s1, s2, s3⟩ := jp_side w h1 h2
      apply Classical.byContradiction
      intro hh
      refine c s s1 s2 (jp_cuT0.2 (fun r hr hTr => ?_))
      rw [s3 r hr]
      cases hc : jb_cb N X r with
      | false => rfl
      | true => exact absurd ⟨r, hr, hTr, hc⟩ hh
    · obtain ⟨x1, x2⟩ := jp_X_in s1 s2
      obtain ⟨r, r1, r2, r3⟩ := c _ x1 x2
      intro e
      rw [jp_cuT0.1 e r r1 r2] at r3
      cases r3
theorem dm_hardX (w : jb_wf N) (P : jp_P h N) {T k : Nat} (hT : T < 2 ^ 31) (hk : k ≤ 8) : ∃ B : Bool, DM (d + 2) 70 [vr 14 0, vi (nI T), vi (nI k)] h = some ([vi (jn_b B)], h) ∧ (B = true ↔ 2 ≤ jb_p N ∧ k ≤ jb_hm N T 1000) := by
  obtain ⟨⟨p0, p1, p2, p3, p4, p5, p6⟩, pT⟩ := P
  have hn := w.2.1
  have hp := w.1
  have h2 := jn_pow8 hp
  have h20 := jn_pow20 hn
  have hsd := jp_sd_le (N := N)
  have fin : ∀ i, jp_sd N ≤ i → i ≤ 256 → (∀ s, 1 ≤ s → s < i → s < jp_sd N → k ≤ jb_cu N (jp_X N s) T) → ∃ B : Bool, F70_2 (DM (d + 1)) (nI T) (nI k) (nI i) h = some ([vi (jn_b B)], h) ∧ (B = true ↔ 2 ≤ jb_p N ∧ ∀ s, 1 ≤ s → s < jp_sd N → k ≤ jb_cu N (jp_X N s) T) := by
    intro i hi h256 hs
    by_cases h0 : 2 ≤ jb_p N
    · refine ⟨true, ?_, fun _ => ⟨h0, fun s s1 s2 => hs s s1 (by omega) s2⟩, fun _ => rfl⟩
      rw [e70_2, p5, p0]
      simp (disch := omega) only [jx_bI_s, jx_bL_s, jx_bV_s, eq_self, true_or, or_true, jx_if_t, jx_if_f, jq_b0, jq_b1, jq_bb, jq_b01, jx_if_in, jx_if_lt, jx_if_nlt, jx_if_le, jx_if_nle, jq_eqp, jq_eqn, nI_clamp, nI_add, pk_sub, pk_mul, jn_and, jn_or, jn_xor, jq_andn, jq_shl1, jq_bit, jq_mn, jq_mx, cond_true, cond_false, jq_jt, jq_jf, jq_e1, jq_e2, jq_e3, jq_e4, Bool.not_true, Bool.not_false, jq_0, jq_1, jq_2, jq_3, jq_4, jq_5, jq_6, jq_8, jq_12, jq_16, jq_20, jq_21, jq_24, jq_30, jq_32, jq_60, jq_84, jq_1000, jq_2436, jq_20001, e70_51]
    · refine ⟨false, ?_, fun c => (by cases c), fun c => absurd c.1 h0⟩
      rw [e70_2, p5, p0]
      simp (disch := omega) only [jx_bI_s, jx_bL_s, jx_bV_s, eq_self, true_or, or_true, jx_if_t, jx_if_f, jq_b0, jq_b1, jq_bb, jq_b01, jx_if_in, jx_if_lt, jx_if_nlt, jx_if_le, jx_if_nle, jq_eqp, jq_eqn, nI_clamp, nI_add, pk_sub, pk_mul, jn_and, jn_or, jn_xor, jq_andn, jq_shl1, jq_bit, jq_mn, jq_mx, cond_true, cond_false, jq_jt, jq_jf, jq_e1, jq_e2, jq_e3, jq_e4, Bool.not_true, Bool.not_false, jq_0, jq_1, jq_2, jq_3, jq_4, jq_5, jq_6, jq_8, jq_12, jq_16, jq_20, jq_21, jq_24, jq_30, jq_32, jq_60, jq_84, jq_1000, jq_2436, jq_20001, e70_51]
  have loop : ∀ q i, jp_sd N ≤ i + q → i ≤ 256 → 1 ≤ i → (∀ s, 1 ≤ s → s < i → s < jp_sd N → k ≤ jb_cu N (jp_X N s) T) → ∃ B : Bool, F70_2 (DM (d + 1)) (nI T) (nI k) (nI i) h = some ([vi (jn_b B)], h) ∧ (B = true ↔ 2 ≤ jb_p N ∧ ∀ s, 1 ≤ s → s < jp_sd N → k ≤ jb_cu N (jp_X N s) T) := by
    intro q
    induction q with
    | zero => intro i hi h256 h1 hs; exact fin i hi h256 hs
    | succ q ih =>
      intro i hi h256 h1 hs
      by_cases hlt : i < jp_sd N
      · have hX := jp_X_in h1 hlt
        have hl : jp_cu N (jp_X N i) &&& T < 2 ^ 31 := jn_and_lt' hT
        have hcu := jb_cu_le N (jp_X N i) T
        by_cases e : k ≤ jb_cu N (jp_X N i) T
        · obtain ⟨B, b1, b2⟩ := ih (i + 1) (by omega) (by omega) (by omega) (fun s s1 s2 s3 => by
            by_cases e2 : s = i
            · rw [e2]; exact e
            · exact hs s s1 (by omega) s3)
          refine ⟨B, ?_, b2⟩
          rw [e70_2, p5, p6, jp_side_sh hlt hp]
          simp (disch := omega) only [jx_bI_s, jx_bL_s, jx_bV_s, eq_self, true_or, or_true, jx_if_t, jx_if_f, jq_b0, jq_b1, jq_bb, jq_b01, jx_if_in, jx_if_lt, jx_if_nlt, jx_if_le, jx_if_nle, jq_eqp, jq_eqn, nI_clamp, nI_add, pk_sub, pk_mul, jn_and, jn_or, jn_xor, jq_andn, jq_shl1, jq_bit, jq_mn, jq_mx, cond_true, cond_false, jq_jt, jq_jf, jq_e1, jq_e2, jq_e3, jq_e4, Bool.not_true, Bool.not_false, jq_0, jq_1, jq_2, jq_3, jq_4, jq_5, jq_6, jq_8, jq_12, jq_16, jq_20, jq_21, jq_24, jq_30, jq_32, jq_60, jq_84, jq_1000, jq_2436, jq_20001, (pT _ (show jp_X N i < 2 ^ jb_p N by omega)).2, dm_bc, jb_cu_pc hn]
          exact b1
        · refine ⟨false, ?_, fun c => (by cases c), fun c => absurd (c.2 i h1 hlt) e⟩
          rw [e70_2, p5, p6, jp_side_sh hlt hp]
          simp (disch := omega) only [jx_bI_s, jx_bL_s, jx_bV_s, eq_self, true_or, or_true, jx_if_t, jx_if_f, jq_b0, jq_b1, jq_bb, jq_b01, jx_if_in, jx_if_lt, jx_if_nlt, jx_if_le, jx_if_nle, jq_eqp, jq_eqn, nI_clamp, nI_add, pk_sub, pk_mul, jn_and, jn_or, jn_xor, jq_andn, jq_shl1, jq_bit, jq_mn, jq_mx, cond_true, cond_false, jq_jt, jq_jf, jq_e1, jq_e2, jq_e3, jq_e4, Bool.not_true, Bool.not_false, jq_0, jq_1, jq_2, jq_3, jq_4, jq_5, jq_6, jq_8, jq_12, jq_16, jq_20, jq_21, jq_24, jq_30, jq_32, jq_60, jq_84, jq_1000, jq_2436, jq_20001, (pT _ (show jp_X N i < 2 ^ jb_p N by omega)).2, dm_bc, jb_cu_pc hn]
      · exact fin i (by omega) h256 hs
  obtain ⟨B, b1, b2⟩ := loop (jp_sd N) 1 (by omega) (by omega) (by omega) (fun s s1 s2 => by omega)
  refine ⟨B, ?_, b2.trans (and_congr_right (fun h0 => ?_))⟩
  · rw [d70, e70_0]
    exact b1
  · constructor
    · intro c
      rcases jn_mn_at (ok := fun X => decide (1 ≤ X)) (c := fun X => jb_cu N X T) (v := 1000) (2 ^ jb_p N - 1) with e | ⟨X, x1, x2, x3⟩
      · show k ≤ jn_mn _ _ _ _
        omega
      · obtain ⟨s, s1, s2, s3⟩ := jp_side w (X := X) (by simpa using x2) x1
        have := c s s1 s2
        rw [jb_cu_congr s3] at this
        show k ≤ jn_mn _ _ _ _
        omega
    · intro c s s1 s2
      obtain ⟨x1, x2⟩ := jp_X_in s1 s2
      exact Nat.le_trans c (jn_mn_le (ok := fun X => decide (1 ≤ X)) (c := fun X => jb_cu N X T) x2 (by simpa using x1))
end
