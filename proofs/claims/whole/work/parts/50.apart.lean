/-! ===== layer 2: ways apart; forests ===== -/
/-- the posts around X -/
def jp_ar (N : jb_N) (a b X : Nat) : Nat := jn_df (jn_df (jp_nr N (2 ^ a)) (2 ^ b) ||| jp_nr N (X ^^^ 2 ^ a)) X
def jp_ok (N : jb_N) (a b X : Nat) : Bool := (X.testBit a && !X.testBit b) && !(jp_ar N a b X).testBit b
def jb_dir (N : jb_N) (a b r : Nat) : Bool := (decide (jb_f N r = a) && decide (jb_s N r = b)) || (!jb_t N && (decide (jb_f N r = b) && decide (jb_s N r = a)))
theorem jn_and2 {X a : Nat} : (X &&& 2 ^ a = 0) ↔ X.testBit a = false := by
  constructor
  · intro h
    have := Nat.testBit_and X (2 ^ a) a
    rw [h, Nat.zero_testBit, jn_2k] at this
    simpa using this.symm
  · intro h
    apply Nat.eq_of_testBit_eq
    intro i
    rw [Nat.testBit_and, Nat.zero_testBit, jn_2k]
    by_cases e : a = i
    · subst e
      rw [h]; rfl
    · simp [e]
section
variable {d : Nat} {h : jx_H} {N : jb_N}
theorem jp_ar_lt {a b X : Nat} : jp_ar N a b X < 2 ^ jb_p N := jn_df_lt (jn_or_lt (jn_df_lt (jp_nr_lt N _)) (jp_nr_lt N _))
theorem dm_apartX (w : jb_wf N) (P : jp_P h N) {a b : Nat} (ha : a < jb_p N) (hb : b < jb_p N) : DM (d + 2) 49 [vr 14 0, vi (nI a), vi (nI b)] h = some ([vi (nI (jn_mn (jp_ok N a b) (fun X => jn_pc (jp_ar N a b X)) (jb_p N) (2 ^ jb_p N - 1) + jn_pc (jp_bt N (2 ^ a) (2 ^ b))))], h) := by
  have P0 := P
  obtain ⟨⟨p0, p1, p2, p3, p4, p5, p6⟩, pT⟩ := P
  have hn := w.2.1
  have hp := w.1
  have h8 := jn_pow8 hp
  have h20 := jn_pow20 hn
  have h4 := jn_2lt ha
  have h5 := Nat.two_pow_pos a
  have h6 := jn_2lt hb
  have ok0 : jp_ok N a b 0 = false := by
    unfold jp_ok
    rw [Nat.zero_testBit]
    rfl
  rw [d49, e49_0, show (1 : Int32) = nI 1 from rfl, jq_shl1 (by omega), e49_4, show (1 : Int32) = nI 1 from rfl, jq_shl1 (by omega), e49_9, p0]
  have e1 : jn_mn (jp_ok N a b) (fun X => jn_pc (jp_ar N a b X)) (jb_p N) 1 = jb_p N := jn_mn_f ok0
  refine Eq.trans (?_ : _ = F49_18 (DM (d + 1)) (nI (2 ^ a)) (nI (2 ^ b)) (nI (jn_mn (jp_ok N a b) (fun X => jn_pc (jp_ar N a b X)) (jb_p N) 1)) (nI 1) h) ?_
  · rw [e1]
    rfl
  refine (jn_loop (fun i => F49_18 (DM (d + 1)) (nI (2 ^ a)) (nI (2 ^ b)) (nI (jn_mn (jp_ok N a b) (fun X => jn_pc (jp_ar N a b X)) (jb_p N) i)) (nI i) h) (show 1 ≤ 2 ^ jb_p N - 1 by omega) (fun i hi1 hi => ?_)).trans ?_
  · show F49_18 _ _ _ _ _ _ = F49_18 _ _ _ _ _ _
    have hm := jn_mn_le0 (ok := jp_ok N a b) (c := fun X => jn_pc (jp_ar N a b X)) (v := jb_p N) i
    rw [e49_18, p3]
    have hal : i &&& 2 ^ a < 2 ^ jb_p N := jn_and_lt (by omega)
    have hbl : i &&& 2 ^ b < 2 ^ jb_p N := jn_and_lt (by omega)
    cases ka : i.testBit a
    · rw [jn_mn_f (by unfold jp_ok; rw [ka]; rfl)]
      have := jn_and2.2 ka
      simp (disch := omega) only [jx_bI_s, jx_bL_s, jx_bV_s, eq_self, true_or, or_true, jx_if_t, jx_if_f, jq_b0, jq_b1, jq_bb, jq_b01, jx_if_in, jx_if_lt, jx_if_nlt, jx_if_le, jx_if_nle, jq_eqp, jq_eqn, nI_clamp, nI_add, pk_sub, pk_mul, jn_and, jn_or, jn_xor, jq_andn, jq_shl1, jq_bit, jq_mn, jq_mx, cond_true, cond_false, jq_jt, jq_jf, jq_e1, jq_e2, jq_e3, jq_e4, Bool.not_true, Bool.not_false, jq_0, jq_1, jq_2, jq_3, jq_4, jq_5, jq_6, jq_8, jq_12, jq_16, jq_20, jq_21, jq_24, jq_30, jq_32, jq_60, jq_84, jq_1000, jq_2436, jq_20001, this, e49_93]
    · have na : i &&& 2 ^ a ≠ 0 := fun e => by rw [jn_and2.1 e] at ka; cases ka
      cases kb : i.testBit b
      · have nb := jn_and2.2 kb
        have hx : i ^^^ 2 ^ a < 2 ^ jb_p N := jn_xor_lt (by omega) h4
        have s1 := (pT (2 ^ a) h4).1.2.2
        have s2 := (pT (i ^^^ 2 ^ a) hx).1.2.2
        have hal := jp_ar_lt (N := N) (a := a) (b := b) (X := i)
        have har : jn_df (jn_df (jp_nr N (2 ^ a)) (2 ^ b) ||| jp_nr N (i ^^^ 2 ^ a)) i = jp_ar N a b i := rfl
        have hbl2 : jp_ar N a b i &&& 2 ^ b < 2 ^ jb_p N := jn_and_lt hal
        have hpc := jn_pc_le (jp_ar N a b i)
        cases kr : (jp_ar N a b i).testBit b
        · have nr := jn_and2.2 kr
          rw [jn_mn_t (n := i) (by unfold jp_ok; rw [ka, kb, kr]; rfl)]
          simp (disch := omega) only [jx_bI_s, jx_bL_s, jx_bV_s, eq_self, true_or, or_true, jx_if_t, jx_if_f, jq_b0, jq_b1, jq_bb, jq_b01, jx_if_in, jx_if_lt, jx_if_nlt, jx_if_le, jx_if_nle, jq_eqp, jq_eqn, nI_clamp, nI_add, pk_sub, pk_mul, jn_and, jn_or, jn_xor, jq_andn, jq_shl1, jq_bit, jq_mn, jq_mx, cond_true, cond_false, jq_jt, jq_jf, jq_e1, jq_e2, jq_e3, jq_e4, Bool.not_true, Bool.not_false, jq_0, jq_1, jq_2, jq_3, jq_4, jq_5, jq_6, jq_8, jq_12, jq_16, jq_20, jq_21, jq_24, jq_30, jq_32, jq_60, jq_84, jq_1000, jq_2436, jq_20001, nb, s1, s2, har, e49_73, nr, dm_bc, e49_93]
        · have nr : jp_ar N a b i &&& 2 ^ b ≠ 0 := fun e => by rw [jn_and2.1 e] at kr; cases kr
          rw [jn_mn_f (by unfold jp_ok; rw [kr]; simp)]
          simp (disch := omega) only [jx_bI_s, jx_bL_s, jx_bV_s, eq_self, true_or, or_true, jx_if_t, jx_if_f, jq_b0, jq_b1, jq_bb, jq_b01, jx_if_in, jx_if_lt, jx_if_nlt, jx_if_le, jx_if_nle, jq_eqp, jq_eqn, nI_clamp, nI_add, pk_sub, pk_mul, jn_and, jn_or, jn_xor, jq_andn, jq_shl1, jq_bit, jq_mn, jq_mx, cond_true, cond_false, jq_jt, jq_jf, jq_e1, jq_e2, jq_e3, jq_e4, Bool.not_true, Bool.not_false, jq_0, jq_1, jq_2, jq_3, jq_4, jq_5, jq_6, jq_8, jq_12, jq_16, jq_20, jq_21, jq_24, jq_30, jq_32, jq_60, jq_84, jq_1000, jq_2436, jq_20001, nb, s1, s2, har, e49_73, e49_93]
      · have nb : i &&& 2 ^ b ≠ 0 := fun e => by rw [jn_and2.1 e] at kb; cases kb
        rw [jn_mn_f (by unfold jp_ok; rw [kb]; simp)]
        simp (disch := omega) only [jx_bI_s, jx_bL_s, jx_bV_s, eq_self, true_or, or_true, jx_if_t, jx_if_f, jq_b0, jq_b1, jq_bb, jq_b01, jx_if_in, jx_if_lt, jx_if_nlt, jx_if_le, jx_if_nle, jq_eqp, jq_eqn, nI_clamp, nI_add, pk_sub, pk_mul, jn_and, jn_or, jn_xor, jq_andn, jq_shl1, jq_bit, jq_mn, jq_mx, cond_true, cond_false, jq_jt, jq_jf, jq_e1, jq_e2, jq_e3, jq_e4, Bool.not_true, Bool.not_false, jq_0, jq_1, jq_2, jq_3, jq_4, jq_5, jq_6, jq_8, jq_12, jq_16, jq_20, jq_21, jq_24, jq_30, jq_32, jq_60, jq_84, jq_1000, jq_2436, jq_20001, e49_93]
  · show F49_18 _ _ _ _ _ _ = _
    have hm := jn_mn_le0 (ok := jp_ok N a b) (c := fun X => jn_pc (jp_ar N a b X)) (v := jb_p N) (2 ^ jb_p N - 1)
    have hbt := jp_bt_lt N (2 ^ a) (2 ^ b)
    rw [e49_18, p3]
    simp (disch := omega) only [jx_bI_s, jx_bL_s, jx_bV_s, eq_self, true_or, or_true, jx_if_t, jx_if_f, jq_b0, jq_b1, jq_bb, jq_b01, jx_if_in, jx_if_lt, jx_if_nlt, jx_if_le, jx_if_nle, jq_eqp, jq_eqn, nI_clamp, nI_add, pk_sub, pk_mul, jn_and, jn_or, jn_xor, jq_andn, jq_shl1, jq_bit, jq_mn, jq_mx, cond_true, cond_false, jq_jt, jq_jf, jq_e1, jq_e2, jq_e3, jq_e4, Bool.not_true, Bool.not_false, jq_0, jq_1, jq_2, jq_3, jq_4, jq_5, jq_6, jq_8, jq_12, jq_16, jq_20, jq_21, jq_24, jq_30, jq_32, jq_60, jq_84, jq_1000, jq_2436, jq_20001, dm_bt w P0 h4 h6, dm_bc]
theorem jb_dir_t {a b r : Nat} : jb_dir N a b r = true ↔ (jb_f N r = a ∧ jb_s N r = b) ∨ (jb_t N = false ∧ jb_f N r = b ∧ jb_s N r = a) := by
  unfold jb_dir
  simp only [Bool.or_eq_true, Bool.and_eq_true, decide_eq_true_eq, Bool.not_eq_true']
def jb_oth (N : jb_N) (a b : Nat) : Nat := jn_mk (fun r => !jb_dir N a b r) (jb_n N)
noncomputable def jb_aok (N : jb_N) (a b S : Nat) : Bool := (!S.testBit a && !S.testBit b) && @decide (¬ jb_rc N S (jb_oth N a b) a b) (Classical.propDecidable _)
theorem dm_apartM (w : jb_wf N) (m : jb_M h N) {a b : Nat} (ha : a < jb_p N) (hb : b < jb_p N) : F144_42 (DM (d + 2)) (nI a) (nI b) (nI 0) (nI 0) (nI 0) h = some ([vi (nI (jn_ct (jb_dir N a b) (jb_n N) + jn_mn (jb_aok N a b) jn_pc 8 (2 ^ jb_p N)))], h) := by
  have hn := w.2.1
  have hp := w.1
  have h8 := jn_pow8 hp
  have h20 := jn_pow20 hn
  have i8 := Nat.two_pow_pos (jb_p N)
  have hO : jb_oth N a b < 2 ^ jb_n N := jn_mk_lt _ _
  refine (jn_loop (fun i => F144_42 (DM (d + 2)) (nI a) (nI b) (nI (jn_ct (jb_dir N a b) i)) (nI (jn_mk (fun r => !jb_dir N a b r) i)) (nI i) h) (Nat.zero_le (jb_n N)) (fun i _ hi => ?_)).trans ?_
  · show F144_42 _ _ _ _ _ _ _ = F144_42 _ _ _ _ _ _ _
    obtain ⟨w1, w2, w3, _⟩ := w.2.2 i hi
    obtain ⟨m1, m2, _⟩ := m.2.2.2 i hi
    have hmk := jn_mk_lt (fun r => !jb_dir N a b r) i
    have key : F144_42 (DM (d + 2)) (nI a) (nI b) (nI (jn_ct (jb_dir N a b) i)) (nI (jn_mk (fun r => !jb_dir N a b r) i)) (nI i) h = F144_107 (DM (d + 2)) (nI a) (nI b) (nI (jn_ct (jb_dir N a b) i)) (nI (jn_mk (fun r => !jb_dir N a b r) i)) (nI i) (jn_b (jb_dir N a b i)) h := by
      have hdt : (jb_f N i = a ∧ jb_s N i = b) ∨ (jb_t N = false ∧ jb_f N i = b ∧ jb_s N i = a) → jb_dir N a b i = true := jb_dir_t.2
      have hdf : ¬ ((jb_f N i = a ∧ jb_s N i = b) ∨ (jb_t N = false ∧ jb_f N i = b ∧ jb_s N i = a)) → jb_dir N a b i = false := fun k => by
        cases hd : jb_dir N a b i with
        | false => rfl
        | true => exact absurd (jb_dir_t.1 hd) k
      rw [e144_42, m.2.1]
      by_cases c1 : jb_f N i = a ∧ jb_s N i = b
      · rw [hdt (Or.inl c1)]
        simp (disch := omega) only [jx_bI_s, jx_bL_s, jx_bV_s, eq_self, true_or, or_true, jx_if_t, jx_if_f, jq_b0, jq_b1, jq_bb, jq_b01, jx_if_in, jx_if_lt, jx_if_nlt, jx_if_le, jx_if_nle, jq_eqp, jq_eqn, nI_clamp, nI_add, pk_sub, pk_mul, jn_and, jn_or, jn_xor, jq_andn, jq_shl1, jq_bit, jq_mn, jq_mx, cond_true, cond_false, jq_jt, jq_jf, jq_e1, jq_e2, jq_e3, jq_e4, Bool.not_true, Bool.not_false, jq_0, jq_1, jq_2, jq_3, jq_4, jq_5, jq_6, jq_8, jq_12, jq_16, jq_20, jq_21, jq_24, jq_30, jq_32, jq_60, jq_84, jq_1000, jq_2436, jq_20001, m1, m2, e144_102]
      · have c73 : F144_42 (DM (d + 2)) (nI a) (nI b) (nI (jn_ct (jb_dir N a b) i)) (nI (jn_mk (fun r => !jb_dir N a b r) i)) (nI i) h = F144_73 (DM (d + 2)) (nI a) (nI b) (nI (jn_ct (jb_dir N a b) i)) (nI (jn_mk (fun r => !jb_dir N a b r) i)) (nI i) h := by
          rw [e144_42, m.2.1]
          by_cases c2 : jb_f N i = a
          · have c3 : jb_s N i ≠ b := fun k => c1 ⟨c2, k⟩
            simp (disch := omega) only [jx_bI_s, jx_bL_s, jx_bV_s, eq_self, true_or, or_true, jx_if_t, jx_if_f, jq_b0, jq_b1, jq_bb, jq_b01, jx_if_in, jx_if_lt, jx_if_nlt, jx_if_le, jx_if_nle, jq_eqp, jq_eqn, nI_clamp, nI_add, pk_sub, pk_mul, jn_and, jn_or, jn_xor, jq_andn, jq_shl1, jq_bit, jq_mn, jq_mx, cond_true, cond_false, jq_jt, jq_jf, jq_e1, jq_e2, jq_e3, jq_e4, Bool.not_true, Bool.not_false, jq_0, jq_1, jq_2, jq_3, jq_4, jq_5, jq_6, jq_8, jq_12, jq_16, jq_20, jq_21, jq_24, jq_30, jq_32, jq_60, jq_84, jq_1000, jq_2436, jq_20001, m1, m2]
          · simp (disch := omega) only [jx_bI_s, jx_bL_s, jx_bV_s, eq_self, true_or, or_true, jx_if_t, jx_if_f, jq_b0, jq_b1, jq_bb, jq_b01, jx_if_in, jx_if_lt, jx_if_nlt, jx_if_le, jx_if_nle, jq_eqp, jq_eqn, nI_clamp, nI_add, pk_sub, pk_mul, jn_and, jn_or, jn_xor, jq_andn, jq_shl1, jq_bit, jq_mn, jq_mx, cond_true, cond_false, jq_jt, jq_jf, jq_e1, jq_e2, jq_e3, jq_e4, Bool.not_true, Bool.not_false, jq_0, jq_1, jq_2, jq_3, jq_4, jq_5, jq_6, jq_8, jq_12, jq_16, jq_20, jq_21, jq_24, jq_30, jq_32, jq_60, jq_84, jq_1000, jq_2436, jq_20001, m1, m2]
        rw [← m.2.1, ← e144_42, c73, e144_73]
        cases ht : jb_t N
        · by_cases c3 : jb_f N i = b ∧ jb_s N i = a
          · rw [hdt (Or.inr ⟨ht, c3⟩)]
            simp (disch := omega) only [jx_bI_s, jx_bL_s, jx_bV_s, eq_self, true_or, or_true, jx_if_t, jx_if_f, jq_b0, jq_b1, jq_bb, jq_b01, jx_if_in, jx_if_lt, jx_if_nlt, jx_if_le, jx_if_nle, jq_eqp, jq_eqn, nI_clamp, nI_add, pk_sub, pk_mul, jn_and, jn_or, jn_xor, jq_andn, jq_shl1, jq_bit, jq_mn, jq_mx, cond_true, cond_false, jq_jt, jq_jf, jq_e1, jq_e2, jq_e3, jq_e4, Bool.not_true, Bool.not_false, jq_0, jq_1, jq_2, jq_3, jq_4, jq_5, jq_6, jq_8, jq_12, jq_16, jq_20, jq_21, jq_24, jq_30, jq_32, jq_60, jq_84, jq_1000, jq_2436, jq_20001, m1, m2, m.2.2.1, ht, e144_102]
          · rw [hdf (fun k => k.elim c1 (fun k => c3 k.2))]
            by_cases c4 : jb_f N i = b
            · have c5 : jb_s N i ≠ a := fun k => c3 ⟨c4, k⟩
              simp (disch := omega) only [jx_bI_s, jx_bL_s, jx_bV_s, eq_self, true_or, or_true, jx_if_t, jx_if_f, jq_b0, jq_b1, jq_bb, jq_b01, jx_if_in, jx_if_lt, jx_if_nlt, jx_if_le, jx_if_nle, jq_eqp, jq_eqn, nI_clamp, nI_add, pk_sub, pk_mul, jn_and, jn_or, jn_xor, jq_andn, jq_shl1, jq_bit, jq_mn, jq_mx, cond_true, cond_false, jq_jt, jq_jf, jq_e1, jq_e2, jq_e3, jq_e4, Bool.not_true, Bool.not_false, jq_0, jq_1, jq_2, jq_3, jq_4, jq_5, jq_6, jq_8, jq_12, jq_16, jq_20, jq_21, jq_24, jq_30, jq_32, jq_60, jq_84, jq_1000, jq_2436, jq_20001, m1, m2, m.2.2.1, ht, e144_106]
            · simp (disch := omega) only [jx_bI_s, jx_bL_s, jx_bV_s, eq_self, true_or, or_true, jx_if_t, jx_if_f, jq_b0, jq_b1, jq_bb, jq_b01, jx_if_in, jx_if_lt, jx_if_nlt, jx_if_le, jx_if_nle, jq_eqp, jq_eqn, nI_clamp, nI_add, pk_sub, pk_mul, jn_and, jn_or, jn_xor, jq_andn, jq_shl1, jq_bit, jq_mn, jq_mx, cond_true, cond_false, jq_jt, jq_jf, jq_e1, jq_e2, jq_e3, jq_e4, Bool.not_true, Bool.not_false, jq_0, jq_1, jq_2, jq_3, jq_4, jq_5, jq_6, jq_8, jq_12, jq_16, jq_20, jq_21, jq_24, jq_30, jq_32, jq_60, jq_84, jq_1000, jq_2436, jq_20001, m1, m2, m.2.2.1, ht, e144_106]
        · rw [hdf (fun k => k.elim c1 (fun k => by rw [ht] at k; cases k.1))]
          simp (disch := omega) only [jx_bI_s, jx_bL_s, jx_bV_s, eq_self, true_or, or_true, jx_if_t, jx_if_f, jq_b0, jq_b1, jq_bb, jq_b01, jx_if_in, jx_if_lt, jx_if_nlt, jx_if_le, jx_if_nle, jq_eqp, jq_eqn, nI_clamp, nI_add, pk_sub, pk_mul, jn_and, jn_or, jn_xor, jq_andn, jq_shl1, jq_bit, jq_mn, jq_mx, cond_true, cond_false, jq_jt, jq_jf, jq_e1, jq_e2, jq_e3, jq_e4, Bool.not_true, Bool.not_false, jq_0, jq_1, jq_2, jq_3, jq_4, jq_5, jq_6, jq_8, jq_12, jq_16, jq_20, jq_21, jq_24, jq_30, jq_32, jq_60, jq_84, jq_1000, jq_2436, jq_20001, m1, m2, m.2.2.1, ht, e144_106]
    rw [key]
    cases hd : jb_dir N a b i
    · rw [← jn_mk_or (f := fun r => !jb_dir N a b r) (by simp [hd]), ← jn_ct_z hd]
      simp (disch := omega) only [jx_bI_s, jx_bL_s, jx_bV_s, eq_self, true_or, or_true, jx_if_t, jx_if_f, jq_b0, jq_b1, jq_bb, jq_b01, jx_if_in, jx_if_lt, jx_if_nlt, jx_if_le, jx_if_nle, jq_eqp, jq_eqn, nI_clamp, nI_add, pk_sub, pk_mul, jn_and, jn_or, jn_xor, jq_andn, jq_shl1, jq_bit, jq_mn, jq_mx, cond_true, cond_false, jq_jt, jq_jf, jq_e1, jq_e2, jq_e3, jq_e4, Bool.not_true, Bool.not_false, jq_0, jq_1, jq_2, jq_3, jq_4, jq_5, jq_6, jq_8, jq_12, jq_16, jq_20, jq_21, jq_24, jq_30, jq_32, jq_60, jq_84, jq_1000, jq_2436, jq_20001, e144_107, e144_120, e144_122, e144_137, e144_140]
    · rw [jn_mk_no (f := fun r => !jb_dir N a b r) (by simp [hd]), ← jn_ct_p hd]
      simp (disch := omega) only [jx_bI_s, jx_bL_s, jx_bV_s, eq_self, true_or, or_true, jx_if_t, jx_if_f, jq_b0, jq_b1, jq_bb, jq_b01, jx_if_in, jx_if_lt, jx_if_nlt, jx_if_le, jx_if_nle, jq_eqp, jq_eqn, nI_clamp, nI_add, pk_sub, pk_mul, jn_and, jn_or, jn_xor, jq_andn, jq_shl1, jq_bit, jq_mn, jq_mx, cond_true, cond_false, jq_jt, jq_jf, jq_e1, jq_e2, jq_e3, jq_e4, Bool.not_true, Bool.not_false, jq_0, jq_1, jq_2, jq_3, jq_4, jq_5, jq_6, jq_8, jq_12, jq_16, jq_20, jq_21, jq_24, jq_30, jq_32, jq_60, jq_84, jq_1000, jq_2436, jq_20001, e144_107, e144_120, e144_122, e144_137, e144_140, Nat.or_zero]
  · show F144_42 _ _ _ _ _ _ _ = _
    have hct := jn_ct_le (jb_dir N a b) (jb_n N)
    rw [e144_42, m.2.1, jx_if_nlt (Nat.le_refl _) (by omega)]
    refine (jn_loop (fun i => F144_153 (DM (d + 2)) (nI a) (nI b) (nI (jn_ct (jb_dir N a b) (jb_n N))) (nI (jb_oth N a b)) (nI (jn_mn (jb_aok N a b) jn_pc 8 i)) (nI i) h) (Nat.zero_le (2 ^ jb_p N)) (fun i _ hi => ?_)).trans ?_
    · show F144_153 _ _ _ _ _ _ _ _ = F144_153 _ _ _ _ _ _ _ _
      have hm := jn_mn_le0 (ok := jb_aok N a b) (c := jn_pc) (v := 8) i
      have hpc := jn_pc_le i
      have no : jb_aok N a b i = false → F144_200 (DM (d + 2)) (nI a) (nI b) (nI (jn_ct (jb_dir N a b) (jb_n N))) (nI (jb_oth N a b)) (nI (jn_mn (jb_aok N a b) jn_pc 8 i)) (nI i) h = F144_153 (DM (d + 2)) (nI a) (nI b) (nI (jn_ct (jb_dir N a b) (jb_n N))) (nI (jb_oth N a b)) (nI (jn_mn (jb_aok N a b) jn_pc 8 (i + 1))) (nI (i + 1)) h := by
        intro hno
        rw [jn_mn_f hno, e144_200, e144_201]
        simp (disch := omega) only [jx_bI_s, jx_bL_s, jx_bV_s, eq_self, true_or, or_true, jx_if_t, jx_if_f, jq_b0, jq_b1, jq_bb, jq_b01, jx_if_in, jx_if_lt, jx_if_nlt, jx_if_le, jx_if_nle, jq_eqp, jq_eqn, nI_clamp, nI_add, pk_sub, pk_mul, jn_and, jn_or, jn_xor, jq_andn, jq_shl1, jq_bit, jq_mn, jq_mx, cond_true, cond_false, jq_jt, jq_jf, jq_e1, jq_e2, jq_e3, jq_e4, Bool.not_true, Bool.not_false, jq_0, jq_1, jq_2, jq_3, jq_4, jq_5, jq_6, jq_8, jq_12, jq_16, jq_20, jq_21, jq_24, jq_30, jq_32, jq_60, jq_84, jq_1000, jq_2436, jq_20001, e144_226, e144_228]
      rw [e144_153]
      cases k1 : i.testBit a
      · cases k2 : i.testBit b
        · obtain ⟨R, r1, r2, r3⟩ := dm_reachM (d := d) (W := i) (T := jb_oth N a b) w m (by omega) (by omega) ha k1
          cases hR : R.testBit b
          · have hok : jb_aok N a b i = true := by
              unfold jb_aok
              rw [k1, k2, @decide_eq_true _ (Classical.propDecidable _)]
              · rfl
              · intro c
                rw [(r3 b).2 c] at hR
                cases hR
            rw [jn_mn_t hok]
            by_cases hl : jn_pc i < jn_mn (jb_aok N a b) jn_pc 8 i
            · rw [Nat.min_eq_right (by omega)]
              simp (disch := omega) only [jx_bI_s, jx_bL_s, jx_bV_s, eq_self, true_or, or_true, jx_if_t, jx_if_f, jq_b0, jq_b1, jq_bb, jq_b01, jx_if_in, jx_if_lt, jx_if_nlt, jx_if_le, jx_if_nle, jq_eqp, jq_eqn, nI_clamp, nI_add, pk_sub, pk_mul, jn_and, jn_or, jn_xor, jq_andn, jq_shl1, jq_bit, jq_mn, jq_mx, cond_true, cond_false, jq_jt, jq_jf, jq_e1, jq_e2, jq_e3, jq_e4, Bool.not_true, Bool.not_false, jq_0, jq_1, jq_2, jq_3, jq_4, jq_5, jq_6, jq_8, jq_12, jq_16, jq_20, jq_21, jq_24, jq_30, jq_32, jq_60, jq_84, jq_1000, jq_2436, jq_20001, dm_all (n := jb_p N) (by omega) m.1, dm_inN, k1, k2, r2, hR, e144_201, dm_countOf, e144_228]
            · rw [Nat.min_eq_left (by omega)]
              simp (disch := omega) only [jx_bI_s, jx_bL_s, jx_bV_s, eq_self, true_or, or_true, jx_if_t, jx_if_f, jq_b0, jq_b1, jq_bb, jq_b01, jx_if_in, jx_if_lt, jx_if_nlt, jx_if_le, jx_if_nle, jq_eqp, jq_eqn, nI_clamp, nI_add, pk_sub, pk_mul, jn_and, jn_or, jn_xor, jq_andn, jq_shl1, jq_bit, jq_mn, jq_mx, cond_true, cond_false, jq_jt, jq_jf, jq_e1, jq_e2, jq_e3, jq_e4, Bool.not_true, Bool.not_false, jq_0, jq_1, jq_2, jq_3, jq_4, jq_5, jq_6, jq_8, jq_12, jq_16, jq_20, jq_21, jq_24, jq_30, jq_32, jq_60, jq_84, jq_1000, jq_2436, jq_20001, dm_all (n := jb_p N) (by omega) m.1, dm_inN, k1, k2, r2, hR, e144_201, dm_countOf, e144_226, e144_228]
          · have hno : jb_aok N a b i = false := by
              unfold jb_aok
              rw [@decide_eq_false _ (Classical.propDecidable _)]
              · simp
              · exact fun c => c ((r3 b).1 hR)
            simp (disch := omega) only [jx_bI_s, jx_bL_s, jx_bV_s, eq_self, true_or, or_true, jx_if_t, jx_if_f, jq_b0, jq_b1, jq_bb, jq_b01, jx_if_in, jx_if_lt, jx_if_nlt, jx_if_le, jx_if_nle, jq_eqp, jq_eqn, nI_clamp, nI_add, pk_sub, pk_mul, jn_and, jn_or, jn_xor, jq_andn, jq_shl1, jq_bit, jq_mn, jq_mx, cond_true, cond_false, jq_jt, jq_jf, jq_e1, jq_e2, jq_e3, jq_e4, Bool.not_true, Bool.not_false, jq_0, jq_1, jq_2, jq_3, jq_4, jq_5, jq_6, jq_8, jq_12, jq_16, jq_20, jq_21, jq_24, jq_30, jq_32, jq_60, jq_84, jq_1000, jq_2436, jq_20001, dm_all (n := jb_p N) (by omega) m.1, dm_inN, k1, k2, r2, hR]
            exact no hno
        · have hno : jb_aok N a b i = false := by
            unfold jb_aok
            rw [k2]
            simp
          simp (disch := omega) only [jx_bI_s, jx_bL_s, jx_bV_s, eq_self, true_or, or_true, jx_if_t, jx_if_f, jq_b0, jq_b1, jq_bb, jq_b01, jx_if_in, jx_if_lt, jx_if_nlt, jx_if_le, jx_if_nle, jq_eqp, jq_eqn, nI_clamp, nI_add, pk_sub, pk_mul, jn_and, jn_or, jn_xor, jq_andn, jq_shl1, jq_bit, jq_mn, jq_mx, cond_true, cond_false, jq_jt, jq_jf, jq_e1, jq_e2, jq_e3, jq_e4, Bool.not_true, Bool.not_false, jq_0, jq_1, jq_2, jq_3, jq_4, jq_5, jq_6, jq_8, jq_12, jq_16, jq_20, jq_21, jq_24, jq_30, jq_32, jq_60, jq_84, jq_1000, jq_2436, jq_20001, dm_all (n := jb_p N) (by omega) m.1, dm_inN, k1, k2]
          exact no hno
      · have hno : jb_aok N a b i = false := by
          unfold jb_aok
          rw [k1]
          simp
        simp (disch := omega) only [jx_bI_s, jx_bL_s, jx_bV_s, eq_self, true_or, or_true, jx_if_t, jx_if_f, jq_b0, jq_b1, jq_bb, jq_b01, jx_if_in, jx_if_lt, jx_if_nlt, jx_if_le, jx_if_nle, jq_eqp, jq_eqn, nI_clamp, nI_add, pk_sub, pk_mul, jn_and, jn_or, jn_xor, jq_andn, jq_shl1, jq_bit, jq_mn, jq_mx, cond_true, cond_false, jq_jt, jq_jf, jq_e1, jq_e2, jq_e3, jq_e4, Bool.not_true, Bool.not_false, jq_0, jq_1, jq_2, jq_3, jq_4, jq_5, jq_6, jq_8, jq_12, jq_16, jq_20, jq_21, jq_24, jq_30, jq_32, jq_60, jq_84, jq_1000, jq_2436, jq_20001, dm_all (n := jb_p N) (by omega) m.1, dm_inN, k1]
        exact no hno
    · show F144_153 _ _ _ _ _ _ _ _ = _
      have hm := jn_mn_le0 (ok := jb_aok N a b) (c := jn_pc) (v := 8) (2 ^ jb_p N)
      rw [e144_153]
      simp (disch := omega) only [jx_bI_s, jx_bL_s, jx_bV_s, eq_self, true_or, or_true, jx_if_t, jx_if_f, jq_b0, jq_b1, jq_bb, jq_b01, jx_if_in, jx_if_lt, jx_if_nlt, jx_if_le, jx_if_nle, jq_eqp, jq_eqn, nI_clamp, nI_add, pk_sub, pk_mul, jn_and, jn_or, jn_xor, jq_andn, jq_shl1, jq_bit, jq_mn, jq_mx, cond_true, cond_false, jq_jt, jq_jf, jq_e1, jq_e2, jq_e3, jq_e4, Bool.not_true, Bool.not_false, jq_0, jq_1, jq_2, jq_3, jq_4, jq_5, jq_6, jq_8, jq_12, jq_16, jq_20, jq_21, jq_24, jq_30, jq_32, jq_60, jq_84, jq_1000, jq_2436, jq_20001, dm_all (n := jb_p N) (by omega) m.1]
theorem jp_ar_t {a b X y : Nat} : (jp_ar N a b X).testBit y = true ↔ (((jp_nr N (2 ^ a)).testBit y = true ∧ y ≠ b) ∨ (jp_nr N (X ^^^ 2 ^ a)).testBit y = true) ∧ X.testBit y = false := by
  unfold jp_ar
  rw [jn_df_t, Bool.and_eq_true, Nat.testBit_or, Bool.or_eq_true, jn_df_t, Bool.and_eq_true, Bool.not_eq_true', Bool.not_eq_true', jn_2f]
theorem jb_oth_t {a b r : Nat} (hr : r < jb_n N) : (jb_oth N a b).testBit r = true ↔ ¬ ((jb_f N r = a ∧ jb_s N r = b) ∨ (jb_t N = false ∧ jb_f N r = b ∧ jb_s N r = a)) := by
  unfold jb_oth
  rw [jn_mk_t, decide_eq_true hr, Bool.true_and]
  rw [Bool.not_eq_true', ← Bool.not_eq_true, jb_dir_t]
theorem jb_apart_eq (w : jb_wf N) {a b : Nat} (ha : a < jb_p N) (hb : b < jb_p N) (ne : a ≠ b) : jn_mn (jp_ok N a b) (fun X => jn_pc (jp_ar N a b X)) (jb_p N) (2 ^ jb_p N - 1) = jn_mn (jb_aok N a b) jn_pc 8 (2 ^ jb_p N) := by
  have hp := w.1
  have okt : ∀ X, jp_ok N a b X = true ↔ X.testBit a = true ∧ X.testBit b = false ∧ (jp_ar N a b X).testBit b = false := fun X => by
    unfold jp_ok
    simp only [Bool.and_eq_true, Bool.not_eq_true']
    exact ⟨fun k => ⟨k.1.1, k.1.2, k.2⟩, fun k => ⟨⟨k.1, k.2.1⟩, k.2.2⟩⟩
  have aokt : ∀ S, jb_aok N a b S = true ↔ S.testBit a = false ∧ S.testBit b = false ∧ ¬ jb_rc N S (jb_oth N a b) a b := fun S => by
    unfold jb_aok
    rw [Bool.and_eq_true, Bool.and_eq_true, Bool.not_eq_true', Bool.not_eq_true', @decide_eq_true_eq _ (Classical.propDecidable _)]
    exact ⟨fun k => ⟨k.1.1, k.1.2, k.2⟩, fun k => ⟨⟨k.1, k.2.1⟩, k.2.2⟩⟩
  have hxor : ∀ X u, X.testBit a = true → ((X ^^^ 2 ^ a).testBit u = true ↔ X.testBit u = true ∧ u ≠ a) := fun X u hX => by
    rw [Nat.testBit_xor, jn_2k]
    by_cases e : a = u
    · subst e
      simp [hX]
    · have e' : u ≠ a := fun k => e k.symm
      simp [e, e']
  have c1 : ∀ X, X < 2 ^ jb_p N - 1 → jp_ok N a b X = true → jb_aok N a b (jp_ar N a b X) = true := by
    intro X hX hok
    obtain ⟨o1, o2, o3⟩ := (okt X).1 hok
    refine (aokt _).2 ⟨?_, o3, fun hrc => ?_⟩
    · cases hb : (jp_ar N a b X).testBit a with
      | false => rfl
      | true =>
        have := (jp_ar_t.1 hb).2
        rw [o1] at this
        cases this
    · have cl : jb_cl N (jp_ar N a b X) (jb_oth N a b) (fun y => X.testBit y = true) := by
        intro r hr hT hf hs
        have hT := (jb_oth_t hr).1 hT
        obtain ⟨w1, w2, w3, _⟩ := w.2.2 r hr
        refine ⟨fun k => ?_, fun ht k => ?_⟩
        · show X.testBit (jb_s N r) = true
          cases hb2 : X.testBit (jb_s N r) with
          | true => rfl
          | false =>
            exfalso
            have : (jp_ar N a b X).testBit (jb_s N r) = true := by
              refine jp_ar_t.2 ⟨?_, hb2⟩
              by_cases e : jb_f N r = a
              · exact Or.inl ⟨jp_nr_t.2 ⟨w2, r, hr, Or.inl ⟨by rw [e, jn_2k]; simp, rfl⟩⟩, fun e2 => hT (Or.inl ⟨e, e2⟩)⟩
              · exact Or.inr (jp_nr_t.2 ⟨w2, r, hr, Or.inl ⟨(hxor X _ o1).2 ⟨k, e⟩, rfl⟩⟩)
            rw [this] at hs
            cases hs
        · show X.testBit (jb_f N r) = true
          cases hb2 : X.testBit (jb_f N r) with
          | true => rfl
          | false =>
            exfalso
            have : (jp_ar N a b X).testBit (jb_f N r) = true := by
              refine jp_ar_t.2 ⟨?_, hb2⟩
              by_cases e : jb_s N r = a
              · exact Or.inl ⟨jp_nr_t.2 ⟨w1, r, hr, Or.inr ⟨ht, by rw [e, jn_2k]; simp, rfl⟩⟩, fun e2 => hT (Or.inr ⟨ht, e2, e⟩)⟩
              · exact Or.inr (jp_nr_t.2 ⟨w1, r, hr, Or.inr ⟨ht, (hxor X _ o1).2 ⟨k, e⟩, rfl⟩⟩)
            rw [this] at hf
            cases hf
      have := hrc _ o1 cl
      rw [show X.testBit b = true from this] at o2
      cases o2
  have two : (2 ^ a).testBit a = true ∧ (2 ^ a).testBit b = false ∧ (jp_ar N a b (2 ^ a)).testBit b = false := by
    refine ⟨by rw [jn_2k]; simp, jn_2f.2 (Ne.symm ne), ?_⟩
    cases hb : (jp_ar N a b (2 ^ a)).testBit b with
    | false => rfl
    | true =>
      rcases (jp_ar_t.1 hb).1 with k | k
      · exact absurd rfl k.2
      · rw [Nat.xor_self, jp_nr0, Nat.zero_testBit] at k
        cases k
  have l1 := jn_lack (jn_2lt ha) hb two.2.1
  refine jn_mn_same (fun X h1 h2 => ⟨jp_ar N a b X, jp_ar_lt, c1 X h1 h2, Nat.le_refl _⟩) (fun S h1 h2 => ?_) ⟨2 ^ a, l1, (okt _).2 two, jn_pc_len jp_ar_lt (by omega)⟩ ⟨jp_ar N a b (2 ^ a), jp_ar_lt, c1 _ l1 ((okt _).2 two), Nat.le_trans (jn_pc_len jp_ar_lt (by omega)) hp⟩
  obtain ⟨s1, s2, s3⟩ := (aokt S).1 h2
  have hR := fun y => jb_R_t w (W := S) (T := jb_oth N a b) (a := a) (x := y) ha
  have hRb : (jb_R N S (jb_oth N a b) a).testBit b = false := by
    cases hb : (jb_R N S (jb_oth N a b) a).testBit b with
    | false => rfl
    | true => exact absurd ((hR _).1 hb) s3
  have hRa := (hR a).2 jb_rc.rf
  have sub : ∀ y, (jp_ar N a b (jb_R N S (jb_oth N a b) a)).testBit y = true → S.testBit y = true := by
    intro y hy
    obtain ⟨k, hyR⟩ := jp_ar_t.1 hy
    cases hSy : S.testBit y with
    | true => rfl
    | false =>
      exfalso
      have stp : ∀ u r, r < jb_n N → (jb_R N S (jb_oth N a b) a).testBit u = true → (jb_oth N a b).testBit r = true → ((jb_f N r = u ∧ jb_s N r = y) ∨ (jb_t N = false ∧ jb_s N r = u ∧ jb_f N r = y)) → False := by
        intro u r hr hu ho hk
        have hSu := jb_rc_out ((hR u).1 hu) s1
        rcases hk with ⟨rfl, rfl⟩ | ⟨ht, rfl, rfl⟩
        · have := (jb_rc_cl N S _ a r hr ho hSu hSy).1 ((hR _).1 hu)
          rw [(hR _).2 this] at hyR
          cases hyR
        · have := (jb_rc_cl N S _ a r hr ho hSy hSu).2 ht ((hR _).1 hu)
          rw [(hR _).2 this] at hyR
          cases hyR
      have hbn : ∀ u, (jb_R N S (jb_oth N a b) a).testBit u = true → u ≠ b := fun u hu e => by
        rw [e, hRb] at hu
        cases hu
      rcases k with ⟨k, kb⟩ | k
      · obtain ⟨_, r, hr, k | ⟨k0, k1, k2⟩⟩ := jp_nr_t.1 k
        · have e : jb_f N r = a := by
            have := k.1
            rw [jn_2k] at this
            exact (of_decide_eq_true this).symm
          refine stp a r hr hRa ((jb_oth_t hr).2 (fun c => ?_)) (Or.inl ⟨e, k.2⟩)
          rcases c with ⟨_, c⟩ | ⟨_, c, _⟩
          · exact kb (by rw [← k.2, c])
          · exact ne (by rw [← e, c])
        · have e : jb_s N r = a := by
            rw [jn_2k] at k1
            exact (of_decide_eq_true k1).symm
          refine stp a r hr hRa ((jb_oth_t hr).2 (fun c => ?_)) (Or.inr ⟨k0, e, k2⟩)
          rcases c with ⟨_, c⟩ | ⟨_, c, _⟩
          · exact ne (by rw [← e, c])
          · exact kb (by rw [← k2, c])
      · obtain ⟨_, r, hr, ⟨k1, k2⟩ | ⟨k0, k1, k2⟩⟩ := jp_nr_t.1 k
        · obtain ⟨u1, u2⟩ := (hxor _ _ hRa).1 k1
          refine stp _ r hr u1 ((jb_oth_t hr).2 (fun c => ?_)) (Or.inl ⟨rfl, k2⟩)
          rcases c with ⟨c, _⟩ | ⟨_, c, _⟩
          · exact u2 c
          · exact hbn _ u1 c
        · obtain ⟨u1, u2⟩ := (hxor _ _ hRa).1 k1
          refine stp _ r hr u1 ((jb_oth_t hr).2 (fun c => ?_)) (Or.inr ⟨k0, rfl, k2⟩)
          rcases c with ⟨_, c⟩ | ⟨_, _, c⟩
          · exact hbn _ u1 c
          · exact u2 c
  refine ⟨jb_R N S (jb_oth N a b) a, jn_lack jb_R_lt hb hRb, (okt _).2 ⟨hRa, hRb, ?_⟩, jn_pc_mono sub⟩
  cases hb2 : (jp_ar N a b (jb_R N S (jb_oth N a b) a)).testBit b with
  | false => rfl
  | true =>
    rw [sub b hb2] at s2
    cases s2
theorem jb_dir_eq (w : jb_wf N) {a b : Nat} : jn_pc (jp_bt N (2 ^ a) (2 ^ b)) = jn_ct (jb_dir N a b) (jb_n N) := by
  have hn := w.2.1
  unfold jp_bt
  rw [jn_pc_mk _ (by omega)]
  refine jn_ct_congr _ (fun r _ => ?_)
  unfold jp_btb jb_dir
  rw [jn_2k, jn_2k, jn_2k, jn_2k, show decide (a = jb_f N r) = decide (jb_f N r = a) from by simp [eq_comm], show decide (b = jb_s N r) = decide (jb_s N r = b) from by simp [eq_comm], show decide (a = jb_s N r) = decide (jb_s N r = a) from by simp [eq_comm], show decide (b = jb_f N r) = decide (jb_f N r = b) from by simp [eq_comm]]
  cases decide (jb_s N r = a) <;> cases decide (jb_f N r = b) <;> rfl
end
theorem jt_16 {d : Nat} {hx hm : jx_H} (I : jb_Inv hx hm) (a b : Int32) : jl_g d 48 144 [vi a, vi b] hx hm := by
  obtain ⟨N, w, x, m, h', rd, I', x', P⟩ := I.rd d
  refine jl_two I x.1 w.1 (fun c => ?_) (fun c1 c2 e => ?_) (fun i j hi hj ne e1 e2 => ?_)
  · refine ⟨?_, ?_⟩
    · rw [d48, e48_0, dm_two0 b x.1 c, jx_bI_s, jx_ifn (by decide), dm_fx, jx_bI_s]
    · rw [d144, e144_0, dm_isPost a m.1]
      rcases c with c | c
      · simp (disch := omega) only [jx_bI_s, jx_bL_s, jx_bV_s, eq_self, true_or, or_true, jx_if_t, jx_if_f, jq_b0, jq_b1, jq_bb, jq_b01, jx_if_in, jx_if_lt, jx_if_nlt, jx_if_le, jx_if_nle, jq_eqp, jq_eqn, nI_clamp, nI_add, pk_sub, pk_mul, jn_and, jn_or, jn_xor, jq_andn, jq_shl1, jq_bit, jq_mn, jq_mx, cond_true, cond_false, jq_jt, jq_jf, jq_e1, jq_e2, jq_e3, jq_e4, Bool.not_true, Bool.not_false, jq_0, jq_1, jq_2, jq_3, jq_4, jq_5, jq_6, jq_8, jq_12, jq_16, jq_20, jq_21, jq_24, jq_30, jq_32, jq_60, jq_84, jq_1000, jq_2436, jq_20001, c, e144_16, dm_fm]
      · cases ka : jb_ip (jb_p N) a <;> simp (disch := omega) only [jx_bI_s, jx_bL_s, jx_bV_s, eq_self, true_or, or_true, jx_if_t, jx_if_f, jq_b0, jq_b1, jq_bb, jq_b01, jx_if_in, jx_if_lt, jx_if_nlt, jx_if_le, jx_if_nle, jq_eqp, jq_eqn, nI_clamp, nI_add, pk_sub, pk_mul, jn_and, jn_or, jn_xor, jq_andn, jq_shl1, jq_bit, jq_mn, jq_mx, cond_true, cond_false, jq_jt, jq_jf, jq_e1, jq_e2, jq_e3, jq_e4, Bool.not_true, Bool.not_false, jq_0, jq_1, jq_2, jq_3, jq_4, jq_5, jq_6, jq_8, jq_12, jq_16, jq_20, jq_21, jq_24, jq_30, jq_32, jq_60, jq_84, jq_1000, jq_2436, jq_20001, dm_isPost b m.1, c, e144_16, dm_fm]
  · refine ⟨?_, ?_⟩
    · rw [d48, e48_0, dm_two1 x.1 c1 c2 e, jx_bI_s, jx_ifn (by decide), dm_fx, jx_bI_s]
    · rw [d144, e144_0]
      simp (disch := omega) only [jx_bI_s, jx_bL_s, jx_bV_s, eq_self, true_or, or_true, jx_if_t, jx_if_f, jq_b0, jq_b1, jq_bb, jq_b01, jx_if_in, jx_if_lt, jx_if_nlt, jx_if_le, jx_if_nle, jq_eqp, jq_eqn, nI_clamp, nI_add, pk_sub, pk_mul, jn_and, jn_or, jn_xor, jq_andn, jq_shl1, jq_bit, jq_mn, jq_mx, cond_true, cond_false, jq_jt, jq_jf, jq_e1, jq_e2, jq_e3, jq_e4, Bool.not_true, Bool.not_false, jq_0, jq_1, jq_2, jq_3, jq_4, jq_5, jq_6, jq_8, jq_12, jq_16, jq_20, jq_21, jq_24, jq_30, jq_32, jq_60, jq_84, jq_1000, jq_2436, jq_20001, dm_isPost a m.1, dm_isPost b m.1, c1, c2, jx_ifp e, dm_fm]
  · have k1 := jb_ip_n (p := jb_p N) (by have := w.1; omega) hi
    have k2 := jb_ip_n (p := jb_p N) (by have := w.1; omega) hj
    have hp := w.1
    refine ⟨nI (jn_ct (jb_dir N i j) (jb_n N) + jn_mn (jb_aok N i j) jn_pc 8 (2 ^ jb_p N)), h', hm, ?_, ?_, I'⟩
    · rw [d48, e48_0, dm_two2 x.1 k1 k2 (fun k => ne (jq_inj (by omega) (by omega) k))]
      simp (disch := omega) only [jx_bI_s, jx_bL_s, jx_bV_s, eq_self, true_or, or_true, jx_if_t, jx_if_f, jq_b0, jq_b1, jq_bb, jq_b01, jx_if_in, jx_if_lt, jx_if_nlt, jx_if_le, jx_if_nle, jq_eqp, jq_eqn, nI_clamp, nI_add, pk_sub, pk_mul, jn_and, jn_or, jn_xor, jq_andn, jq_shl1, jq_bit, jq_mn, jq_mx, cond_true, cond_false, jq_jt, jq_jf, jq_e1, jq_e2, jq_e3, jq_e4, Bool.not_true, Bool.not_false, jq_0, jq_1, jq_2, jq_3, jq_4, jq_5, jq_6, jq_8, jq_12, jq_16, jq_20, jq_21, jq_24, jq_30, jq_32, jq_60, jq_84, jq_1000, jq_2436, jq_20001, rd, dm_apartX w P hi hj, jb_apart_eq w hi hj ne, jb_dir_eq w]
      rw [Nat.add_comm]
    · rw [d144, e144_0]
      simp (disch := omega) only [jx_bI_s, jx_bL_s, jx_bV_s, eq_self, true_or, or_true, jx_if_t, jx_if_f, jq_b0, jq_b1, jq_bb, jq_b01, jx_if_in, jx_if_lt, jx_if_nlt, jx_if_le, jx_if_nle, jq_eqp, jq_eqn, nI_clamp, nI_add, pk_sub, pk_mul, jn_and, jn_or, jn_xor, jq_andn, jq_shl1, jq_bit, jq_mn, jq_mx, cond_true, cond_false, jq_jt, jq_jf, jq_e1, jq_e2, jq_e3, jq_e4, Bool.not_true, Bool.not_false, jq_0, jq_1, jq_2, jq_3, jq_4, jq_5, jq_6, jq_8, jq_12, jq_16, jq_20, jq_21, jq_24, jq_30, jq_32, jq_60, jq_84, jq_1000, jq_2436, jq_20001, dm_isPost _ m.1, k1, k2, dm_apartM w m hi hj]
