/-! ===== layer 2: cuts, as the reference counts them ===== -/
def jb_G (A B : Nat → Bool) (t : Bool) (T r : Nat) : Bool := ((A r != B r) && (!t || A r)) && (decide (20 ≤ r) || T.testBit r)
theorem jn_ct_p {f : Nat → Bool} {i : Nat} (h : f i = true) : jn_ct f i + 1 = jn_ct f (i + 1) := by
  simp [jn_ct, h]
theorem jn_ct_z {f : Nat → Bool} {i : Nat} (h : f i = false) : jn_ct f i + 0 = jn_ct f (i + 1) := by
  simp [jn_ct, h]
theorem dm_cutOf {d X M T : Nat} {h : jx_H} {t : Bool} {A B : Nat → Bool} (hT : T < 2 ^ 31) (hM : M ≤ 50) (ht : h.1 30 0 2 = jn_b t) (hA : ∀ r, r < M → (nI X >>> (h.1 33 0 r &&& 31)) &&& 1 = jn_b (A r)) (hB : ∀ r, r < M → (nI X >>> (h.1 34 0 r &&& 31)) &&& 1 = jn_b (B r)) : DM (d + 2) 138 [vr 30 0, vi (nI X), vi (nI M), vi (nI T)] h = some ([vi (nI (jn_ct (jb_G A B t T) M))], h) := by
  rw [d138, e138_0]
  refine (jn_loop (fun i => F138_6 (DM (d + 1)) (nI X) (nI M) (nI T) (nI (jn_ct (jb_G A B t T) i)) (nI i) h) (Nat.zero_le M) (fun i _ hi => ?_)).trans ?_
  · show F138_6 _ _ _ _ _ _ _ = F138_6 _ _ _ _ _ _ _
    rw [e138_6]
    have a := hA i hi
    have b := hB i hi
    have key : jb_G A B t T i = jb_G A B t T i := rfl
    conv at key => rhs; unfold jb_G
    by_cases h20 : i < 20
    · have h20' : decide (20 ≤ i) = false := by simp; omega
      cases ha : A i <;> cases hb : B i <;> cases t <;> cases hTi : T.testBit i <;> rw [ha, hb, hTi, h20'] at key <;> rw [ha] at a <;> rw [hb] at b <;> simp (disch := omega) only [jx_bI_s, jx_bL_s, jx_bV_s, eq_self, true_or, or_true, jx_if_t, jx_if_f, jq_b0, jq_b1, jq_bb, jq_b01, jx_if_in, jx_if_lt, jx_if_nlt, jx_if_le, jx_if_nle, jq_eqp, jq_eqn, nI_clamp, nI_add, pk_sub, pk_mul, jn_and, jn_or, jn_xor, jq_andn, jq_shl1, jq_bit, jq_mn, jq_mx, cond_true, cond_false, jq_jt, jq_jf, jq_e1, jq_e2, jq_e3, jq_e4, Bool.not_true, Bool.not_false, jq_0, jq_1, jq_2, jq_3, jq_4, jq_5, jq_6, jq_8, jq_12, jq_16, jq_20, jq_21, jq_24, jq_30, jq_32, jq_60, jq_84, jq_1000, jq_2436, jq_20001, dm_in a, dm_in b, dm_inN, ht, hTi, e138_62, e138_58, e138_63, e138_92, e138_88, e138_93, e138_96] <;> first | rw [jn_ct_z key] | rw [jn_ct_p key]
    · have h20' : decide (20 ≤ i) = true := by simp; omega
      cases ha : A i <;> cases hb : B i <;> cases t <;> rw [ha, hb, h20'] at key <;> rw [ha] at a <;> rw [hb] at b <;> simp (disch := omega) only [jx_bI_s, jx_bL_s, jx_bV_s, eq_self, true_or, or_true, jx_if_t, jx_if_f, jq_b0, jq_b1, jq_bb, jq_b01, jx_if_in, jx_if_lt, jx_if_nlt, jx_if_le, jx_if_nle, jq_eqp, jq_eqn, nI_clamp, nI_add, pk_sub, pk_mul, jn_and, jn_or, jn_xor, jq_andn, jq_shl1, jq_bit, jq_mn, jq_mx, cond_true, cond_false, jq_jt, jq_jf, jq_e1, jq_e2, jq_e3, jq_e4, Bool.not_true, Bool.not_false, jq_0, jq_1, jq_2, jq_3, jq_4, jq_5, jq_6, jq_8, jq_12, jq_16, jq_20, jq_21, jq_24, jq_30, jq_32, jq_60, jq_84, jq_1000, jq_2436, jq_20001, dm_in a, dm_in b, dm_inN, ht, e138_62, e138_58, e138_63, e138_92, e138_88, e138_93, e138_96] <;> first | rw [jn_ct_z key] | rw [jn_ct_p key]
  · show F138_6 _ _ _ _ _ _ _ = _
    rw [e138_6, jx_if_nlt (Nat.le_refl _) (by omega)]
/-- whether road r is in the cut of X -/
def jb_cb (N : jb_N) (X r : Nat) : Bool := (X.testBit (jb_f N r) != X.testBit (jb_s N r)) && (!jb_t N || X.testBit (jb_f N r))
/-- how many roads of T are in the cut of X -/
def jb_cu (N : jb_N) (X T : Nat) : Nat := jn_ct (fun r => jb_cb N X r && T.testBit r) (jb_n N)
theorem jb_cu_le (N : jb_N) (X T : Nat) : jb_cu N X T ≤ jb_n N := jn_ct_le _ _
theorem dm_cutN {d X T : Nat} {h : jx_H} {N : jb_N} (w : jb_wf N) (m : jb_M h N) (hX : X < 2 ^ 31) (hT : T < 2 ^ 31) : DM (d + 2) 138 [vr 30 0, vi (nI X), vi (nI (jb_n N)), vi (nI T)] h = some ([vi (nI (jb_cu N X T))], h) := by
  have hn := w.2.1
  have hp := w.1
  rw [dm_cutOf (A := fun r => X.testBit (jb_f N r)) (B := fun r => X.testBit (jb_s N r)) hT (by omega) m.2.2.1 (fun r hr => by
    have := (w.2.2 r hr).1
    rw [(m.2.2.2 r hr).1]
    exact jn_bit hX (by omega)) (fun r hr => by
    have := (w.2.2 r hr).2.1
    rw [(m.2.2.2 r hr).2.1]
    exact jn_bit hX (by omega))]
  have e : jn_ct (jb_G (fun r => X.testBit (jb_f N r)) (fun r => X.testBit (jb_s N r)) (jb_t N) T) (jb_n N) = jb_cu N X T := by
    refine jn_ct_congr _ (fun r hr => ?_)
    unfold jb_G jb_cb
    have h20 : decide (20 ≤ r) = false := by simp; omega
    rw [h20, Bool.false_or]
  rw [e]
theorem dm_countOf {d x : Nat} (hx : x < 2 ^ 31) (h : jx_H) : DM (d + 1) 140 [vi (nI x)] h = some ([vi (nI (jn_pc x))], h) := by
  rw [d140, e140_0]
  refine (jn_loop (fun i => F140_4 (DM d) (nI x) (nI (jn_ct (fun i => x.testBit i) i)) (nI i) h) (Nat.zero_le 31) (fun i _ hi => ?_)).trans ?_
  · show F140_4 _ _ _ _ _ = F140_4 _ _ _ _ _
    rw [e140_4, jx_ifp (show nI i < 31 from nI_lt (b := 31) hi (by decide))]
    cases hb : x.testBit i
    · simp (disch := omega) only [jx_bI_s, jx_bL_s, jx_bV_s, eq_self, true_or, or_true, jx_if_t, jx_if_f, jq_b0, jq_b1, jq_bb, jq_b01, jx_if_in, jx_if_lt, jx_if_nlt, jx_if_le, jx_if_nle, jq_eqp, jq_eqn, nI_clamp, nI_add, pk_sub, pk_mul, jn_and, jn_or, jn_xor, jq_andn, jq_shl1, jq_bit, jq_mn, jq_mx, cond_true, cond_false, jq_jt, jq_jf, jq_e1, jq_e2, jq_e3, jq_e4, Bool.not_true, Bool.not_false, jq_0, jq_1, jq_2, jq_3, jq_4, jq_5, jq_6, jq_8, jq_12, jq_16, jq_20, jq_21, jq_24, jq_30, jq_32, jq_60, jq_84, jq_1000, jq_2436, jq_20001, e140_18, hb]
      rw [jn_ct_z (f := fun i => x.testBit i) hb]
    · simp (disch := omega) only [jx_bI_s, jx_bL_s, jx_bV_s, eq_self, true_or, or_true, jx_if_t, jx_if_f, jq_b0, jq_b1, jq_bb, jq_b01, jx_if_in, jx_if_lt, jx_if_nlt, jx_if_le, jx_if_nle, jq_eqp, jq_eqn, nI_clamp, nI_add, pk_sub, pk_mul, jn_and, jn_or, jn_xor, jq_andn, jq_shl1, jq_bit, jq_mn, jq_mx, cond_true, cond_false, jq_jt, jq_jf, jq_e1, jq_e2, jq_e3, jq_e4, Bool.not_true, Bool.not_false, jq_0, jq_1, jq_2, jq_3, jq_4, jq_5, jq_6, jq_8, jq_12, jq_16, jq_20, jq_21, jq_24, jq_30, jq_32, jq_60, jq_84, jq_1000, jq_2436, jq_20001, e140_18, hb]
      rw [jn_ct_p (f := fun i => x.testBit i) hb]
  · show F140_4 _ _ _ _ _ = _
    rw [e140_4, jx_ifn (show ¬ nI 31 < 31 by decide), jn_pc_n hx (by decide)]
/-- the net's hold with the roads of T: over all sets -/
def jb_hm (N : jb_N) (T v : Nat) : Nat := jn_mn (fun X => decide (1 ≤ X)) (fun X => jb_cu N X T) v (2 ^ jb_p N - 1)
def jb_hab (N : jb_N) (a b v : Nat) : Nat := jn_mn (fun X => X.testBit a && !X.testBit b) (fun X => jb_cu N X (2 ^ jb_n N - 1)) v (2 ^ jb_p N)
theorem dm_holdM {d a b : Nat} {h : jx_H} {N : jb_N} (w : jb_wf N) (m : jb_M h N) (ha : a < jb_p N) (hb : b < jb_p N) : DM (d + 3) 134 [vr 30 0, vi (nI a), vi (nI b)] h = some ([vi (nI (jb_hab N a b 21))], h) := by
  have hn := w.2.1
  have hp := w.1
  have h2 := jn_pow8 hp
  have h3 := jn_pow20 hn
  have h4 := Nat.two_pow_pos (jb_p N)
  have hc := fun X => jb_cu_le N X (2 ^ jb_n N - 1)
  rw [d134, e134_0]
  refine (jn_loop (fun i => F134_6 (DM (d + 2)) (nI a) (nI b) (nI (jn_mn (fun X => X.testBit a && !X.testBit b) (fun X => jb_cu N X (2 ^ jb_n N - 1)) 21 i)) (nI i) h) (Nat.zero_le (2 ^ jb_p N)) (fun i _ hi => ?_)).trans ?_
  · show F134_6 _ _ _ _ _ _ = F134_6 _ _ _ _ _ _
    have hm := jn_mn_le0 (ok := fun X => X.testBit a && !X.testBit b) (c := fun X => jb_cu N X (2 ^ jb_n N - 1)) (v := 21) i
    have hci := hc i
    rw [e134_6]
    cases h1 : i.testBit a
    · simp (disch := omega) only [jx_bI_s, jx_bL_s, jx_bV_s, eq_self, true_or, or_true, jx_if_t, jx_if_f, jq_b0, jq_b1, jq_bb, jq_b01, jx_if_in, jx_if_lt, jx_if_nlt, jx_if_le, jx_if_nle, jq_eqp, jq_eqn, nI_clamp, nI_add, pk_sub, pk_mul, jn_and, jn_or, jn_xor, jq_andn, jq_shl1, jq_bit, jq_mn, jq_mx, cond_true, cond_false, jq_jt, jq_jf, jq_e1, jq_e2, jq_e3, jq_e4, Bool.not_true, Bool.not_false, jq_0, jq_1, jq_2, jq_3, jq_4, jq_5, jq_6, jq_8, jq_12, jq_16, jq_20, jq_21, jq_24, jq_30, jq_32, jq_60, jq_84, jq_1000, jq_2436, jq_20001, dm_all (n := jb_p N) (by omega) m.1, dm_inN, h1, e134_62]
      rw [jn_mn_f (by simp [h1])]
    · cases h2 : i.testBit b
      · rw [jn_mn_t (n := i) (by simp [h1, h2])]
        by_cases hl : jb_cu N i (2 ^ jb_n N - 1) < jn_mn (fun X => X.testBit a && !X.testBit b) (fun X => jb_cu N X (2 ^ jb_n N - 1)) 21 i
        · simp (disch := omega) only [jx_bI_s, jx_bL_s, jx_bV_s, eq_self, true_or, or_true, jx_if_t, jx_if_f, jq_b0, jq_b1, jq_bb, jq_b01, jx_if_in, jx_if_lt, jx_if_nlt, jx_if_le, jx_if_nle, jq_eqp, jq_eqn, nI_clamp, nI_add, pk_sub, pk_mul, jn_and, jn_or, jn_xor, jq_andn, jq_shl1, jq_bit, jq_mn, jq_mx, cond_true, cond_false, jq_jt, jq_jf, jq_e1, jq_e2, jq_e3, jq_e4, Bool.not_true, Bool.not_false, jq_0, jq_1, jq_2, jq_3, jq_4, jq_5, jq_6, jq_8, jq_12, jq_16, jq_20, jq_21, jq_24, jq_30, jq_32, jq_60, jq_84, jq_1000, jq_2436, jq_20001, dm_all (n := jb_p N) (by omega) m.1, dm_allR (n := jb_n N) (by omega) m.2.1, m.2.1, dm_cutN w m, dm_inN, h1, h2, e134_62, e134_61]
          rw [Nat.min_eq_right (by omega)]
        · simp (disch := omega) only [jx_bI_s, jx_bL_s, jx_bV_s, eq_self, true_or, or_true, jx_if_t, jx_if_f, jq_b0, jq_b1, jq_bb, jq_b01, jx_if_in, jx_if_lt, jx_if_nlt, jx_if_le, jx_if_nle, jq_eqp, jq_eqn, nI_clamp, nI_add, pk_sub, pk_mul, jn_and, jn_or, jn_xor, jq_andn, jq_shl1, jq_bit, jq_mn, jq_mx, cond_true, cond_false, jq_jt, jq_jf, jq_e1, jq_e2, jq_e3, jq_e4, Bool.not_true, Bool.not_false, jq_0, jq_1, jq_2, jq_3, jq_4, jq_5, jq_6, jq_8, jq_12, jq_16, jq_20, jq_21, jq_24, jq_30, jq_32, jq_60, jq_84, jq_1000, jq_2436, jq_20001, dm_all (n := jb_p N) (by omega) m.1, dm_allR (n := jb_n N) (by omega) m.2.1, m.2.1, dm_cutN w m, dm_inN, h1, h2, e134_62, e134_61]
          rw [Nat.min_eq_left (by omega)]
      · simp (disch := omega) only [jx_bI_s, jx_bL_s, jx_bV_s, eq_self, true_or, or_true, jx_if_t, jx_if_f, jq_b0, jq_b1, jq_bb, jq_b01, jx_if_in, jx_if_lt, jx_if_nlt, jx_if_le, jx_if_nle, jq_eqp, jq_eqn, nI_clamp, nI_add, pk_sub, pk_mul, jn_and, jn_or, jn_xor, jq_andn, jq_shl1, jq_bit, jq_mn, jq_mx, cond_true, cond_false, jq_jt, jq_jf, jq_e1, jq_e2, jq_e3, jq_e4, Bool.not_true, Bool.not_false, jq_0, jq_1, jq_2, jq_3, jq_4, jq_5, jq_6, jq_8, jq_12, jq_16, jq_20, jq_21, jq_24, jq_30, jq_32, jq_60, jq_84, jq_1000, jq_2436, jq_20001, dm_all (n := jb_p N) (by omega) m.1, dm_inN, h1, h2, e134_62]
        rw [jn_mn_f (by simp [h1, h2])]
  · show F134_6 _ _ _ _ _ _ = _
    rw [e134_6]
    simp (disch := omega) only [jx_bI_s, jx_bL_s, jx_bV_s, eq_self, true_or, or_true, jx_if_t, jx_if_f, jq_b0, jq_b1, jq_bb, jq_b01, jx_if_in, jx_if_lt, jx_if_nlt, jx_if_le, jx_if_nle, jq_eqp, jq_eqn, nI_clamp, nI_add, pk_sub, pk_mul, jn_and, jn_or, jn_xor, jq_andn, jq_shl1, jq_bit, jq_mn, jq_mx, cond_true, cond_false, jq_jt, jq_jf, jq_e1, jq_e2, jq_e3, jq_e4, Bool.not_true, Bool.not_false, jq_0, jq_1, jq_2, jq_3, jq_4, jq_5, jq_6, jq_8, jq_12, jq_16, jq_20, jq_21, jq_24, jq_30, jq_32, jq_60, jq_84, jq_1000, jq_2436, jq_20001, dm_all (n := jb_p N) (by omega) m.1]
    rfl
theorem dm_netHoldOf {d M T : Nat} {h : jx_H} {p : Nat} {c : Nat → Nat} (hp : p ≤ 8) (m : h.1 30 0 0 = nI p) (hc : ∀ X, X < 2 ^ p → DM (d + 2) 138 [vr 30 0, vi (nI X), vi (nI M), vi (nI T)] h = some ([vi (nI (c X))], h)) (hl : ∀ X, c X ≤ 50) : DM (d + 3) 142 [vr 30 0, vi (nI M), vi (nI T)] h = some ([vi (nI (jn_mn (fun X => decide (1 ≤ X)) c (if p < 2 then 0 else 1000) (2 ^ p - 1)))], h) := by
  have h2 := jn_pow8 hp
  have h4 := Nat.two_pow_pos p
  have e0 : F142_0 (DM (d + 2)) (nI M) (nI T) h = F142_19 (DM (d + 2)) (nI M) (nI T) (nI (if p < 2 then 0 else 1000)) (nI 1) h := by
    rw [e142_0, m]
    by_cases hp2 : p < 2
    · simp (disch := omega) only [jx_bI_s, jx_bL_s, jx_bV_s, eq_self, true_or, or_true, jx_if_t, jx_if_f, jq_b0, jq_b1, jq_bb, jq_b01, jx_if_in, jx_if_lt, jx_if_nlt, jx_if_le, jx_if_nle, jq_eqp, jq_eqn, nI_clamp, nI_add, pk_sub, pk_mul, jn_and, jn_or, jn_xor, jq_andn, jq_shl1, jq_bit, jq_mn, jq_mx, cond_true, cond_false, jq_jt, jq_jf, jq_e1, jq_e2, jq_e3, jq_e4, Bool.not_true, Bool.not_false, jq_0, jq_1, jq_2, jq_3, jq_4, jq_5, jq_6, jq_8, jq_12, jq_16, jq_20, jq_21, jq_24, jq_30, jq_32, jq_60, jq_84, jq_1000, jq_2436, jq_20001, e142_15]
      rw [if_pos hp2]
    · simp (disch := omega) only [jx_bI_s, jx_bL_s, jx_bV_s, eq_self, true_or, or_true, jx_if_t, jx_if_f, jq_b0, jq_b1, jq_bb, jq_b01, jx_if_in, jx_if_lt, jx_if_nlt, jx_if_le, jx_if_nle, jq_eqp, jq_eqn, nI_clamp, nI_add, pk_sub, pk_mul, jn_and, jn_or, jn_xor, jq_andn, jq_shl1, jq_bit, jq_mn, jq_mx, cond_true, cond_false, jq_jt, jq_jf, jq_e1, jq_e2, jq_e3, jq_e4, Bool.not_true, Bool.not_false, jq_0, jq_1, jq_2, jq_3, jq_4, jq_5, jq_6, jq_8, jq_12, jq_16, jq_20, jq_21, jq_24, jq_30, jq_32, jq_60, jq_84, jq_1000, jq_2436, jq_20001, e142_15]
      rw [if_neg hp2]
  rw [d142, e0]
  generalize hv : (if p < 2 then 0 else 1000) = v
  have hv1 : v ≤ 1000 := by
    rw [← hv]
    split <;> omega
  by_cases hp0 : p = 0
  · subst hp0
    rw [e142_19]
    simp (disch := omega) only [jx_bI_s, jx_bL_s, jx_bV_s, eq_self, true_or, or_true, jx_if_t, jx_if_f, jq_b0, jq_b1, jq_bb, jq_b01, jx_if_in, jx_if_lt, jx_if_nlt, jx_if_le, jx_if_nle, jq_eqp, jq_eqn, nI_clamp, nI_add, pk_sub, pk_mul, jn_and, jn_or, jn_xor, jq_andn, jq_shl1, jq_bit, jq_mn, jq_mx, cond_true, cond_false, jq_jt, jq_jf, jq_e1, jq_e2, jq_e3, jq_e4, Bool.not_true, Bool.not_false, jq_0, jq_1, jq_2, jq_3, jq_4, jq_5, jq_6, jq_8, jq_12, jq_16, jq_20, jq_21, jq_24, jq_30, jq_32, jq_60, jq_84, jq_1000, jq_2436, jq_20001, dm_all (n := 0) (by omega) m]
    rfl
  have hp1 : 2 ≤ 2 ^ p := by
    have := Nat.pow_le_pow_right (n := 2) (by decide) (show 1 ≤ p by omega)
    omega
  refine (jn_loop (fun i => F142_19 (DM (d + 2)) (nI M) (nI T) (nI (jn_mn (fun X => decide (1 ≤ X)) c v i)) (nI i) h) (show 1 ≤ 2 ^ p - 1 by omega) (fun i hi1 hi => ?_)).trans ?_
  · show F142_19 _ _ _ _ _ _ = F142_19 _ _ _ _ _ _
    have hm := jn_mn_le0 (ok := fun X => decide (1 ≤ X)) (c := c) (v := v) i
    have hci := hl i
    rw [e142_19, jn_mn_t (n := i) (by simp; omega)]
    by_cases hlt : c i < jn_mn (fun X => decide (1 ≤ X)) c v i
    · simp (disch := omega) only [jx_bI_s, jx_bL_s, jx_bV_s, eq_self, true_or, or_true, jx_if_t, jx_if_f, jq_b0, jq_b1, jq_bb, jq_b01, jx_if_in, jx_if_lt, jx_if_nlt, jx_if_le, jx_if_nle, jq_eqp, jq_eqn, nI_clamp, nI_add, pk_sub, pk_mul, jn_and, jn_or, jn_xor, jq_andn, jq_shl1, jq_bit, jq_mn, jq_mx, cond_true, cond_false, jq_jt, jq_jf, jq_e1, jq_e2, jq_e3, jq_e4, Bool.not_true, Bool.not_false, jq_0, jq_1, jq_2, jq_3, jq_4, jq_5, jq_6, jq_8, jq_12, jq_16, jq_20, jq_21, jq_24, jq_30, jq_32, jq_60, jq_84, jq_1000, jq_2436, jq_20001, dm_all (n := p) (by omega) m, hc i (by omega), e142_50]
      rw [Nat.min_eq_right (by omega)]
    · simp (disch := omega) only [jx_bI_s, jx_bL_s, jx_bV_s, eq_self, true_or, or_true, jx_if_t, jx_if_f, jq_b0, jq_b1, jq_bb, jq_b01, jx_if_in, jx_if_lt, jx_if_nlt, jx_if_le, jx_if_nle, jq_eqp, jq_eqn, nI_clamp, nI_add, pk_sub, pk_mul, jn_and, jn_or, jn_xor, jq_andn, jq_shl1, jq_bit, jq_mn, jq_mx, cond_true, cond_false, jq_jt, jq_jf, jq_e1, jq_e2, jq_e3, jq_e4, Bool.not_true, Bool.not_false, jq_0, jq_1, jq_2, jq_3, jq_4, jq_5, jq_6, jq_8, jq_12, jq_16, jq_20, jq_21, jq_24, jq_30, jq_32, jq_60, jq_84, jq_1000, jq_2436, jq_20001, dm_all (n := p) (by omega) m, hc i (by omega), e142_50]
      rw [Nat.min_eq_left (by omega)]
  · show F142_19 _ _ _ _ _ _ = _
    rw [e142_19]
    simp (disch := omega) only [jx_bI_s, jx_bL_s, jx_bV_s, eq_self, true_or, or_true, jx_if_t, jx_if_f, jq_b0, jq_b1, jq_bb, jq_b01, jx_if_in, jx_if_lt, jx_if_nlt, jx_if_le, jx_if_nle, jq_eqp, jq_eqn, nI_clamp, nI_add, pk_sub, pk_mul, jn_and, jn_or, jn_xor, jq_andn, jq_shl1, jq_bit, jq_mn, jq_mx, cond_true, cond_false, jq_jt, jq_jf, jq_e1, jq_e2, jq_e3, jq_e4, Bool.not_true, Bool.not_false, jq_0, jq_1, jq_2, jq_3, jq_4, jq_5, jq_6, jq_8, jq_12, jq_16, jq_20, jq_21, jq_24, jq_30, jq_32, jq_60, jq_84, jq_1000, jq_2436, jq_20001, dm_all (n := p) (by omega) m]
theorem dm_netHoldT {d T : Nat} {h : jx_H} {N : jb_N} (w : jb_wf N) (m : jb_M h N) (hT : T < 2 ^ 31) : DM (d + 3) 142 [vr 30 0, vi (nI (jb_n N)), vi (nI T)] h = some ([vi (nI (jb_hm N T (if jb_p N < 2 then 0 else 1000)))], h) :=
  dm_netHoldOf w.1 m.1 (fun X hX => dm_cutN w m (by have := jn_p8 w.1 hX; omega) hT) (fun X => by have := jb_cu_le N X T; have := w.2.1; omega)
theorem dm_netHoldM {d : Nat} {h : jx_H} {N : jb_N} (w : jb_wf N) (m : jb_M h N) : DM (d + 4) 141 [vr 30 0] h = some ([vi (nI (jb_hm N (2 ^ jb_n N - 1) (if jb_p N < 2 then 0 else 1000)))], h) := by
  have h3 := jn_pow20 w.2.1
  have hn := w.2.1
  rw [d141, e141_0]
  simp (disch := omega) only [jx_bI_s, jx_bL_s, jx_bV_s, eq_self, true_or, or_true, jx_if_t, jx_if_f, jq_b0, jq_b1, jq_bb, jq_b01, jx_if_in, jx_if_lt, jx_if_nlt, jx_if_le, jx_if_nle, jq_eqp, jq_eqn, nI_clamp, nI_add, pk_sub, pk_mul, jn_and, jn_or, jn_xor, jq_andn, jq_shl1, jq_bit, jq_mn, jq_mx, cond_true, cond_false, jq_jt, jq_jf, jq_e1, jq_e2, jq_e3, jq_e4, Bool.not_true, Bool.not_false, jq_0, jq_1, jq_2, jq_3, jq_4, jq_5, jq_6, jq_8, jq_12, jq_16, jq_20, jq_21, jq_24, jq_30, jq_32, jq_60, jq_84, jq_1000, jq_2436, jq_20001, dm_allR (n := jb_n N) (by omega) m.2.1, m.2.1, dm_netHoldT w m]
/-- sums -/
def jn_sm (f : Nat → Nat) : Nat → Nat
  | 0 => 0
  | n + 1 => jn_sm f n + f n
theorem jn_sm_le {f : Nat → Nat} {b : Nat} : ∀ n, (∀ i, i < n → f i ≤ b) → jn_sm f n ≤ n * b := by
  intro n
  induction n with
  | zero => intro _; exact Nat.zero_le _
  | succ n ih =>
    intro h
    have h1 := ih (fun i hi => h i (by omega))
    have h2 := h n (by omega)
    rw [Nat.succ_mul]
    show jn_sm f n + f n ≤ _
    omega
theorem jn_sm_congr {f g : Nat → Nat} : ∀ n, (∀ i, i < n → f i = g i) → jn_sm f n = jn_sm g n := by
  intro n
  induction n with
  | zero => intro _; rfl
  | succ n ih =>
    intro h
    show jn_sm f n + f n = jn_sm g n + g n
    rw [ih (fun i hi => h i (by omega)), h n (by omega)]
def jb_pr (N : jb_N) (T : Nat) : Nat := jn_sm (fun r => if T.testBit r = true then jb_c N r else 0) (jb_n N)
theorem jb_pr_le {N : jb_N} (w : jb_wf N) (T : Nat) : jb_pr N T ≤ jb_n N * 1000 := jn_sm_le _ (fun r hr => by
  have := (w.2.2 r hr).2.2.2.1
  show (if T.testBit r = true then jb_c N r else 0) ≤ 1000
  split <;> omega)
theorem dm_priceM {d T : Nat} {h : jx_H} {N : jb_N} (w : jb_wf N) (m : jb_M h N) (hT : T < 2 ^ 31) : DM (d + 2) 155 [vr 30 0, vi (nI T)] h = some ([vi (nI (jb_pr N T))], h) := by
  have hn := w.2.1
  rw [d155, e155_0]
  refine (jn_loop (fun i => F155_4 (DM (d + 1)) (nI T) (nI (jn_sm (fun r => if T.testBit r = true then jb_c N r else 0) i)) (nI i) h) (Nat.zero_le (jb_n N)) (fun i _ hi => ?_)).trans ?_
  · show F155_4 _ _ _ _ _ = F155_4 _ _ _ _ _
    rw [e155_4, m.2.1]
    have hs : jn_sm (fun r => if T.testBit r = true then jb_c N r else 0) (i + 1) = jn_sm (fun r => if T.testBit r = true then jb_c N r else 0) i + (if T.testBit i = true then jb_c N i else 0) := rfl
    cases hb : T.testBit i
    · rw [hs, if_neg (by rw [hb]; decide)]
      simp (disch := omega) only [jx_bI_s, jx_bL_s, jx_bV_s, eq_self, true_or, or_true, jx_if_t, jx_if_f, jq_b0, jq_b1, jq_bb, jq_b01, jx_if_in, jx_if_lt, jx_if_nlt, jx_if_le, jx_if_nle, jq_eqp, jq_eqn, nI_clamp, nI_add, pk_sub, pk_mul, jn_and, jn_or, jn_xor, jq_andn, jq_shl1, jq_bit, jq_mn, jq_mx, cond_true, cond_false, jq_jt, jq_jf, jq_e1, jq_e2, jq_e3, jq_e4, Bool.not_true, Bool.not_false, jq_0, jq_1, jq_2, jq_3, jq_4, jq_5, jq_6, jq_8, jq_12, jq_16, jq_20, jq_21, jq_24, jq_30, jq_32, jq_60, jq_84, jq_1000, jq_2436, jq_20001, dm_inN, hb, e155_31, e155_33]
    · rw [hs, if_pos hb]
      simp (disch := omega) only [jx_bI_s, jx_bL_s, jx_bV_s, eq_self, true_or, or_true, jx_if_t, jx_if_f, jq_b0, jq_b1, jq_bb, jq_b01, jx_if_in, jx_if_lt, jx_if_nlt, jx_if_le, jx_if_nle, jq_eqp, jq_eqn, nI_clamp, nI_add, pk_sub, pk_mul, jn_and, jn_or, jn_xor, jq_andn, jq_shl1, jq_bit, jq_mn, jq_mx, cond_true, cond_false, jq_jt, jq_jf, jq_e1, jq_e2, jq_e3, jq_e4, Bool.not_true, Bool.not_false, jq_0, jq_1, jq_2, jq_3, jq_4, jq_5, jq_6, jq_8, jq_12, jq_16, jq_20, jq_21, jq_24, jq_30, jq_32, jq_60, jq_84, jq_1000, jq_2436, jq_20001, dm_inN, hb, e155_31, e155_33, (m.2.2.2 i hi).2.2.1]
  · show F155_4 _ _ _ _ _ = _
    rw [e155_4, m.2.1, jx_if_nlt (Nat.le_refl _) (by omega)]
    rfl
def jb_wi (N : jb_N) (X : Nat) : Nat := jn_ct (fun r => X.testBit (jb_f N r) && X.testBit (jb_s N r)) (jb_n N)
theorem dm_withinM {d X : Nat} {h : jx_H} {N : jb_N} (w : jb_wf N) (m : jb_M h N) (hX : X < 2 ^ 31) : DM (d + 2) 160 [vr 30 0, vi (nI X)] h = some ([vi (nI (jb_wi N X))], h) := by
  have hn := w.2.1
  have hp := w.1
  rw [d160, e160_0]
  refine (jn_loop (fun i => F160_4 (DM (d + 1)) (nI X) (nI (jn_ct (fun r => X.testBit (jb_f N r) && X.testBit (jb_s N r)) i)) (nI i) h) (Nat.zero_le (jb_n N)) (fun i _ hi => ?_)).trans ?_
  · show F160_4 _ _ _ _ _ = F160_4 _ _ _ _ _
    obtain ⟨w1, w2, _⟩ := w.2.2 i hi
    rw [e160_4, m.2.1]
    cases h1 : X.testBit (jb_f N i)
    · simp (disch := omega) only [jx_bI_s, jx_bL_s, jx_bV_s, eq_self, true_or, or_true, jx_if_t, jx_if_f, jq_b0, jq_b1, jq_bb, jq_b01, jx_if_in, jx_if_lt, jx_if_nlt, jx_if_le, jx_if_nle, jq_eqp, jq_eqn, nI_clamp, nI_add, pk_sub, pk_mul, jn_and, jn_or, jn_xor, jq_andn, jq_shl1, jq_bit, jq_mn, jq_mx, cond_true, cond_false, jq_jt, jq_jf, jq_e1, jq_e2, jq_e3, jq_e4, Bool.not_true, Bool.not_false, jq_0, jq_1, jq_2, jq_3, jq_4, jq_5, jq_6, jq_8, jq_12, jq_16, jq_20, jq_21, jq_24, jq_30, jq_32, jq_60, jq_84, jq_1000, jq_2436, jq_20001, (m.2.2.2 i hi).1, dm_inN, h1, e160_43, e160_44, e160_46]
      rw [jn_ct_z (by simp [h1])]
    · cases h2 : X.testBit (jb_s N i)
      · simp (disch := omega) only [jx_bI_s, jx_bL_s, jx_bV_s, eq_self, true_or, or_true, jx_if_t, jx_if_f, jq_b0, jq_b1, jq_bb, jq_b01, jx_if_in, jx_if_lt, jx_if_nlt, jx_if_le, jx_if_nle, jq_eqp, jq_eqn, nI_clamp, nI_add, pk_sub, pk_mul, jn_and, jn_or, jn_xor, jq_andn, jq_shl1, jq_bit, jq_mn, jq_mx, cond_true, cond_false, jq_jt, jq_jf, jq_e1, jq_e2, jq_e3, jq_e4, Bool.not_true, Bool.not_false, jq_0, jq_1, jq_2, jq_3, jq_4, jq_5, jq_6, jq_8, jq_12, jq_16, jq_20, jq_21, jq_24, jq_30, jq_32, jq_60, jq_84, jq_1000, jq_2436, jq_20001, (m.2.2.2 i hi).1, (m.2.2.2 i hi).2.1, dm_inN, h1, h2, e160_43, e160_44, e160_46]
        rw [jn_ct_z (by simp [h2])]
      · simp (disch := omega) only [jx_bI_s, jx_bL_s, jx_bV_s, eq_self, true_or, or_true, jx_if_t, jx_if_f, jq_b0, jq_b1, jq_bb, jq_b01, jx_if_in, jx_if_lt, jx_if_nlt, jx_if_le, jx_if_nle, jq_eqp, jq_eqn, nI_clamp, nI_add, pk_sub, pk_mul, jn_and, jn_or, jn_xor, jq_andn, jq_shl1, jq_bit, jq_mn, jq_mx, cond_true, cond_false, jq_jt, jq_jf, jq_e1, jq_e2, jq_e3, jq_e4, Bool.not_true, Bool.not_false, jq_0, jq_1, jq_2, jq_3, jq_4, jq_5, jq_6, jq_8, jq_12, jq_16, jq_20, jq_21, jq_24, jq_30, jq_32, jq_60, jq_84, jq_1000, jq_2436, jq_20001, (m.2.2.2 i hi).1, (m.2.2.2 i hi).2.1, dm_inN, h1, h2, e160_43, e160_44, e160_46]
        rw [jn_ct_p (by simp [h1, h2])]
  · show F160_4 _ _ _ _ _ = _
    rw [e160_4, m.2.1, jx_if_nlt (Nat.le_refl _) (by omega)]
    rfl
