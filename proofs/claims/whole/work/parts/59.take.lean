/-! ===== layer 2: take ===== -/
def jb_tv (N : jb_N) : Nat := if jb_p N < 2 then 0 else 1000
/-- what is left after road i - 1 -/
def jb_tk (N : jb_N) (H : Nat) : Nat → Nat
  | 0 => 2 ^ jb_n N - 1
  | i + 1 => if jb_hm N (jn_df (jb_tk N H i) (2 ^ i)) (jb_tv N) = H then jn_df (jb_tk N H i) (2 ^ i) else jb_tk N H i
theorem jb_tk_lt {N : jb_N} {H : Nat} : ∀ i, jb_tk N H i < 2 ^ jb_n N := by
  intro i
  induction i with
  | zero =>
    have := Nat.two_pow_pos (jb_n N)
    show 2 ^ jb_n N - 1 < _
    omega
  | succ i ih =>
    show (if _ then _ else _) < _
    split
    · exact jn_df_lt ih
    · exact ih
theorem jb_tk_t {N : jb_N} {H : Nat} : ∀ i r, i ≤ r → r < jb_n N → (jb_tk N H i).testBit r = true := by
  intro i
  induction i with
  | zero => intro r _ hr; exact jn_allr hr
  | succ i ih =>
    intro r h1 h2
    show (if _ then _ else _ : Nat).testBit r = true
    split
    · rw [jn_df_t, ih r (by omega) h2, jn_2f.2 (show r ≠ i by omega)]
      rfl
    · exact ih r (by omega) h2
section
variable {d : Nat} {N : jb_N} {H : Nat}
theorem jb_hm_congr {N N' : jb_N} {T T' v : Nat} (hp : jb_p N' = jb_p N) (h : ∀ X, jb_cu N' X T' = jb_cu N X T) : jb_hm N' T' v = jb_hm N T v := by
  unfold jb_hm
  rw [hp, show (fun X => jb_cu N' X T') = fun X => jb_cu N X T from funext h]
theorem jb_tk_cu {L i : Nat} (hi : i < jb_n N) (hLi : L.testBit i = true) (X : Nat) : jb_cu (jb_cp N (fun r => L.testBit r)) X (jn_df (2 ^ jn_ct (fun r => L.testBit r) (jb_n N) - 1) (2 ^ jn_ct (fun r => L.testBit r) i)) = jb_cu N X (jn_df L (2 ^ i)) := by
  have e := jn_ct_cp (S := fun r => L.testBit r) (P := fun j => jb_cb N X j && decide (j ≠ i)) (jb_n N)
  have e2 : jb_cu (jb_cp N (fun r => L.testBit r)) X (jn_df (2 ^ jn_ct (fun r => L.testBit r) (jb_n N) - 1) (2 ^ jn_ct (fun r => L.testBit r) i)) = jn_ct (fun k => jb_cb N X (jn_ix (fun r => L.testBit r) (jb_n N) k) && decide (jn_ix (fun r => L.testBit r) (jb_n N) k ≠ i)) (jn_ct (fun r => L.testBit r) (jb_n N)) := by
    refine jn_ct_congr _ (fun k hk => ?_)
    have hk : k < jn_ct (fun r => L.testBit r) (jb_n N) := hk
    obtain ⟨a, b, c⟩ := jn_ix_t hk
    show (jb_cb N X (jn_ix (fun r => L.testBit r) (jb_n N) k) && _) = _
    congr 1
    rw [jn_all_df, decide_eq_true hk, Bool.true_and, jn_2k, Bool.eq_iff_iff, Bool.not_eq_true', decide_eq_false_iff_not, decide_eq_true_eq]
    constructor
    · intro h1 h2
      exact h1 (by rw [← h2, c])
    · intro h1 h2
      refine h1 ?_
      rw [← h2]
      exact jn_ix_of hi hLi
  rw [e2, e]
  refine jn_ct_congr _ (fun j _ => ?_)
  rw [jn_df_t, jn_2k]
  by_cases e3 : i = j
  · subst e3
    simp
  · have e4 : j ≠ i := fun k => e3 k.symm
    simp [e3, e4]
    exact Bool.and_comm _ _
theorem dm_takeM {h0 : jx_H} (w : jb_wf N) (hH : H ≤ 1000) : ∀ (k i : Nat) (h : jx_H), i + k = jb_n N → (∀ q, 3 ≤ q → h.1 30 0 q = h0.1 30 0 q) → (∀ c, c ≠ 30 → ¬ (33 ≤ c ∧ c ≤ 36) → h.1 c = h0.1 c) → jb_M h (jb_cp N (fun r => (jb_tk N H i).testBit r)) → ∃ h', F156_13 (DM (d + 3)) (nI H) (nI (i - jn_ct (fun r => (jb_tk N H i).testBit r) i)) (nI (jn_ct (fun r => (jb_tk N H i).testBit r) i)) h = some ([vi (nI (jb_n N - jn_ct (fun r => (jb_tk N H (jb_n N)).testBit r) (jb_n N)))], h') ∧ jb_M h' (jb_cp N (fun r => (jb_tk N H (jb_n N)).testBit r)) ∧ (∀ q, 3 ≤ q → h'.1 30 0 q = h0.1 30 0 q) ∧ ∀ c, c ≠ 30 → ¬ (33 ≤ c ∧ c ≤ 36) → h'.1 c = h0.1 c := by
  have hp := w.1
  have hn := w.2.1
  intro k
  induction k with
  | zero =>
    intro i h hi f3 f m
    have e : i = jb_n N := by omega
    subst e
    have hc := jn_ct_le (fun r => (jb_tk N H (jb_n N)).testBit r) (jb_n N)
    have m1 : h.1 30 0 1 = nI (jn_ct (fun r => (jb_tk N H (jb_n N)).testBit r) (jb_n N)) := m.2.1
    refine ⟨h, ?_, m, f3, f⟩
    rw [e156_13, m1]
    simp (disch := omega) only [jx_bI_s, jx_bL_s, jx_bV_s, eq_self, true_or, or_true, jx_if_t, jx_if_f, jq_b0, jq_b1, jq_bb, jq_b01, jx_if_in, jx_if_lt, jx_if_nlt, jx_if_le, jx_if_nle, jq_eqp, jq_eqn, nI_clamp, nI_add, pk_sub, pk_mul, jn_and, jn_or, jn_xor, jq_andn, jq_shl1, jq_bit, jq_mn, jq_mx, cond_true, cond_false, jq_jt, jq_jf, jq_e1, jq_e2, jq_e3, jq_e4, Bool.not_true, Bool.not_false, jq_0, jq_1, jq_2, jq_3, jq_4, jq_5, jq_6, jq_8, jq_12, jq_16, jq_20, jq_21, jq_24, jq_30, jq_32, jq_60, jq_84, jq_1000, jq_2436, jq_20001]
  | succ k ih =>
    intro i h hi f3 f m
    have hin : i < jb_n N := by omega
    have hLi := jb_tk_t (N := N) (H := H) i i (Nat.le_refl _) hin
    have wc := jb_cp_wf w (fun r => (jb_tk N H i).testBit r)
    have m1 : h.1 30 0 1 = nI (jn_ct (fun r => (jb_tk N H i).testBit r) (jb_n N)) := m.2.1
    have hcu := jb_tk_cu (N := N) hin hLi
    have hc := jn_ct_le (fun r => (jb_tk N H i).testBit r) i
    have hcn := jn_ct_le (fun r => (jb_tk N H i).testBit r) (jb_n N)
    have hlt := jn_ct_lt (f := fun r => (jb_tk N H i).testBit r) hin hLi
    have hpw : 2 ^ jn_ct (fun r => (jb_tk N H i).testBit r) (jb_n N) ≤ 1048576 := jn_pow20 (by omega)
    have hpw0 := Nat.two_pow_pos (jn_ct (fun r => (jb_tk N H i).testBit r) (jb_n N))
    have hdl : jn_df (2 ^ jn_ct (fun r => (jb_tk N H i).testBit r) (jb_n N) - 1) (2 ^ jn_ct (fun r => (jb_tk N H i).testBit r) i) < 2 ^ jn_ct (fun r => (jb_tk N H i).testBit r) (jb_n N) := jn_df_lt (by omega)
    have hN : DM (d + 3) 142 [vr 30 0, vi (nI (jn_ct (fun r => (jb_tk N H i).testBit r) (jb_n N))), vi (nI (jn_df (2 ^ jn_ct (fun r => (jb_tk N H i).testBit r) (jb_n N) - 1) (2 ^ jn_ct (fun r => (jb_tk N H i).testBit r) i)))] h = some ([vi (nI (jb_hm N (jn_df (jb_tk N H i) (2 ^ i)) (jb_tv N)))], h) := by
      have := dm_netHoldT (d := d) wc m (T := jn_df (2 ^ jn_ct (fun r => (jb_tk N H i).testBit r) (jb_n N) - 1) (2 ^ jn_ct (fun r => (jb_tk N H i).testBit r) i)) (by omega)
      rw [jb_hm_congr (N := N) (N' := jb_cp N (fun r => (jb_tk N H i).testBit r)) (T := jn_df (jb_tk N H i) (2 ^ i)) rfl hcu] at this
      exact this
    have hall := dm_allR (d := d + 2) (n := jn_ct (fun r => (jb_tk N H i).testBit r) (jb_n N)) (h := h) (by omega) m1
    have hml : jb_hm N (jn_df (jb_tk N H i) (2 ^ i)) (jb_tv N) ≤ 1000 := by
      refine Nat.le_trans (jn_mn_le0 _) ?_
      unfold jb_tv
      split <;> omega
    by_cases e : jb_hm N (jn_df (jb_tk N H i) (2 ^ i)) (jb_tv N) = H
    · have eL : jb_tk N H (i + 1) = jn_df (jb_tk N H i) (2 ^ i) := if_pos e
      have hS' : ∀ j, (fun r => (jb_tk N H (i + 1)).testBit r) j = ((fun r => (jb_tk N H i).testBit r) j && decide (j ≠ i)) := fun j => by
        show (jb_tk N H (i + 1)).testBit j = ((jb_tk N H i).testBit j && decide (j ≠ i))
        rw [eL, jn_df_t, jn_2k]
        by_cases e3 : i = j
        · subst e3
          simp
        · have e4 : j ≠ i := fun k => e3 k.symm
          simp [e3, e4]
      obtain ⟨h2, g1, g2, g3, g4⟩ := dm_remM (d := d + 2) wc.2.1 m (r := jn_ct (fun r => (jb_tk N H i).testBit r) i) hlt
      have m2 := jb_rm_cp hin hLi hS' g2
      have hct : jn_ct (fun r => (jb_tk N H (i + 1)).testBit r) (i + 1) = jn_ct (fun r => (jb_tk N H i).testBit r) i := by
        rw [jn_ct_less hLi hS', if_pos (by omega), ← jn_ct_p (f := fun r => (jb_tk N H i).testBit r) hLi, Nat.add_sub_cancel]
      obtain ⟨h', b1, b2, b3, b4⟩ := ih (i + 1) h2 (by omega) (fun q hq => by rw [g3 q hq]; exact f3 q hq) (fun c h1 h2 => by rw [g4 c h1 h2]; exact f c h1 h2) m2
      refine ⟨h', ?_, b2, b3, b4⟩
      rw [hct, show i + 1 - jn_ct (fun r => (jb_tk N H i).testBit r) i = i - jn_ct (fun r => (jb_tk N H i).testBit r) i + 1 by omega] at b1
      rw [e156_13, m1]
      simp (disch := omega) only [jx_bI_s, jx_bL_s, jx_bV_s, eq_self, true_or, or_true, jx_if_t, jx_if_f, jq_b0, jq_b1, jq_bb, jq_b01, jx_if_in, jx_if_lt, jx_if_nlt, jx_if_le, jx_if_nle, jq_eqp, jq_eqn, nI_clamp, nI_add, pk_sub, pk_mul, jn_and, jn_or, jn_xor, jq_andn, jq_shl1, jq_bit, jq_mn, jq_mx, cond_true, cond_false, jq_jt, jq_jf, jq_e1, jq_e2, jq_e3, jq_e4, Bool.not_true, Bool.not_false, jq_0, jq_1, jq_2, jq_3, jq_4, jq_5, jq_6, jq_8, jq_12, jq_16, jq_20, jq_21, jq_24, jq_30, jq_32, jq_60, jq_84, jq_1000, jq_2436, jq_20001, hall, hN, m1, g1]
      exact b1
    · have eL : jb_tk N H (i + 1) = jb_tk N H i := if_neg e
      obtain ⟨h', b1, b2, b3, b4⟩ := ih (i + 1) h (by omega) f3 f (by rw [eL]; exact m)
      refine ⟨h', ?_, b2, b3, b4⟩
      rw [eL, ← jn_ct_p (f := fun r => (jb_tk N H i).testBit r) hLi, show i + 1 - (jn_ct (fun r => (jb_tk N H i).testBit r) i + 1) = i - jn_ct (fun r => (jb_tk N H i).testBit r) i by omega] at b1
      rw [e156_13, m1]
      simp (disch := omega) only [jx_bI_s, jx_bL_s, jx_bV_s, eq_self, true_or, or_true, jx_if_t, jx_if_f, jq_b0, jq_b1, jq_bb, jq_b01, jx_if_in, jx_if_lt, jx_if_nlt, jx_if_le, jx_if_nle, jq_eqp, jq_eqn, nI_clamp, nI_add, pk_sub, pk_mul, jn_and, jn_or, jn_xor, jq_andn, jq_shl1, jq_bit, jq_mn, jq_mx, cond_true, cond_false, jq_jt, jq_jf, jq_e1, jq_e2, jq_e3, jq_e4, Bool.not_true, Bool.not_false, jq_0, jq_1, jq_2, jq_3, jq_4, jq_5, jq_6, jq_8, jq_12, jq_16, jq_20, jq_21, jq_24, jq_30, jq_32, jq_60, jq_84, jq_1000, jq_2436, jq_20001, hall, hN, m1]
      exact b1
end
theorem jt_24 {d : Nat} {hx hm : jx_H} (I : jb_Inv hx hm) : jl_g d 73 156 [] hx hm := by
  obtain ⟨hx', hm', a1, a2, I', a4, a5, a6⟩ := jb_rem d I
  obtain ⟨N, w, x, m, h2, rd, I2, x2, P⟩ := I'.rd d
  have hp := w.1
  have hn := w.2.1
  have h20 := jn_pow20 hn
  have i20 := Nat.two_pow_pos (jb_n N)
  have hH : jb_hm N (2 ^ jb_n N - 1) (jb_tv N) ≤ 1000 := by
    refine Nat.le_trans (jn_mn_le0 _) ?_
    unfold jb_tv
    split <;> omega
  have hX := dm_holdRM (d := d + 37) w P (T := 2 ^ jb_n N - 1) (by omega)
  have hMm := dm_netHoldM (d := d + 35) w m
  generalize hHe : jb_hm N (2 ^ jb_n N - 1) (jb_tv N) = H at hH
  have hX : DM (d + 39) 44 [vr 14 0, vi (nI (2 ^ jb_n N - 1))] h2 = some ([vi (nI H)], h2) := by
    rw [← hHe]
    exact hX
  have hMm : DM (d + 39) 141 [vr 30 0] hm' = some ([vi (nI H)], hm') := by
    rw [← hHe]
    exact hMm
  have loop : F73_56 (DM (d + 39)) (nI H) (nI (jb_n N)) (nI (2 ^ jb_n N - 1)) (nI 0) h2 = F73_56 (DM (d + 39)) (nI H) (nI (jb_n N)) (nI (jb_tk N H (jb_n N))) (nI (jb_n N)) h2 := by
    refine jn_loop (fun i => F73_56 (DM (d + 39)) (nI H) (nI (jb_n N)) (nI (jb_tk N H i)) (nI i) h2) (Nat.zero_le (jb_n N)) (fun i _ hi => ?_)
    show F73_56 _ _ _ _ _ _ = F73_56 _ _ _ (nI (if _ then _ else _)) _ _
    have hl := jb_tk_lt (N := N) (H := H) i
    have hdl : jn_df (jb_tk N H i) (2 ^ i) < 2 ^ jb_n N := jn_df_lt hl
    have hR := dm_holdRM (d := d + 37) w P (T := jn_df (jb_tk N H i) (2 ^ i)) (by omega)
    have hR : DM (d + 39) 44 [vr 14 0, vi (nI (jn_df (jb_tk N H i) (2 ^ i)))] h2 = some ([vi (nI (jb_hm N (jn_df (jb_tk N H i) (2 ^ i)) (jb_tv N)))], h2) := hR
    have hml : jb_hm N (jn_df (jb_tk N H i) (2 ^ i)) (jb_tv N) ≤ 1000 := by
      refine Nat.le_trans (jn_mn_le0 _) ?_
      unfold jb_tv
      split <;> omega
    rw [e73_56]
    by_cases e : jb_hm N (jn_df (jb_tk N H i) (2 ^ i)) (jb_tv N) = H
    · rw [if_pos e]
      simp (disch := omega) only [jx_bI_s, jx_bL_s, jx_bV_s, eq_self, true_or, or_true, jx_if_t, jx_if_f, jq_b0, jq_b1, jq_bb, jq_b01, jx_if_in, jx_if_lt, jx_if_nlt, jx_if_le, jx_if_nle, jq_eqp, jq_eqn, nI_clamp, nI_add, pk_sub, pk_mul, jn_and, jn_or, jn_xor, jq_andn, jq_shl1, jq_bit, jq_mn, jq_mx, cond_true, cond_false, jq_jt, jq_jf, jq_e1, jq_e2, jq_e3, jq_e4, Bool.not_true, Bool.not_false, jq_0, jq_1, jq_2, jq_3, jq_4, jq_5, jq_6, jq_8, jq_12, jq_16, jq_20, jq_21, jq_24, jq_30, jq_32, jq_60, jq_84, jq_1000, jq_2436, jq_20001, e73_72, hR, e73_88]
    · rw [if_neg e]
      simp (disch := omega) only [jx_bI_s, jx_bL_s, jx_bV_s, eq_self, true_or, or_true, jx_if_t, jx_if_f, jq_b0, jq_b1, jq_bb, jq_b01, jx_if_in, jx_if_lt, jx_if_nlt, jx_if_le, jx_if_nle, jq_eqp, jq_eqn, nI_clamp, nI_add, pk_sub, pk_mul, jn_and, jn_or, jn_xor, jq_andn, jq_shl1, jq_bit, jq_mn, jq_mx, cond_true, cond_false, jq_jt, jq_jf, jq_e1, jq_e2, jq_e3, jq_e4, Bool.not_true, Bool.not_false, jq_0, jq_1, jq_2, jq_3, jq_4, jq_5, jq_6, jq_8, jq_12, jq_16, jq_20, jq_21, jq_24, jq_30, jq_32, jq_60, jq_84, jq_1000, jq_2436, jq_20001, e73_72, hR, e73_88]
  have hl := jb_tk_lt (N := N) (H := H) (jb_n N)
  obtain ⟨h3, b1, b2, b3⟩ := dm_leave (d := d + 37) hn x2 (M := jb_tk N H (jb_n N)) (by omega)
  obtain ⟨hm3, c1, c2, c3, c4⟩ := dm_takeM (d := d + 36) (h0 := hm') w hH (jb_n N) 0 hm' (by omega) (fun _ _ => rfl) (fun _ _ _ => rfl) (jb_cp_all (fun r hr => jn_allr hr) m)
  have hcl := jn_ct_le (fun r => (jb_tk N H (jb_n N)).testBit r) (jb_n N)
  refine ⟨nI (jb_n N - jn_ct (fun r => (jb_tk N H (jb_n N)).testBit r) (jb_n N)), h3, hm3, ?_, ?_, I2.net b3 c3 c4 ⟨_, jb_cp_wf w _, b2, c2⟩⟩
  · have e1 : h3.1 1 0 1 = nI (jn_ct (fun r => (jb_tk N H (jb_n N)).testBit r) (jb_n N)) := b2.2.1
    rw [d73, e73_0]
    simp (disch := omega) only [jx_bI_s, jx_bL_s, jx_bV_s, eq_self, true_or, or_true, jx_if_t, jx_if_f, jq_b0, jq_b1, jq_bb, jq_b01, jx_if_in, jx_if_lt, jx_if_nlt, jx_if_le, jx_if_nle, jq_eqp, jq_eqn, nI_clamp, nI_add, pk_sub, pk_mul, jn_and, jn_or, jn_xor, jq_andn, jq_shl1, jq_bit, jq_mn, jq_mx, cond_true, cond_false, jq_jt, jq_jf, jq_e1, jq_e2, jq_e3, jq_e4, Bool.not_true, Bool.not_false, jq_0, jq_1, jq_2, jq_3, jq_4, jq_5, jq_6, jq_8, jq_12, jq_16, jq_20, jq_21, jq_24, jq_30, jq_32, jq_60, jq_84, jq_1000, jq_2436, jq_20001, a1, rd, P.1.2.2.2.2.1, hX, x2.2.1, loop]
    rw [e73_56]
    simp (disch := omega) only [jx_bI_s, jx_bL_s, jx_bV_s, eq_self, true_or, or_true, jx_if_t, jx_if_f, jq_b0, jq_b1, jq_bb, jq_b01, jx_if_in, jx_if_lt, jx_if_nlt, jx_if_le, jx_if_nle, jq_eqp, jq_eqn, nI_clamp, nI_add, pk_sub, pk_mul, jn_and, jn_or, jn_xor, jq_andn, jq_shl1, jq_bit, jq_mn, jq_mx, cond_true, cond_false, jq_jt, jq_jf, jq_e1, jq_e2, jq_e3, jq_e4, Bool.not_true, Bool.not_false, jq_0, jq_1, jq_2, jq_3, jq_4, jq_5, jq_6, jq_8, jq_12, jq_16, jq_20, jq_21, jq_24, jq_30, jq_32, jq_60, jq_84, jq_1000, jq_2436, jq_20001, b1, e1]
  · rw [d156, e156_0]
    simp (disch := omega) only [jx_bI_s, jx_bL_s, jx_bV_s, eq_self, true_or, or_true, jx_if_t, jx_if_f, jq_b0, jq_b1, jq_bb, jq_b01, jx_if_in, jx_if_lt, jx_if_nlt, jx_if_le, jx_if_nle, jq_eqp, jq_eqn, nI_clamp, nI_add, pk_sub, pk_mul, jn_and, jn_or, jn_xor, jq_andn, jq_shl1, jq_bit, jq_mn, jq_mx, cond_true, cond_false, jq_jt, jq_jf, jq_e1, jq_e2, jq_e3, jq_e4, Bool.not_true, Bool.not_false, jq_0, jq_1, jq_2, jq_3, jq_4, jq_5, jq_6, jq_8, jq_12, jq_16, jq_20, jq_21, jq_24, jq_30, jq_32, jq_60, jq_84, jq_1000, jq_2436, jq_20001, a2, hMm]
    exact c1
