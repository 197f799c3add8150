/-! ===== layer 2: tell, keep, bring, as ===== -/
section
variable {d : Nat} {hx hm : jx_H}
/-- a change of what waits alone -/
theorem jb_Inv.wt {hx' hm' : jx_H} (I : jb_Inv hx hm) (a : ∀ c, c ≠ 0 → c ≠ 13 → hx'.1 c = hx.1 c) (a7 : hx'.1 0 0 7 = hx.1 0 0 7) (b : ∀ q, q ≠ 14 → hm'.1 30 0 q = hm.1 30 0 q) (c : ∀ c, c ≠ 30 → c ≠ 45 → hm'.1 c = hm.1 c) (n : jb_wait hx' hm') : jb_Inv hx' hm' := by
  obtain ⟨⟨N, w, x, m⟩, p, sl, sh, _, fd, z⟩ := I
  refine ⟨⟨N, w, x.kept (fun e h1 h2 => by rw [a e (by omega) (by omega)]), ?_⟩, p.kept (fun i _ _ e h1 h2 => by rw [a e (by omega) (by omega)]) (a 6 (by decide) (by decide)) (b 7 (by decide)) (c 38 (by decide) (by decide)), fun j hj => (sl j hj).kept (fun e h1 h2 => by rw [a e (by omega) (by omega)]) (by rw [a 9 (by decide) (by decide)]) (fun q _ _ => by rw [c 39 (by decide) (by decide)]) (by rw [c 40 (by decide) (by decide)]), fun j hj => (sh j hj).kept (by rw [a 11 (by decide) (by decide)]) (by rw [a 12 (by decide) (by decide)]) (by rw [c 41 (by decide) (by decide)]) (by rw [c 42 (by decide) (by decide)]) (fun q _ _ => by rw [c 43 (by decide) (by decide)]), n, by rw [a7, b 16 (by decide)]; exact fd, z.kept (fun e h1 h2 => a e (by omega) (by omega))⟩
  obtain ⟨n1, n2, n3, n4⟩ := m
  refine ⟨(b 0 (by decide)).trans n1, (b 1 (by decide)).trans n2, (b 2 (by decide)).trans n3, ?_⟩
  rw [c 33 (by decide) (by decide), c 34 (by decide) (by decide), c 35 (by decide) (by decide), c 36 (by decide) (by decide)]
  exact n4
theorem jt_32 (I : jb_Inv hx hm) (v : Int32) : jl_g d 96 173 [vi v] hx hm := by
  obtain ⟨k, k60, w2, w3, w4⟩ := I.2.2.2.2.1
  by_cases h60 : k = 60
  · refine ⟨-5, _, _, ?_, ?_, I.fd⟩
    · rw [d96, e96_0, w2]
      simp (disch := omega) only [jx_bI_s, jx_bL_s, jx_bV_s, eq_self, true_or, or_true, jx_if_t, jx_if_f, jq_b0, jq_b1, jq_bb, jq_b01, jx_if_in, jx_if_lt, jx_if_nlt, jx_if_le, jx_if_nle, jq_eqp, jq_eqn, nI_clamp, nI_add, pk_sub, pk_mul, jn_and, jn_or, jn_xor, jq_andn, jq_shl1, jq_bit, jq_mn, jq_mx, cond_true, cond_false, jq_jt, jq_jf, jq_e1, jq_e2, jq_e3, jq_e4, Bool.not_true, Bool.not_false, jq_0, jq_1, jq_2, jq_3, jq_4, jq_5, jq_6, jq_8, jq_12, jq_16, jq_20, jq_21, jq_24, jq_30, jq_32, jq_60, jq_84, jq_1000, jq_2436, jq_20001, dm_fx]
    · rw [d173, e173_0, w3]
      simp (disch := omega) only [jx_bI_s, jx_bL_s, jx_bV_s, eq_self, true_or, or_true, jx_if_t, jx_if_f, jq_b0, jq_b1, jq_bb, jq_b01, jx_if_in, jx_if_lt, jx_if_nlt, jx_if_le, jx_if_nle, jq_eqp, jq_eqn, nI_clamp, nI_add, pk_sub, pk_mul, jn_and, jn_or, jn_xor, jq_andn, jq_shl1, jq_bit, jq_mn, jq_mx, cond_true, cond_false, jq_jt, jq_jf, jq_e1, jq_e2, jq_e3, jq_e4, Bool.not_true, Bool.not_false, jq_0, jq_1, jq_2, jq_3, jq_4, jq_5, jq_6, jq_8, jq_12, jq_16, jq_20, jq_21, jq_24, jq_30, jq_32, jq_60, jq_84, jq_1000, jq_2436, jq_20001, dm_fm]
  · refine ⟨nI (k + 1), jx_sI (jx_sI hx 13 0 k v) 0 0 6 (nI (k + 1)), jx_sI (jx_sI hm 45 0 k v) 30 0 14 (nI (k + 1)), ?_, ?_, ?_⟩
    · rw [d96, e96_0, w2]
      simp (disch := omega) only [jx_bI_s, jx_bL_s, jx_bV_s, eq_self, true_or, or_true, jx_if_t, jx_if_f, jq_b0, jq_b1, jq_bb, jq_b01, jx_if_in, jx_if_lt, jx_if_nlt, jx_if_le, jx_if_nle, jq_eqp, jq_eqn, nI_clamp, nI_add, pk_sub, pk_mul, jn_and, jn_or, jn_xor, jq_andn, jq_shl1, jq_bit, jq_mn, jq_mx, cond_true, cond_false, jq_jt, jq_jf, jq_e1, jq_e2, jq_e3, jq_e4, Bool.not_true, Bool.not_false, jq_0, jq_1, jq_2, jq_3, jq_4, jq_5, jq_6, jq_8, jq_12, jq_16, jq_20, jq_21, jq_24, jq_30, jq_32, jq_60, jq_84, jq_1000, jq_2436, jq_20001]
    · rw [d173, e173_0, w3]
      simp (disch := omega) only [jx_bI_s, jx_bL_s, jx_bV_s, eq_self, true_or, or_true, jx_if_t, jx_if_f, jq_b0, jq_b1, jq_bb, jq_b01, jx_if_in, jx_if_lt, jx_if_nlt, jx_if_le, jx_if_nle, jq_eqp, jq_eqn, nI_clamp, nI_add, pk_sub, pk_mul, jn_and, jn_or, jn_xor, jq_andn, jq_shl1, jq_bit, jq_mn, jq_mx, cond_true, cond_false, jq_jt, jq_jf, jq_e1, jq_e2, jq_e3, jq_e4, Bool.not_true, Bool.not_false, jq_0, jq_1, jq_2, jq_3, jq_4, jq_5, jq_6, jq_8, jq_12, jq_16, jq_20, jq_21, jq_24, jq_30, jq_32, jq_60, jq_84, jq_1000, jq_2436, jq_20001]
    · refine I.wt (fun c h1 h2 => by rw [jx_sk h1, jx_sk h2]) (by rw [jx_sp (by decide), jx_sk (by decide)]) (fun q hq => by rw [jx_sp hq, jx_sk (by decide)]) (fun c h1 h2 => by rw [jx_sk h1, jx_sk h2]) ⟨k + 1, by omega, jx_ss, jx_ss, fun i hi => ?_⟩
      rw [jx_sk (by decide), jx_sv, jx_sk (by decide), jx_sv]
      by_cases e : i = k
      · rw [if_pos e, if_pos e]
      · rw [if_neg e, if_neg e]
        exact w4 i (by omega)
/-- slots: kinds alike -/
theorem jb_Inv.sl (I : jb_Inv hx hm) {hx' hm' : jx_H} {s : Nat} (hs : s < 4) (a : ∀ c i, ¬ (1 ≤ c ∧ c ≤ 5 ∧ i = 31 + s) → c ≠ 9 → hx'.1 c i = hx.1 c i) (a9 : ∀ q, q ≠ s → hx'.1 9 0 q = hx.1 9 0 q) (c : ∀ c, c ≠ 39 → c ≠ 40 → hm'.1 c = hm.1 c) (c39 : ∀ q, q < 84 * s ∨ 84 * s + 84 ≤ q → hm'.1 39 0 q = hm.1 39 0 q) (c40 : ∀ q, q ≠ s → hm'.1 40 0 q = hm.1 40 0 q) (n : jb_slot hx' hm' s) : jb_Inv hx' hm' := by
  obtain ⟨⟨N, w, x, m⟩, p, sl, sh, wt, fd, z⟩ := I
  have a' : ∀ c, ¬ (1 ≤ c ∧ c ≤ 5) → c ≠ 9 → hx'.1 c = hx.1 c := fun c h1 h2 => funext (fun i => a c i (fun k => h1 ⟨k.1, k.2.1⟩) h2)
  refine ⟨⟨N, w, x.kept (fun e h1 h2 => a e 0 (by omega) (by omega)), ?_⟩, p.kept (fun i h1 h2 e h3 h4 => a e i (by omega) (by omega)) (a' 6 (by omega) (by decide)) (by rw [c 30 (by decide) (by decide)]) (c 38 (by decide) (by decide)), fun j hj => ?_, fun j hj => (sh j hj).kept (by rw [a' 11 (by omega) (by decide)]) (by rw [a' 12 (by omega) (by decide)]) (by rw [c 41 (by decide) (by decide)]) (by rw [c 42 (by decide) (by decide)]) (fun q _ _ => by rw [c 43 (by decide) (by decide)]), wt.kept (by rw [a' 0 (by omega) (by decide)]) (a' 13 (by omega) (by decide)) (by rw [c 30 (by decide) (by decide)]) (c 45 (by decide) (by decide)), by rw [a' 0 (by omega) (by decide), c 30 (by decide) (by decide)]; exact fd, z.kept (fun e h1 h2 => a' e (by omega) (by omega))⟩
  · unfold jb_M at *
    rw [c 30 (by decide) (by decide), c 33 (by decide) (by decide), c 34 (by decide) (by decide), c 35 (by decide) (by decide), c 36 (by decide) (by decide)]
    exact m
  · by_cases e : j = s
    · rw [e]; exact n
    · exact (sl j hj).kept (fun e h1 h2 => a e _ (by omega) (by omega)) (a9 j e) (fun q h1 h2 => c39 q (by omega)) (c40 j e)
theorem jt_35 (I : jb_Inv hx hm) (a : Int32) : jl_g d 102 176 [vi a] hx hm := by
  have I0 := I
  obtain ⟨⟨N, w, x, m⟩, r1, r2, r3, r4, r5, z⟩ := I
  have hp := w.1
  have hn := w.2.1
  have h8 := jn_pow8 hp
  have h20 := jn_pow20 hn
  have i20 := Nat.two_pow_pos (jb_n N)
  cases ha : jb_ip 4 a
  · refine ⟨-1, _, _, ?_, ?_, I0.fd⟩
    · rw [d102, e102_0]
      simp (disch := omega) only [jx_bI_s, jx_bL_s, jx_bV_s, eq_self, true_or, or_true, jx_if_t, jx_if_f, jq_b0, jq_b1, jq_bb, jq_b01, jx_if_in, jx_if_lt, jx_if_nlt, jx_if_le, jx_if_nle, jq_eqp, jq_eqn, nI_clamp, nI_add, pk_sub, pk_mul, jn_and, jn_or, jn_xor, jq_andn, jq_shl1, jq_bit, jq_mn, jq_mx, cond_true, cond_false, jq_jt, jq_jf, jq_e1, jq_e2, jq_e3, jq_e4, Bool.not_true, Bool.not_false, jq_0, jq_1, jq_2, jq_3, jq_4, jq_5, jq_6, jq_8, jq_12, jq_16, jq_20, jq_21, jq_24, jq_30, jq_32, jq_60, jq_84, jq_1000, jq_2436, jq_20001, dm_noSlot a, ha, dm_fx]
    · rw [d176, e176_0]
      simp (disch := omega) only [jx_bI_s, jx_bL_s, jx_bV_s, eq_self, true_or, or_true, jx_if_t, jx_if_f, jq_b0, jq_b1, jq_bb, jq_b01, jx_if_in, jx_if_lt, jx_if_nlt, jx_if_le, jx_if_nle, jq_eqp, jq_eqn, nI_clamp, nI_add, pk_sub, pk_mul, jn_and, jn_or, jn_xor, jq_andn, jq_shl1, jq_bit, jq_mn, jq_mx, cond_true, cond_false, jq_jt, jq_jf, jq_e1, jq_e2, jq_e3, jq_e4, Bool.not_true, Bool.not_false, jq_0, jq_1, jq_2, jq_3, jq_4, jq_5, jq_6, jq_8, jq_12, jq_16, jq_20, jq_21, jq_24, jq_30, jq_32, jq_60, jq_84, jq_1000, jq_2436, jq_20001, dm_isSlot a, ha, dm_fm]
  obtain ⟨s, hs, rfl⟩ := jb_ip_t (by omega) ha
  obtain ⟨h1, b1, b2, b3⟩ := dm_become (d := d + 38) (i0 := 31 + s) (i1 := 0) (by omega) hn x
  obtain ⟨g1, c1, c2, c3⟩ := dm_saveb (d := d + 38) w m (a := 84 * s) (by omega)
  have x1 : jb_X h1 0 N := x.kept (fun c h1 h2 => b3 c 0 (by omega))
  have b3' : ∀ c, ¬ (1 ≤ c ∧ c ≤ 5) → h1.1 c = hx.1 c := fun c hc => funext (fun i => b3 c i (fun k => hc ⟨k.1, k.2.1⟩))
  have m1 : jb_M g1 N := jb_M38 (c := 39) (by decide) m c3.1
  have z1 : jb_zero h1 := z.kept (fun c h1 h2 => b3' c (by omega))
  -- the kind
  have key : ∃ q h2, q < 4 ∧ DM (d + 39) 104 [vr 0 0] h1 = some ([vi (nI q)], h2) ∧ jb_SX h1 h2 ∧ DM (d + 40) 176 [vr 30 0, vi (nI s)] hm = some ([vi (nI q)], jx_sI g1 40 0 s (nI q)) := by
    cases ht : jb_t N
    · obtain ⟨h2, e1, e2, e3⟩ := dm_read (d := d + 36) w z1 x1
      obtain ⟨B, k1, k2⟩ := dm_hardX (d := d + 36) w e3 (T := 2 ^ jb_n N - 1) (k := 2) (by omega) (by decide)
      obtain ⟨C, l1, l2⟩ := dm_hangsX (d := d + 37) w e3 (T := 2 ^ jb_n N - 1) (by omega)
      obtain ⟨C', o1, o2⟩ := dm_hangsM (d := d + 36) (W := 0) w m1 (T := 2 ^ jb_n N - 1) (by omega) (by omega)
      have eC : C' = C := by
        rw [Bool.eq_iff_iff, l2, o2]
      subst eC
      have hH := dm_netHoldM (d := d + 35) w m1
      have tail : ∀ c : Bool, F176_49 (DM (d + 39)) (nI s) (jn_b c) g1 = some ([vi (nI (bif B then 2 else bif c then 1 else 0))], jx_sI g1 40 0 s (nI (bif B then 2 else bif c then 1 else 0))) := by
        intro c
        rw [e176_49, m1.2.2.1, ht]
        by_cases hp1 : jb_p N ≤ 1
        · have hB : B = false := by
            cases B with
            | false => rfl
            | true => have := (k2.1 rfl).1; omega
          subst hB
          cases c <;> simp (disch := omega) only [jx_bI_s, jx_bL_s, jx_bV_s, eq_self, true_or, or_true, jx_if_t, jx_if_f, jq_b0, jq_b1, jq_bb, jq_b01, jx_if_in, jx_if_lt, jx_if_nlt, jx_if_le, jx_if_nle, jq_eqp, jq_eqn, nI_clamp, nI_add, pk_sub, pk_mul, jn_and, jn_or, jn_xor, jq_andn, jq_shl1, jq_bit, jq_mn, jq_mx, cond_true, cond_false, jq_jt, jq_jf, jq_e1, jq_e2, jq_e3, jq_e4, Bool.not_true, Bool.not_false, jq_0, jq_1, jq_2, jq_3, jq_4, jq_5, jq_6, jq_8, jq_12, jq_16, jq_20, jq_21, jq_24, jq_30, jq_32, jq_60, jq_84, jq_1000, jq_2436, jq_20001, m1.1, e176_93, e176_102, jx_ss]
        · have hif : (if jb_p N < 2 then 0 else 1000) = 1000 := if_neg (by omega)
          rw [hif] at hH
          have hml := jn_mn_le0 (ok := fun X => decide (1 ≤ X)) (c := fun X => jb_cu N X (2 ^ jb_n N - 1)) (v := 1000) (2 ^ jb_p N - 1)
          have hml : jb_hm N (2 ^ jb_n N - 1) 1000 ≤ 1000 := hml
          cases B
          · have hlt : jb_hm N (2 ^ jb_n N - 1) 1000 < 2 := by
              apply Classical.byContradiction
              intro k
              have := k2.2 ⟨by omega, by omega⟩
              cases this
            cases c <;> simp (disch := omega) only [jx_bI_s, jx_bL_s, jx_bV_s, eq_self, true_or, or_true, jx_if_t, jx_if_f, jq_b0, jq_b1, jq_bb, jq_b01, jx_if_in, jx_if_lt, jx_if_nlt, jx_if_le, jx_if_nle, jq_eqp, jq_eqn, nI_clamp, nI_add, pk_sub, pk_mul, jn_and, jn_or, jn_xor, jq_andn, jq_shl1, jq_bit, jq_mn, jq_mx, cond_true, cond_false, jq_jt, jq_jf, jq_e1, jq_e2, jq_e3, jq_e4, Bool.not_true, Bool.not_false, jq_0, jq_1, jq_2, jq_3, jq_4, jq_5, jq_6, jq_8, jq_12, jq_16, jq_20, jq_21, jq_24, jq_30, jq_32, jq_60, jq_84, jq_1000, jq_2436, jq_20001, m1.1, hH, e176_93, e176_102, jx_ss]
          · have hge := (k2.1 rfl).2
            cases c <;> simp (disch := omega) only [jx_bI_s, jx_bL_s, jx_bV_s, eq_self, true_or, or_true, jx_if_t, jx_if_f, jq_b0, jq_b1, jq_bb, jq_b01, jx_if_in, jx_if_lt, jx_if_nlt, jx_if_le, jx_if_nle, jq_eqp, jq_eqn, nI_clamp, nI_add, pk_sub, pk_mul, jn_and, jn_or, jn_xor, jq_andn, jq_shl1, jq_bit, jq_mn, jq_mx, cond_true, cond_false, jq_jt, jq_jf, jq_e1, jq_e2, jq_e3, jq_e4, Bool.not_true, Bool.not_false, jq_0, jq_1, jq_2, jq_3, jq_4, jq_5, jq_6, jq_8, jq_12, jq_16, jq_20, jq_21, jq_24, jq_30, jq_32, jq_60, jq_84, jq_1000, jq_2436, jq_20001, m1.1, hH, e176_102, jx_ss]
      refine ⟨bif B then 2 else bif C' then 1 else 0, h2, by cases B <;> cases C' <;> decide, ?_, e2.SX, ?_⟩
      · rw [d104, e104_0, x1.2.2.1, ht]
        cases B
        · cases C' <;> simp (disch := omega) only [jx_bI_s, jx_bL_s, jx_bV_s, eq_self, true_or, or_true, jx_if_t, jx_if_f, jq_b0, jq_b1, jq_bb, jq_b01, jx_if_in, jx_if_lt, jx_if_nlt, jx_if_le, jx_if_nle, jq_eqp, jq_eqn, nI_clamp, nI_add, pk_sub, pk_mul, jn_and, jn_or, jn_xor, jq_andn, jq_shl1, jq_bit, jq_mn, jq_mx, cond_true, cond_false, jq_jt, jq_jf, jq_e1, jq_e2, jq_e3, jq_e4, Bool.not_true, Bool.not_false, jq_0, jq_1, jq_2, jq_3, jq_4, jq_5, jq_6, jq_8, jq_12, jq_16, jq_20, jq_21, jq_24, jq_30, jq_32, jq_60, jq_84, jq_1000, jq_2436, jq_20001, e1, e3.1.2.2.2.2.1, k1, l1, e104_65]
        · simp (disch := omega) only [jx_bI_s, jx_bL_s, jx_bV_s, eq_self, true_or, or_true, jx_if_t, jx_if_f, jq_b0, jq_b1, jq_bb, jq_b01, jx_if_in, jx_if_lt, jx_if_nlt, jx_if_le, jx_if_nle, jq_eqp, jq_eqn, nI_clamp, nI_add, pk_sub, pk_mul, jn_and, jn_or, jn_xor, jq_andn, jq_shl1, jq_bit, jq_mn, jq_mx, cond_true, cond_false, jq_jt, jq_jf, jq_e1, jq_e2, jq_e3, jq_e4, Bool.not_true, Bool.not_false, jq_0, jq_1, jq_2, jq_3, jq_4, jq_5, jq_6, jq_8, jq_12, jq_16, jq_20, jq_21, jq_24, jq_30, jq_32, jq_60, jq_84, jq_1000, jq_2436, jq_20001, e1, e3.1.2.2.2.2.1, k1]
      · rw [d176, e176_0]
        have t := tail C'
        cases C'
        · simp (disch := omega) only [jx_bI_s, jx_bL_s, jx_bV_s, eq_self, true_or, or_true, jx_if_t, jx_if_f, jq_b0, jq_b1, jq_bb, jq_b01, jx_if_in, jx_if_lt, jx_if_nlt, jx_if_le, jx_if_nle, jq_eqp, jq_eqn, nI_clamp, nI_add, pk_sub, pk_mul, jn_and, jn_or, jn_xor, jq_andn, jq_shl1, jq_bit, jq_mn, jq_mx, cond_true, cond_false, jq_jt, jq_jf, jq_e1, jq_e2, jq_e3, jq_e4, Bool.not_true, Bool.not_false, jq_0, jq_1, jq_2, jq_3, jq_4, jq_5, jq_6, jq_8, jq_12, jq_16, jq_20, jq_21, jq_24, jq_30, jq_32, jq_60, jq_84, jq_1000, jq_2436, jq_20001, dm_isSlot _, ha, c1, m1.2.2.1, ht, dm_allR (n := jb_n N) (by omega) m1.2.1, o1, e176_48]
          exact t
        · simp (disch := omega) only [jx_bI_s, jx_bL_s, jx_bV_s, eq_self, true_or, or_true, jx_if_t, jx_if_f, jq_b0, jq_b1, jq_bb, jq_b01, jx_if_in, jx_if_lt, jx_if_nlt, jx_if_le, jx_if_nle, jq_eqp, jq_eqn, nI_clamp, nI_add, pk_sub, pk_mul, jn_and, jn_or, jn_xor, jq_andn, jq_shl1, jq_bit, jq_mn, jq_mx, cond_true, cond_false, jq_jt, jq_jf, jq_e1, jq_e2, jq_e3, jq_e4, Bool.not_true, Bool.not_false, jq_0, jq_1, jq_2, jq_3, jq_4, jq_5, jq_6, jq_8, jq_12, jq_16, jq_20, jq_21, jq_24, jq_30, jq_32, jq_60, jq_84, jq_1000, jq_2436, jq_20001, dm_isSlot _, ha, c1, m1.2.2.1, ht, dm_allR (n := jb_n N) (by omega) m1.2.1, o1, e176_48]
          exact t
    · refine ⟨3, h1, by decide, ?_, jb_SX.rf, ?_⟩
      · rw [d104, e104_0, x1.2.2.1, ht]
        simp (disch := omega) only [jx_bI_s, jx_bL_s, jx_bV_s, eq_self, true_or, or_true, jx_if_t, jx_if_f, jq_b0, jq_b1, jq_bb, jq_b01, jx_if_in, jx_if_lt, jx_if_nlt, jx_if_le, jx_if_nle, jq_eqp, jq_eqn, nI_clamp, nI_add, pk_sub, pk_mul, jn_and, jn_or, jn_xor, jq_andn, jq_shl1, jq_bit, jq_mn, jq_mx, cond_true, cond_false, jq_jt, jq_jf, jq_e1, jq_e2, jq_e3, jq_e4, Bool.not_true, Bool.not_false, jq_0, jq_1, jq_2, jq_3, jq_4, jq_5, jq_6, jq_8, jq_12, jq_16, jq_20, jq_21, jq_24, jq_30, jq_32, jq_60, jq_84, jq_1000, jq_2436, jq_20001]
      · rw [d176, e176_0]
        simp (disch := omega) only [jx_bI_s, jx_bL_s, jx_bV_s, eq_self, true_or, or_true, jx_if_t, jx_if_f, jq_b0, jq_b1, jq_bb, jq_b01, jx_if_in, jx_if_lt, jx_if_nlt, jx_if_le, jx_if_nle, jq_eqp, jq_eqn, nI_clamp, nI_add, pk_sub, pk_mul, jn_and, jn_or, jn_xor, jq_andn, jq_shl1, jq_bit, jq_mn, jq_mx, cond_true, cond_false, jq_jt, jq_jf, jq_e1, jq_e2, jq_e3, jq_e4, Bool.not_true, Bool.not_false, jq_0, jq_1, jq_2, jq_3, jq_4, jq_5, jq_6, jq_8, jq_12, jq_16, jq_20, jq_21, jq_24, jq_30, jq_32, jq_60, jq_84, jq_1000, jq_2436, jq_20001, dm_isSlot _, ha, c1, m1.2.2.1, ht, e176_48, e176_49, e176_102, jx_ss]
  obtain ⟨q, h2, q4, k1, k2, k3⟩ := key
  have J : jb_Inv (jx_sI h1 9 0 s (nI q)) (jx_sI g1 40 0 s (nI q)) := by
    refine I0.sl hs (fun c i h3 h4 => by rw [jx_sk h4]; exact b3 c i h3) (fun p hp => by rw [jx_sp hp, b3' 9 (by omega)]) (fun c h3 h4 => by rw [jx_sk h4]; exact c3.1 c h3) (fun p hp => by rw [jx_sk (by decide)]; exact c3.2 p hp) (fun p hp => by rw [jx_sp hp, c3.1 40 (by decide)]) (Or.inr ⟨q, N, q4, jx_ss, jx_ss, w, b2.kept (fun c h3 h4 => by rw [jx_sk (by omega)]), c2.kept hn (fun p _ _ => by rw [jx_sk (by decide)])⟩)
  have SXq : jb_SX (jx_sI h1 9 0 s (nI q)) (jx_sI h2 9 0 s (nI q)) := by
    refine ⟨fun c hc => ?_, fun zz => ?_⟩
    · funext b p
      rw [jx_s1, jx_s1, k2.1 c hc]
    · unfold jb_zero at *
      rw [jx_sk (by decide), jx_sk (by decide), jx_sk (by decide), jx_sk (by decide)] at zz ⊢
      exact k2.2 zz
  refine ⟨nI q, jx_sI h2 9 0 s (nI q), jx_sI g1 40 0 s (nI q), ?_, k3, J.sx SXq jb_SM.rf⟩
  rw [d102, e102_0]
  simp (disch := omega) only [jx_bI_s, jx_bL_s, jx_bV_s, eq_self, true_or, or_true, jx_if_t, jx_if_f, jq_b0, jq_b1, jq_bb, jq_b01, jx_if_in, jx_if_lt, jx_if_nlt, jx_if_le, jx_if_nle, jq_eqp, jq_eqn, nI_clamp, nI_add, pk_sub, pk_mul, jn_and, jn_or, jn_xor, jq_andn, jq_shl1, jq_bit, jq_mn, jq_mx, cond_true, cond_false, jq_jt, jq_jf, jq_e1, jq_e2, jq_e3, jq_e4, Bool.not_true, Bool.not_false, jq_0, jq_1, jq_2, jq_3, jq_4, jq_5, jq_6, jq_8, jq_12, jq_16, jq_20, jq_21, jq_24, jq_30, jq_32, jq_60, jq_84, jq_1000, jq_2436, jq_20001, dm_noSlot _, ha, b1, k1, jx_ss]
theorem jb_slot_neg {j : Nat} (s : jb_slot hx hm j) : (hx.1 9 0 j = -1 ∧ hm.1 40 0 j = -1) ∨ ∃ q N, q < 4 ∧ hx.1 9 0 j = nI q ∧ hm.1 40 0 j = nI q ∧ jb_wf N ∧ jb_X hx (31 + j) N ∧ jb_S hm 39 (84 * j) N := s
theorem jq_m1 {q : Nat} (hq : q < 4) {a b : Option jx_R} : jx_if (nI q = -nI 1) a b = b := jx_ifn (fun e => by
  have := nI_pos (n := q) (by omega)
  rw [e] at this
  exact this (by decide))
theorem jt_36 (I : jb_Inv hx hm) (a : Int32) : jl_g d 105 178 [vi a] hx hm := by
  obtain ⟨N, w, x, m⟩ := I.1
  have hp := w.1
  have hn := w.2.1
  cases ha : jb_ip 4 a
  · refine ⟨-1, _, _, ?_, ?_, I.fd⟩
    · rw [d105, e105_0]
      simp (disch := omega) only [jx_bI_s, jx_bL_s, jx_bV_s, eq_self, true_or, or_true, jx_if_t, jx_if_f, jq_b0, jq_b1, jq_bb, jq_b01, jx_if_in, jx_if_lt, jx_if_nlt, jx_if_le, jx_if_nle, jq_eqp, jq_eqn, nI_clamp, nI_add, pk_sub, pk_mul, jn_and, jn_or, jn_xor, jq_andn, jq_shl1, jq_bit, jq_mn, jq_mx, cond_true, cond_false, jq_jt, jq_jf, jq_e1, jq_e2, jq_e3, jq_e4, Bool.not_true, Bool.not_false, jq_0, jq_1, jq_2, jq_3, jq_4, jq_5, jq_6, jq_8, jq_12, jq_16, jq_20, jq_21, jq_24, jq_30, jq_32, jq_60, jq_84, jq_1000, jq_2436, jq_20001, dm_noSlot a, ha, dm_fx]
    · rw [d178, e178_0]
      simp (disch := omega) only [jx_bI_s, jx_bL_s, jx_bV_s, eq_self, true_or, or_true, jx_if_t, jx_if_f, jq_b0, jq_b1, jq_bb, jq_b01, jx_if_in, jx_if_lt, jx_if_nlt, jx_if_le, jx_if_nle, jq_eqp, jq_eqn, nI_clamp, nI_add, pk_sub, pk_mul, jn_and, jn_or, jn_xor, jq_andn, jq_shl1, jq_bit, jq_mn, jq_mx, cond_true, cond_false, jq_jt, jq_jf, jq_e1, jq_e2, jq_e3, jq_e4, Bool.not_true, Bool.not_false, jq_0, jq_1, jq_2, jq_3, jq_4, jq_5, jq_6, jq_8, jq_12, jq_16, jq_20, jq_21, jq_24, jq_30, jq_32, jq_60, jq_84, jq_1000, jq_2436, jq_20001, dm_isSlot a, ha, dm_fm]
  obtain ⟨s, hs, rfl⟩ := jb_ip_t (by omega) ha
  rcases I.2.2.1 s hs with ⟨s1, s2⟩ | ⟨q, N', q4, s1, s2, w', X', S'⟩
  · refine ⟨-6, _, _, ?_, ?_, I.fd⟩
    · rw [d105, e105_0]
      simp (disch := omega) only [jx_bI_s, jx_bL_s, jx_bV_s, eq_self, true_or, or_true, jx_if_t, jx_if_f, jq_b0, jq_b1, jq_bb, jq_b01, jx_if_in, jx_if_lt, jx_if_nlt, jx_if_le, jx_if_nle, jq_eqp, jq_eqn, nI_clamp, nI_add, pk_sub, pk_mul, jn_and, jn_or, jn_xor, jq_andn, jq_shl1, jq_bit, jq_mn, jq_mx, cond_true, cond_false, jq_jt, jq_jf, jq_e1, jq_e2, jq_e3, jq_e4, Bool.not_true, Bool.not_false, jq_0, jq_1, jq_2, jq_3, jq_4, jq_5, jq_6, jq_8, jq_12, jq_16, jq_20, jq_21, jq_24, jq_30, jq_32, jq_60, jq_84, jq_1000, jq_2436, jq_20001, dm_noSlot _, ha, s1, dm_fx]
    · have lt : ∀ a b : Option jx_R, jx_if (-nI 1 < nI 0) a b = a := fun a b => jx_ifp (by decide)
      rw [d178, e178_0]
      simp (disch := omega) only [jx_bI_s, jx_bL_s, jx_bV_s, eq_self, true_or, or_true, jx_if_t, jx_if_f, jq_b0, jq_b1, jq_bb, jq_b01, jx_if_in, jx_if_lt, jx_if_nlt, jx_if_le, jx_if_nle, jq_eqp, jq_eqn, nI_clamp, nI_add, pk_sub, pk_mul, jn_and, jn_or, jn_xor, jq_andn, jq_shl1, jq_bit, jq_mn, jq_mx, cond_true, cond_false, jq_jt, jq_jf, jq_e1, jq_e2, jq_e3, jq_e4, Bool.not_true, Bool.not_false, jq_0, jq_1, jq_2, jq_3, jq_4, jq_5, jq_6, jq_8, jq_12, jq_16, jq_20, jq_21, jq_24, jq_30, jq_32, jq_60, jq_84, jq_1000, jq_2436, jq_20001, dm_isSlot _, ha, s2, lt, dm_fm]
  · obtain ⟨hx', hm', a1, a2, I', x', m', fx, fm, fc, fi⟩ := I.chg d x m
    obtain ⟨h1, b1, b2, b3⟩ := dm_become (d := d + 38) (N := N') (h := hx') (i0 := 0) (i1 := 31 + s) (by omega) w'.2.1 (X'.kept (fun c h1 h2 => fi c (31 + s) (by omega) (by omega)))
    obtain ⟨h2, c1, c2, c3, c4⟩ := dm_loadb (d := d + 38) (N := N') (h0 := hm') w' (a := 84 * s) (by omega) (S'.kept w'.2.1 (fun q _ _ => by rw [fc 39 (by decide) (by decide)]))
    refine ⟨nI (jb_p N'), h1, h2, ?_, ?_, I'.net b3 c3 c4 ⟨N', w', b2, c2⟩⟩
    · rw [d105, e105_0]
      simp (disch := omega) only [jx_bI_s, jx_bL_s, jx_bV_s, eq_self, true_or, or_true, jx_if_t, jx_if_f, jq_b0, jq_b1, jq_bb, jq_b01, jx_if_in, jx_if_lt, jx_if_nlt, jx_if_le, jx_if_nle, jq_eqp, jq_eqn, nI_clamp, nI_add, pk_sub, pk_mul, jn_and, jn_or, jn_xor, jq_andn, jq_shl1, jq_bit, jq_mn, jq_mx, cond_true, cond_false, jq_jt, jq_jf, jq_e1, jq_e2, jq_e3, jq_e4, Bool.not_true, Bool.not_false, jq_0, jq_1, jq_2, jq_3, jq_4, jq_5, jq_6, jq_8, jq_12, jq_16, jq_20, jq_21, jq_24, jq_30, jq_32, jq_60, jq_84, jq_1000, jq_2436, jq_20001, dm_noSlot _, ha, s1, jq_m1 q4, a1, b1, b2.1]
    · rw [d178, e178_0]
      simp (disch := omega) only [jx_bI_s, jx_bL_s, jx_bV_s, eq_self, true_or, or_true, jx_if_t, jx_if_f, jq_b0, jq_b1, jq_bb, jq_b01, jx_if_in, jx_if_lt, jx_if_nlt, jx_if_le, jx_if_nle, jq_eqp, jq_eqn, nI_clamp, nI_add, pk_sub, pk_mul, jn_and, jn_or, jn_xor, jq_andn, jq_shl1, jq_bit, jq_mn, jq_mx, cond_true, cond_false, jq_jt, jq_jf, jq_e1, jq_e2, jq_e3, jq_e4, Bool.not_true, Bool.not_false, jq_0, jq_1, jq_2, jq_3, jq_4, jq_5, jq_6, jq_8, jq_12, jq_16, jq_20, jq_21, jq_24, jq_30, jq_32, jq_60, jq_84, jq_1000, jq_2436, jq_20001, dm_isSlot _, ha, s2, a2, c1, c2.1]
theorem jt_37 (I : jb_Inv hx hm) (a k : Int32) : jl_g d 106 179 [vi a, vi k] hx hm := by
  cases ha : jb_ip 4 a
  · refine ⟨-1, _, _, ?_, ?_, I.fd⟩
    · rw [d106, e106_0]
      simp (disch := omega) only [jx_bI_s, jx_bL_s, jx_bV_s, eq_self, true_or, or_true, jx_if_t, jx_if_f, jq_b0, jq_b1, jq_bb, jq_b01, jx_if_in, jx_if_lt, jx_if_nlt, jx_if_le, jx_if_nle, jq_eqp, jq_eqn, nI_clamp, nI_add, pk_sub, pk_mul, jn_and, jn_or, jn_xor, jq_andn, jq_shl1, jq_bit, jq_mn, jq_mx, cond_true, cond_false, jq_jt, jq_jf, jq_e1, jq_e2, jq_e3, jq_e4, Bool.not_true, Bool.not_false, jq_0, jq_1, jq_2, jq_3, jq_4, jq_5, jq_6, jq_8, jq_12, jq_16, jq_20, jq_21, jq_24, jq_30, jq_32, jq_60, jq_84, jq_1000, jq_2436, jq_20001, dm_noSlot a, ha, e106_19, dm_fx]
    · rw [d179, e179_0]
      simp (disch := omega) only [jx_bI_s, jx_bL_s, jx_bV_s, eq_self, true_or, or_true, jx_if_t, jx_if_f, jq_b0, jq_b1, jq_bb, jq_b01, jx_if_in, jx_if_lt, jx_if_nlt, jx_if_le, jx_if_nle, jq_eqp, jq_eqn, nI_clamp, nI_add, pk_sub, pk_mul, jn_and, jn_or, jn_xor, jq_andn, jq_shl1, jq_bit, jq_mn, jq_mx, cond_true, cond_false, jq_jt, jq_jf, jq_e1, jq_e2, jq_e3, jq_e4, Bool.not_true, Bool.not_false, jq_0, jq_1, jq_2, jq_3, jq_4, jq_5, jq_6, jq_8, jq_12, jq_16, jq_20, jq_21, jq_24, jq_30, jq_32, jq_60, jq_84, jq_1000, jq_2436, jq_20001, dm_isSlot a, ha, e179_16, dm_fm]
  obtain ⟨s, hs, rfl⟩ := jb_ip_t (by omega) ha
  rcases pk_ix k (n := 4) (by decide) with hk | hk | ⟨j, hj, rfl⟩
  · refine ⟨-1, _, _, ?_, ?_, I.fd⟩
    · rw [d106, e106_0]
      simp (disch := omega) only [jx_bI_s, jx_bL_s, jx_bV_s, eq_self, true_or, or_true, jx_if_t, jx_if_f, jq_b0, jq_b1, jq_bb, jq_b01, jx_if_in, jx_if_lt, jx_if_nlt, jx_if_le, jx_if_nle, jq_eqp, jq_eqn, nI_clamp, nI_add, pk_sub, pk_mul, jn_and, jn_or, jn_xor, jq_andn, jq_shl1, jq_bit, jq_mn, jq_mx, cond_true, cond_false, jq_jt, jq_jf, jq_e1, jq_e2, jq_e3, jq_e4, Bool.not_true, Bool.not_false, jq_0, jq_1, jq_2, jq_3, jq_4, jq_5, jq_6, jq_8, jq_12, jq_16, jq_20, jq_21, jq_24, jq_30, jq_32, jq_60, jq_84, jq_1000, jq_2436, jq_20001, dm_noSlot _, ha, jx_ifp (show k < nI 0 from hk), e106_19, dm_fx]
    · rw [d179, e179_0]
      simp (disch := omega) only [jx_bI_s, jx_bL_s, jx_bV_s, eq_self, true_or, or_true, jx_if_t, jx_if_f, jq_b0, jq_b1, jq_bb, jq_b01, jx_if_in, jx_if_lt, jx_if_nlt, jx_if_le, jx_if_nle, jq_eqp, jq_eqn, nI_clamp, nI_add, pk_sub, pk_mul, jn_and, jn_or, jn_xor, jq_andn, jq_shl1, jq_bit, jq_mn, jq_mx, cond_true, cond_false, jq_jt, jq_jf, jq_e1, jq_e2, jq_e3, jq_e4, Bool.not_true, Bool.not_false, jq_0, jq_1, jq_2, jq_3, jq_4, jq_5, jq_6, jq_8, jq_12, jq_16, jq_20, jq_21, jq_24, jq_30, jq_32, jq_60, jq_84, jq_1000, jq_2436, jq_20001, dm_isSlot _, ha, jx_ifp (show k < nI 0 from hk), e179_16, dm_fm]
  · have k0 : ¬ k < nI 0 := fun c => by
      rw [Int32.lt_iff_toInt_lt] at c
      rw [Int32.le_iff_toInt_le] at hk
      have e0 : (nI 0).toInt = 0 := by decide
      have e1 : (nI 4).toInt = 4 := by decide
      omega
    have k3 : ¬ k ≤ nI 3 := fun c => by
      rw [Int32.le_iff_toInt_le] at c
      rw [Int32.le_iff_toInt_le] at hk
      have e0 : (nI 3).toInt = 3 := by decide
      have e1 : (nI 4).toInt = 4 := by decide
      omega
    have k4 : ¬ k < nI 4 := fun c => by
      rw [Int32.lt_iff_toInt_lt] at c
      rw [Int32.le_iff_toInt_le] at hk
      omega
    refine ⟨-1, _, _, ?_, ?_, I.fd⟩
    · rw [d106, e106_0]
      simp (disch := omega) only [jx_bI_s, jx_bL_s, jx_bV_s, eq_self, true_or, or_true, jx_if_t, jx_if_f, jq_b0, jq_b1, jq_bb, jq_b01, jx_if_in, jx_if_lt, jx_if_nlt, jx_if_le, jx_if_nle, jq_eqp, jq_eqn, nI_clamp, nI_add, pk_sub, pk_mul, jn_and, jn_or, jn_xor, jq_andn, jq_shl1, jq_bit, jq_mn, jq_mx, cond_true, cond_false, jq_jt, jq_jf, jq_e1, jq_e2, jq_e3, jq_e4, Bool.not_true, Bool.not_false, jq_0, jq_1, jq_2, jq_3, jq_4, jq_5, jq_6, jq_8, jq_12, jq_16, jq_20, jq_21, jq_24, jq_30, jq_32, jq_60, jq_84, jq_1000, jq_2436, jq_20001, dm_noSlot _, ha, jx_ifn k0, jx_ifn k4, e106_19, dm_fx]
    · rw [d179, e179_0]
      simp (disch := omega) only [jx_bI_s, jx_bL_s, jx_bV_s, eq_self, true_or, or_true, jx_if_t, jx_if_f, jq_b0, jq_b1, jq_bb, jq_b01, jx_if_in, jx_if_lt, jx_if_nlt, jx_if_le, jx_if_nle, jq_eqp, jq_eqn, nI_clamp, nI_add, pk_sub, pk_mul, jn_and, jn_or, jn_xor, jq_andn, jq_shl1, jq_bit, jq_mn, jq_mx, cond_true, cond_false, jq_jt, jq_jf, jq_e1, jq_e2, jq_e3, jq_e4, Bool.not_true, Bool.not_false, jq_0, jq_1, jq_2, jq_3, jq_4, jq_5, jq_6, jq_8, jq_12, jq_16, jq_20, jq_21, jq_24, jq_30, jq_32, jq_60, jq_84, jq_1000, jq_2436, jq_20001, dm_isSlot _, ha, jx_ifn k0, jx_ifn k3, e179_16, dm_fm]
  · rcases I.2.2.1 s hs with ⟨s1, s2⟩ | ⟨q, N', q4, s1, s2, w', X', S'⟩
    · refine ⟨-6, _, _, ?_, ?_, I.fd⟩
      · rw [d106, e106_0]
        simp (disch := omega) only [jx_bI_s, jx_bL_s, jx_bV_s, eq_self, true_or, or_true, jx_if_t, jx_if_f, jq_b0, jq_b1, jq_bb, jq_b01, jx_if_in, jx_if_lt, jx_if_nlt, jx_if_le, jx_if_nle, jq_eqp, jq_eqn, nI_clamp, nI_add, pk_sub, pk_mul, jn_and, jn_or, jn_xor, jq_andn, jq_shl1, jq_bit, jq_mn, jq_mx, cond_true, cond_false, jq_jt, jq_jf, jq_e1, jq_e2, jq_e3, jq_e4, Bool.not_true, Bool.not_false, jq_0, jq_1, jq_2, jq_3, jq_4, jq_5, jq_6, jq_8, jq_12, jq_16, jq_20, jq_21, jq_24, jq_30, jq_32, jq_60, jq_84, jq_1000, jq_2436, jq_20001, dm_noSlot _, ha, s1, dm_fx]
      · have lt : ∀ a b : Option jx_R, jx_if (-nI 1 < nI 0) a b = a := fun a b => jx_ifp (by decide)
        rw [d179, e179_0]
        simp (disch := omega) only [jx_bI_s, jx_bL_s, jx_bV_s, eq_self, true_or, or_true, jx_if_t, jx_if_f, jq_b0, jq_b1, jq_bb, jq_b01, jx_if_in, jx_if_lt, jx_if_nlt, jx_if_le, jx_if_nle, jq_eqp, jq_eqn, nI_clamp, nI_add, pk_sub, pk_mul, jn_and, jn_or, jn_xor, jq_andn, jq_shl1, jq_bit, jq_mn, jq_mx, cond_true, cond_false, jq_jt, jq_jf, jq_e1, jq_e2, jq_e3, jq_e4, Bool.not_true, Bool.not_false, jq_0, jq_1, jq_2, jq_3, jq_4, jq_5, jq_6, jq_8, jq_12, jq_16, jq_20, jq_21, jq_24, jq_30, jq_32, jq_60, jq_84, jq_1000, jq_2436, jq_20001, dm_isSlot _, ha, s2, lt, dm_fm]
    · have m0 : nI 0 = nI 0 := rfl
      have ka0 : jx_ka 0 = -nI 1 := rfl
      have ka1 : jx_ka 1 = nI 0 := rfl
      have ka2 : jx_ka 2 = nI 1 := rfl
      have ka3 : jx_ka 3 = nI 0 := rfl
      have und : ∃ B : Bool, DM (d + 39) 107 [vi (nI q), vi (nI j)] hx = some ([vi (jn_b B)], hx) ∧ DM (d + 40) 179 [vr 30 0, vi (nI s), vi (nI j)] hm = bif B then some ([vi (nI (jb_n N'))], hm) else some ([vi (-4)], jx_sI hm 30 0 16 (hm.1 30 0 16 + 1)) := by
        have e39 := S'.2.1
        refine ⟨decide (q = j ∨ j = 0 ∨ (j = 1 ∧ q = 2)), ?_, ?_⟩
        · have st1 : ∀ i : Nat, i < 4 → ∀ q : Nat, q < 4 → q = j → F107_4 (DM (d + 38)) (nI j) (nI q) (nI i) hx = some ([vi (jn_b true)], hx) := by
            intro i hi q hq e
            rw [e107_4]
            simp (disch := omega) only [jx_bI_s, jx_bL_s, jx_bV_s, eq_self, true_or, or_true, jx_if_t, jx_if_f, jq_b0, jq_b1, jq_bb, jq_b01, jx_if_in, jx_if_lt, jx_if_nlt, jx_if_le, jx_if_nle, jq_eqp, jq_eqn, nI_clamp, nI_add, pk_sub, pk_mul, jn_and, jn_or, jn_xor, jq_andn, jq_shl1, jq_bit, jq_mn, jq_mx, cond_true, cond_false, jq_jt, jq_jf, jq_e1, jq_e2, jq_e3, jq_e4, Bool.not_true, Bool.not_false, jq_0, jq_1, jq_2, jq_3, jq_4, jq_5, jq_6, jq_8, jq_12, jq_16, jq_20, jq_21, jq_24, jq_30, jq_32, jq_60, jq_84, jq_1000, jq_2436, jq_20001, jq_m1 hq]
          have st0 : ∀ i : Nat, i < 4 → ∀ q : Nat, q < 4 → q ≠ j → F107_4 (DM (d + 38)) (nI j) (nI q) (nI i) hx = F107_4 (DM (d + 38)) (nI j) (jx_ka q) (nI (i + 1)) hx := by
            intro i hi q hq e
            rw [e107_4]
            simp (disch := omega) only [jx_bI_s, jx_bL_s, jx_bV_s, eq_self, true_or, or_true, jx_if_t, jx_if_f, jq_b0, jq_b1, jq_bb, jq_b01, jx_if_in, jx_if_lt, jx_if_nlt, jx_if_le, jx_if_nle, jq_eqp, jq_eqn, nI_clamp, nI_add, pk_sub, pk_mul, jn_and, jn_or, jn_xor, jq_andn, jq_shl1, jq_bit, jq_mn, jq_mx, cond_true, cond_false, jq_jt, jq_jf, jq_e1, jq_e2, jq_e3, jq_e4, Bool.not_true, Bool.not_false, jq_0, jq_1, jq_2, jq_3, jq_4, jq_5, jq_6, jq_8, jq_12, jq_16, jq_20, jq_21, jq_24, jq_30, jq_32, jq_60, jq_84, jq_1000, jq_2436, jq_20001, jq_m1 hq, e107_30]
          have stm : ∀ i : Nat, i < 4 → F107_4 (DM (d + 38)) (nI j) (-nI 1) (nI i) hx = some ([vi (jn_b false)], hx) := by
            intro i hi
            rw [e107_4]
            simp (disch := omega) only [jx_bI_s, jx_bL_s, jx_bV_s, eq_self, true_or, or_true, jx_if_t, jx_if_f, jq_b0, jq_b1, jq_bb, jq_b01, jx_if_in, jx_if_lt, jx_if_nlt, jx_if_le, jx_if_nle, jq_eqp, jq_eqn, nI_clamp, nI_add, pk_sub, pk_mul, jn_and, jn_or, jn_xor, jq_andn, jq_shl1, jq_bit, jq_mn, jq_mx, cond_true, cond_false, jq_jt, jq_jf, jq_e1, jq_e2, jq_e3, jq_e4, Bool.not_true, Bool.not_false, jq_0, jq_1, jq_2, jq_3, jq_4, jq_5, jq_6, jq_8, jq_12, jq_16, jq_20, jq_21, jq_24, jq_30, jq_32, jq_60, jq_84, jq_1000, jq_2436, jq_20001, e107_36]
          rw [d107, e107_0]
          show F107_4 (DM (d + 38)) (nI j) (nI q) (nI 0) hx = _
          have st0' : ∀ i : Nat, i < 4 → 0 ≠ j → F107_4 (DM (d + 38)) (nI j) (nI 0) (nI i) hx = F107_4 (DM (d + 38)) (nI j) (-nI 1) (nI (i + 1)) hx := fun i hi e => st0 i hi 0 (by decide) e
          have st1' : ∀ i : Nat, i < 4 → 1 ≠ j → F107_4 (DM (d + 38)) (nI j) (nI 1) (nI i) hx = F107_4 (DM (d + 38)) (nI j) (nI 0) (nI (i + 1)) hx := fun i hi e => st0 i hi 1 (by decide) e
          have st2' : ∀ i : Nat, i < 4 → 2 ≠ j → F107_4 (DM (d + 38)) (nI j) (nI 2) (nI i) hx = F107_4 (DM (d + 38)) (nI j) (nI 1) (nI (i + 1)) hx := fun i hi e => st0 i hi 2 (by decide) e
          have st3' : ∀ i : Nat, i < 4 → 3 ≠ j → F107_4 (DM (d + 38)) (nI j) (nI 3) (nI i) hx = F107_4 (DM (d + 38)) (nI j) (nI 0) (nI (i + 1)) hx := fun i hi e => st0 i hi 3 (by decide) e
          have z0 : ∀ i : Nat, i < 3 → F107_4 (DM (d + 38)) (nI j) (nI 0) (nI i) hx = some ([vi (jn_b (decide (j = 0)))], hx) := by
            intro i hi
            by_cases e : 0 = j
            · rw [st1 i (by omega) 0 (by decide) e, decide_eq_true e.symm]
            · rw [st0' i (by omega) e, stm (i + 1) (by omega), decide_eq_false (Ne.symm e)]
          rcases (show q = 0 ∨ q = 1 ∨ q = 2 ∨ q = 3 by omega) with rfl | rfl | rfl | rfl
          · rw [z0 0 (by decide)]
            rcases (show j = 0 ∨ j = 1 ∨ j = 2 ∨ j = 3 by omega) with rfl | rfl | rfl | rfl <;> rfl
          · by_cases e : 1 = j
            · rw [st1 0 (by decide) 1 (by decide) e]
              subst e; rfl
            · rw [st1' 0 (by decide) e, z0 1 (by decide)]
              rcases (show j = 0 ∨ j = 2 ∨ j = 3 by omega) with rfl | rfl | rfl <;> rfl
          · by_cases e : 2 = j
            · rw [st1 0 (by decide) 2 (by decide) e]
              subst e; rfl
            · rw [st2' 0 (by decide) e]
              by_cases e1 : 1 = j
              · rw [st1 1 (by decide) 1 (by decide) e1]
                subst e1; rfl
              · rw [st1' 1 (by decide) e1, z0 2 (by decide)]
                rcases (show j = 0 ∨ j = 3 by omega) with rfl | rfl <;> rfl
          · by_cases e : 3 = j
            · rw [st1 0 (by decide) 3 (by decide) e]
              subst e; rfl
            · rw [st3' 0 (by decide) e, z0 1 (by decide)]
              rcases (show j = 0 ∨ j = 1 ∨ j = 2 by omega) with rfl | rfl | rfl <;> rfl
        · rw [d179, e179_0]
          rcases (show q = 0 ∨ q = 1 ∨ q = 2 ∨ q = 3 by omega) with rfl | rfl | rfl | rfl <;> rcases (show j = 0 ∨ j = 1 ∨ j = 2 ∨ j = 3 by omega) with rfl | rfl | rfl | rfl <;> simp (disch := omega) only [jx_bI_s, jx_bL_s, jx_bV_s, eq_self, true_or, or_true, jx_if_t, jx_if_f, jq_b0, jq_b1, jq_bb, jq_b01, jx_if_in, jx_if_lt, jx_if_nlt, jx_if_le, jx_if_nle, jq_eqp, jq_eqn, nI_clamp, nI_add, pk_sub, pk_mul, jn_and, jn_or, jn_xor, jq_andn, jq_shl1, jq_bit, jq_mn, jq_mx, cond_true, cond_false, jq_jt, jq_jf, jq_e1, jq_e2, jq_e3, jq_e4, Bool.not_true, Bool.not_false, jq_0, jq_1, jq_2, jq_3, jq_4, jq_5, jq_6, jq_8, jq_12, jq_16, jq_20, jq_21, jq_24, jq_30, jq_32, jq_60, jq_84, jq_1000, jq_2436, jq_20001, dm_isSlot _, ha, s2, e179_45, e179_64, e179_68, e179_69, e39, e179_96, dm_fm] <;> rfl
      obtain ⟨B, b1, b2⟩ := und
      cases B
      · refine ⟨-4, _, _, ?_, b2, I.fd⟩
        rw [d106, e106_0]
        simp (disch := omega) only [jx_bI_s, jx_bL_s, jx_bV_s, eq_self, true_or, or_true, jx_if_t, jx_if_f, jq_b0, jq_b1, jq_bb, jq_b01, jx_if_in, jx_if_lt, jx_if_nlt, jx_if_le, jx_if_nle, jq_eqp, jq_eqn, nI_clamp, nI_add, pk_sub, pk_mul, jn_and, jn_or, jn_xor, jq_andn, jq_shl1, jq_bit, jq_mn, jq_mx, cond_true, cond_false, jq_jt, jq_jf, jq_e1, jq_e2, jq_e3, jq_e4, Bool.not_true, Bool.not_false, jq_0, jq_1, jq_2, jq_3, jq_4, jq_5, jq_6, jq_8, jq_12, jq_16, jq_20, jq_21, jq_24, jq_30, jq_32, jq_60, jq_84, jq_1000, jq_2436, jq_20001, dm_noSlot _, ha, s1, jq_m1 q4, b1, dm_fx]
      · refine ⟨nI (jb_n N'), hx, hm, ?_, b2, I⟩
        rw [d106, e106_0]
        simp (disch := omega) only [jx_bI_s, jx_bL_s, jx_bV_s, eq_self, true_or, or_true, jx_if_t, jx_if_f, jq_b0, jq_b1, jq_bb, jq_b01, jx_if_in, jx_if_lt, jx_if_nlt, jx_if_le, jx_if_nle, jq_eqp, jq_eqn, nI_clamp, nI_add, pk_sub, pk_mul, jn_and, jn_or, jn_xor, jq_andn, jq_shl1, jq_bit, jq_mn, jq_mx, cond_true, cond_false, jq_jt, jq_jf, jq_e1, jq_e2, jq_e3, jq_e4, Bool.not_true, Bool.not_false, jq_0, jq_1, jq_2, jq_3, jq_4, jq_5, jq_6, jq_8, jq_12, jq_16, jq_20, jq_21, jq_24, jq_30, jq_32, jq_60, jq_84, jq_1000, jq_2436, jq_20001, dm_noSlot _, ha, s1, jq_m1 q4, b1, X'.2.1]
end
