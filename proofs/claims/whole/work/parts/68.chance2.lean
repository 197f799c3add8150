/-! ===== layer 2: the class's sets with post 0; where all does not hang together ===== -/
theorem jn_lw_odd {S : Nat} (h : S.testBit 0 = true) : jn_lw S = 1 := by
  have ho : S % 2 = 1 := by
    rw [Nat.testBit_zero] at h
    simpa using h
  unfold jn_lw
  apply Nat.eq_of_testBit_eq
  intro i
  rw [jn_df_t]
  cases i with
  | zero =>
    rw [h, Nat.testBit_zero]
    have : (S - 1) % 2 = 0 := by omega
    simp [this]
  | succ i =>
    rw [Nat.testBit_succ, Nat.testBit_succ, show (S - 1) / 2 = S / 2 by omega]
    have : (1 : Nat).testBit (i + 1) = false := by
      rw [Nat.testBit_succ]
      simp
    rw [this]
    cases (S / 2).testBit i <;> rfl
theorem jn_and1 {i : Nat} : (i &&& 1 ≠ 0) ↔ i.testBit 0 = true := by
  rw [show (1 : Nat) = 2 ^ 0 from rfl, Ne, jn_and2]
  simp
theorem jc_ok_t {S i : Nat} (h : S.testBit 0 = true) : jc_ok S i = true ↔ jn_sb i S ∧ i.testBit 0 = true := by
  unfold jc_ok
  rw [Bool.and_eq_true, Bool.and_eq_true, decide_eq_true_eq, decide_eq_true_eq, decide_eq_true_eq, jn_df0, jn_lw_odd h, jn_and1]
  exact ⟨fun k => k.2, fun k => ⟨jn_has1 k.2, k⟩⟩
section
variable {d : Nat} {N : jb_N}
theorem jn_df_xor {S o : Nat} (h : jn_sb o S) : S ^^^ o = jn_df S o := by
  apply Nat.eq_of_testBit_eq
  intro i
  rw [jn_df_t, Nat.testBit_xor]
  cases hb : o.testBit i with
  | false => simp
  | true => rw [h i hb]; rfl
theorem jn_df_df {S o : Nat} (h : jn_sb o S) : jn_df S (jn_df S o) = o := by
  apply Nat.eq_of_testBit_eq
  intro i
  rw [jn_df_t, jn_df_t]
  cases hb : o.testBit i with
  | false => cases S.testBit i <;> rfl
  | true => rw [h i hb]; rfl
theorem jn_or_add : ∀ (a b : Nat), (∀ i, a.testBit i = true → b.testBit i = false) → a ||| b = a + b := by
  intro a
  induction a using Nat.strongRecOn with
  | ind a ih =>
    intro b h
    by_cases a0 : a = 0
    · subst a0
      simp
    · have e2 : (a ||| b) / 2 = a / 2 ||| b / 2 := Nat.or_div_two
      have r := ih (a / 2) (by omega) (b / 2) (fun i hi => by
        rw [← Nat.testBit_succ] at hi ⊢
        exact h _ hi)
      have m := Nat.testBit_or a b 0
      have h0 := h 0
      rw [Nat.testBit_zero, Nat.testBit_zero, Nat.testBit_zero] at m
      rw [Nat.testBit_zero, Nat.testBit_zero] at h0
      simp only [decide_eq_true_eq, decide_eq_false_iff_not] at h0
      have m2 : ((a ||| b) % 2 = 1) ↔ (a % 2 = 1 ∨ b % 2 = 1) := by
        have := congrArg (fun z => z = true) m
        simpa using this
      rw [r] at e2
      omega
theorem jn_df_sub {S o : Nat} (h : jn_sb o S) : jn_df S o + o = S := by
  have e : jn_df S o ||| o = S := by
    apply Nat.eq_of_testBit_eq
    intro i
    rw [Nat.testBit_or, jn_df_t]
    cases hb : o.testBit i with
    | false => simp
    | true => rw [h i hb]; rfl
  have := jn_or_add (jn_df S o) o (fun i hi => by
    rw [jn_df_t, Bool.and_eq_true, Bool.not_eq_true'] at hi
    exact hi.2)
  rw [← this, e]
theorem jp_P26 {h0 h : jx_H} (P : jp_P h0 N) (f : h.1 = h0.1) : jp_P h N := by
  unfold jp_P jp_H jp_T at *
  rw [f]
  exact P
theorem dm_plainX {h0 : jx_H} (w : jb_wf N) (x0 : jb_X h0 0 N) (P0 : jp_P h0 N) (hp1 : 1 ≤ jb_p N) (g0 : h0.1 26 0 0 = nI 1) (g1 : h0.1 26 0 1 = nI 1) : ∀ (k q : Nat) (h : jx_H), 2 * q + 1 + 2 * k = 2 ^ jb_p N + 1 → h.1 = h0.1 → (∀ z, z < q → h.2 27 0 (2 * z + 1) = jc_T N (2 * z + 1)) → ∃ h', F93_2 (DM (d + 3)) (nI (2 * q + 1)) h = some ([vl (jc_T N (2 ^ jb_p N - 1))], h') ∧ h'.1 = h0.1 := by
  have hn := w.2.1
  have hp := w.1
  have h8 := jn_pow8 hp
  have h2 : 2 ≤ 2 ^ jb_p N := (Nat.pow_le_pow_right (by decide) hp1 : 2 ^ 1 ≤ 2 ^ jb_p N)
  intro k
  induction k with
  | zero =>
    intro q h hq f f2
    have P := jp_P26 P0 f
    have g0' : h.1 26 0 0 = nI 1 := by rw [f]; exact g0
    have e1 := f2 (q - 1) (by omega)
    rw [show 2 * (q - 1) + 1 = 2 ^ jb_p N - 1 by omega] at e1
    refine ⟨h, ?_, f⟩
    rw [e93_2, g0', P.1.2.2.2.1]
    simp (disch := omega) only [jx_bI_s, jx_bL_s, jx_bV_s, eq_self, true_or, or_true, jx_if_t, jx_if_f, jq_b0, jq_b1, jq_bb, jq_b01, jx_if_in, jx_if_lt, jx_if_nlt, jx_if_le, jx_if_nle, jq_eqp, jq_eqn, nI_clamp, nI_add, pk_sub, pk_mul, jn_and, jn_or, jn_xor, jq_andn, jq_shl1, jq_bit, jq_mn, jq_mx, cond_true, cond_false, jq_jt, jq_jf, jq_e1, jq_e2, jq_e3, jq_e4, Bool.not_true, Bool.not_false, jq_0, jq_1, jq_2, jq_3, jq_4, jq_5, jq_6, jq_8, jq_12, jq_16, jq_20, jq_21, jq_24, jq_30, jq_32, jq_60, jq_84, jq_1000, jq_2436, jq_20001, e1]
  | succ k ih =>
    intro q h hq f f2
    have P := jp_P26 P0 f
    have x : jb_X h 0 N := x0.kept (fun c _ _ => by rw [f])
    have g0' : h.1 26 0 0 = nI 1 := by rw [f]; exact g0
    have g1' : h.1 26 0 1 = nI 1 := by rw [f]; exact g1
    generalize hS : 2 * q + 1 = S at *
    have hSo : S.testBit 0 = true := by
      rw [Nat.testBit_zero]
      simp
      omega
    have hSl : S < 2 ^ jb_p N := by omega
    have oth : S ^^^ 1 = S - 1 := by
      have hs1 : jn_sb 1 S := fun i hi => by
        cases i with
        | zero => exact hSo
        | succ i =>
          rw [Nat.testBit_succ] at hi
          simp at hi
      have := jn_df_sub hs1
      rw [jn_df_xor hs1]
      omega
    have hot : ∀ i, (S - 1).testBit i = true ↔ S.testBit i = true ∧ i ≠ 0 := fun i => by
      rw [← oth, Nat.testBit_xor, show (1 : Nat) = 2 ^ 0 from rfl, jn_2k]
      by_cases c : i = 0
      · subst c
        simp [hSo]
      · have c' : ¬ 0 = i := fun k => c k.symm
        simp [c, c']
    have hsbS : ∀ o, jn_sb o (S - 1) → jn_sb o S := fun o ho i hi => ((hot i).1 (ho i hi)).1
    have loop : ∀ o, jn_sb o (S - 1) → F93_26 (DM (d + 3)) (nI S) (nI (S - 1)) (jc_acc N S (jc_T N) (S - o)) (nI o) h = F93_26 (DM (d + 3)) (nI S) (nI (S - 1)) (jc_acc N S (jc_T N) S) (nI 0) h := by
      intro o
      induction o using Nat.strongRecOn with
      | ind o iho =>
        intro ho
        by_cases h0 : o = 0
        · subst h0
          rfl
        · have hol := jn_sb_le ho
          have hoS := hsbS o ho
          have hsub := jn_df_sub hoS
          have hdf : jn_df S o = S - o := by omega
          have hok : jc_ok S (S - o) = true := by
            rw [← hdf]
            refine (jc_ok_t hSo).2 ⟨jn_df_sb, ?_⟩
            rw [jn_df_t, hSo]
            cases hb : o.testBit 0 with
            | false => rfl
            | true => exact absurd rfl ((hot 0).1 (ho 0 hb)).2
          have hS1 : S - o < S := by omega
          have odd : (S - o) % 2 = 1 := by
            have := ((jc_ok_t hSo).1 hok).2
            rw [Nat.testBit_zero] at this
            simpa using this
          have tb : h.2 27 0 (S - o) = jc_T N (S - o) := by
            have := f2 ((S - o) / 2) (by omega)
            rw [show 2 * ((S - o) / 2) + 1 = S - o by omega] at this
            exact this
          have acc1 : jc_acc N S (jc_T N) (S - o + 1) = jc_acc N S (jc_T N) (S - o) - jc_T N (S - o) * lN (jc_b N (S - o) o) * lN (8 ^ jb_wi N o) := by
            show (if jc_ok S (S - o) = true then _ else _) = _
            rw [if_pos hok]
            unfold jc_tm
            rw [← hdf, jn_df_df hoS]
          -- nothing between this and the next
          have nxl := jn_sb_nx (S := S - 1) (show 0 < o by omega)
          have gap : jc_acc N S (jc_T N) (S - o + 1) = jc_acc N S (jc_T N) (S - ((o - 1) &&& (S - 1))) := by
            refine jn_loop (fun i => jc_acc N S (jc_T N) i) (show S - o + 1 ≤ S - ((o - 1) &&& (S - 1)) by omega) (fun i i1 i2 => ?_)
            show jc_acc N S (jc_T N) i = (if jc_ok S i = true then _ else _)
            rw [if_neg]
            intro hk
            obtain ⟨k1, k2⟩ := (jc_ok_t hSo).1 hk
            have hd := jn_df_sub k1
            have hdo : jn_sb (jn_df S i) (S - 1) := fun j hj => by
              refine (hot j).2 ⟨jn_df_sb j hj, fun c => ?_⟩
              rw [c, jn_df_t, k2] at hj
              simp at hj
            have := jn_subs ho hdo (by omega)
            omega
          rw [e93_26]
          simp (disch := omega) only [jx_bI_s, jx_bL_s, jx_bV_s, eq_self, true_or, or_true, jx_if_t, jx_if_f, jq_b0, jq_b1, jq_bb, jq_b01, jx_if_in, jx_if_lt, jx_if_nlt, jx_if_le, jx_if_nle, jq_eqp, jq_eqn, nI_clamp, nI_add, pk_sub, pk_mul, jn_and, jn_or, jn_xor, jq_andn, jq_shl1, jq_bit, jq_mn, jq_mx, cond_true, cond_false, jq_jt, jq_jf, jq_e1, jq_e2, jq_e3, jq_e4, Bool.not_true, Bool.not_false, jq_0, jq_1, jq_2, jq_3, jq_4, jq_5, jq_6, jq_8, jq_12, jq_16, jq_20, jq_21, jq_24, jq_30, jq_32, jq_60, jq_84, jq_1000, jq_2436, jq_20001, jn_xor, jn_df_xor hoS, hdf, dm_cutoff w x P g0' g1' (show S - o < 2 ^ jb_p N by omega) (show o < 2 ^ jb_p N by omega), tb, e93_44, e93_52]
          rw [← acc1, gap]
          exact iho _ nxl (jn_sb_and _ _)
    obtain ⟨h', a1, a2⟩ := ih (q + 1) (jx_sL h 27 0 S (jc_T N S)) (by omega) (by rw [jx_sL1]; exact f) (fun z hz => by
      rw [jx_sL2]
      by_cases e : 2 * z + 1 = S
      · rw [if_pos e, e]
      · rw [if_neg e]
        exact f2 z (by omega))
    refine ⟨h', ?_, a2⟩
    have l0 := loop (S - 1) (fun i hi => hi)
    rw [show S - (S - 1) = 1 by omega] at l0
    have e1 : jc_acc N S (jc_T N) 1 = lN (8 ^ jb_wi N S) := by
      show (if jc_ok S 0 = true then _ else _) = _
      rw [if_neg]
      · rfl
      · intro c
        have := ((jc_ok_t hSo).1 c).2
        rw [Nat.zero_testBit] at this
        cases this
    rw [e1] at l0
    have nx : nI S + 2 = nI (2 * (q + 1) + 1) := by
      rw [show (2 : Int32) = nI 2 from rfl, nI_add]
      congr 1
      omega
    have e26 : F93_26 (DM (d + 3)) (nI S) (nI (S - 1)) (jc_acc N S (jc_T N) S) (nI 0) h = F93_2 (DM (d + 3)) (nI (2 * (q + 1) + 1)) (jx_sL h 27 0 S (jc_T N S)) := by
      rw [e93_26, nx, ← jc_T_eq]
      simp (disch := omega) only [jx_bI_s, jx_bL_s, jx_bV_s, eq_self, true_or, or_true, jx_if_t, jx_if_f, jq_b0, jq_b1, jq_bb, jq_b01, jx_if_in, jx_if_lt, jx_if_nlt, jx_if_le, jx_if_nle, jq_eqp, jq_eqn, nI_clamp, nI_add, pk_sub, pk_mul, jn_and, jn_or, jn_xor, jq_andn, jq_shl1, jq_bit, jq_mn, jq_mx, cond_true, cond_false, jq_jt, jq_jf, jq_e1, jq_e2, jq_e3, jq_e4, Bool.not_true, Bool.not_false, jq_0, jq_1, jq_2, jq_3, jq_4, jq_5, jq_6, jq_8, jq_12, jq_16, jq_20, jq_21, jq_24, jq_30, jq_32, jq_60, jq_84, jq_1000, jq_2436, jq_20001]
    rw [e93_2, g0', P.1.2.2.2.1]
    simp (disch := omega) only [jx_bI_s, jx_bL_s, jx_bV_s, eq_self, true_or, or_true, jx_if_t, jx_if_f, jq_b0, jq_b1, jq_bb, jq_b01, jx_if_in, jx_if_lt, jx_if_nlt, jx_if_le, jx_if_nle, jq_eqp, jq_eqn, nI_clamp, nI_add, pk_sub, pk_mul, jn_and, jn_or, jn_xor, jq_andn, jq_shl1, jq_bit, jq_mn, jq_mx, cond_true, cond_false, jq_jt, jq_jf, jq_e1, jq_e2, jq_e3, jq_e4, Bool.not_true, Bool.not_false, jq_0, jq_1, jq_2, jq_3, jq_4, jq_5, jq_6, jq_8, jq_12, jq_16, jq_20, jq_21, jq_24, jq_30, jq_32, jq_60, jq_84, jq_1000, jq_2436, jq_20001, oth, e93_17, dm_waysX w P g0' hSl]
    exact l0.trans (e26.trans a1)
/-- no roads between C and the rest: the chance is none -/
theorem jc_zero (w : jb_wf N) (ht : jb_t N = false) : ∀ S C, S.testBit 0 = true → C.testBit 0 = true → jn_sb C S → C ≠ S → (∀ r, r < jb_n N → jp_btb N C (jn_df S C) r = false) → jc_T N S = 0 := by
  intro S
  induction S using Nat.strongRecOn with
  | ind S ih =>
    intro C hS hC hCS hne hno
    have hCl := jn_sb_le hCS
    have hDt : ∀ i, (jn_df S C).testBit i = (S.testBit i && !C.testBit i) := fun i => jn_df_t S C i
    have hwi : jb_wi N S = jb_wi N C + jb_wi N (jn_df S C) := by
      unfold jb_wi
      have := jn_ct_add (f := fun r => S.testBit (jb_f N r) && S.testBit (jb_s N r)) (g := fun _ => false) (u := fun r => C.testBit (jb_f N r) && C.testBit (jb_s N r)) (v := fun r => (jn_df S C).testBit (jb_f N r) && (jn_df S C).testBit (jb_s N r)) (jb_n N) (fun r hr => by
        have hb := hno r hr
        unfold jp_btb at hb
        rw [ht] at hb
        have c1 := hCS (jb_f N r)
        have c2 := hCS (jb_s N r)
        simp only [hDt] at hb ⊢
        cases a1 : S.testBit (jb_f N r) <;> cases a2 : S.testBit (jb_s N r) <;> cases a3 : C.testBit (jb_f N r) <;> cases a4 : C.testBit (jb_s N r) <;> simp_all)
      have this2 := jn_ct_add (u := fun r => S.testBit (jb_f N r) && S.testBit (jb_s N r)) (v := fun _ => false) (f := fun r => C.testBit (jb_f N r) && C.testBit (jb_s N r)) (g := fun r => (jn_df S C).testBit (jb_f N r) && (jn_df S C).testBit (jb_s N r)) (jb_n N) (fun r hr => by
        have c1 := hCS (jb_f N r)
        have c2 := hCS (jb_s N r)
        simp only [hDt]
        cases a1 : S.testBit (jb_f N r) <;> cases a2 : S.testBit (jb_s N r) <;> cases a3 : C.testBit (jb_f N r) <;> cases a4 : C.testBit (jb_s N r) <;> simp_all)
      have z : jn_ct (fun _ => false) (jb_n N) = 0 := jn_ct_zero _ (fun _ _ => rfl)
      omega
    -- parts of C
    have part : ∀ i, jn_sb i C → i.testBit 0 = true → jb_wi N (jn_df S i) = jb_wi N (jn_df C i) + jb_wi N (jn_df S C) ∧ jc_b N i (jn_df S i) = jc_b N i (jn_df C i) := by
      intro i hi hi0
      refine ⟨?_, ?_⟩
      · unfold jb_wi
        have := jn_ct_add (f := fun r => (jn_df S i).testBit (jb_f N r) && (jn_df S i).testBit (jb_s N r)) (g := fun _ => false) (u := fun r => (jn_df C i).testBit (jb_f N r) && (jn_df C i).testBit (jb_s N r)) (v := fun r => (jn_df S C).testBit (jb_f N r) && (jn_df S C).testBit (jb_s N r)) (jb_n N) (fun r hr => by
          have hb := hno r hr
          unfold jp_btb at hb
          rw [ht] at hb
          have c1 := hCS (jb_f N r)
          have c2 := hCS (jb_s N r)
          simp only [jn_df_t] at hb ⊢
          cases a1 : S.testBit (jb_f N r) <;> cases a2 : S.testBit (jb_s N r) <;> cases a3 : C.testBit (jb_f N r) <;> cases a4 : C.testBit (jb_s N r) <;> cases a5 : i.testBit (jb_f N r) <;> cases a6 : i.testBit (jb_s N r) <;> simp_all)
        have this2 := jn_ct_add (u := fun r => (jn_df S i).testBit (jb_f N r) && (jn_df S i).testBit (jb_s N r)) (v := fun _ => false) (f := fun r => (jn_df C i).testBit (jb_f N r) && (jn_df C i).testBit (jb_s N r)) (g := fun r => (jn_df S C).testBit (jb_f N r) && (jn_df S C).testBit (jb_s N r)) (jb_n N) (fun r hr => by
          have c1 := hCS (jb_f N r)
          have c2 := hCS (jb_s N r)
          have c3 := hi (jb_f N r)
          have c4 := hi (jb_s N r)
          simp only [jn_df_t]
          cases a1 : S.testBit (jb_f N r) <;> cases a2 : S.testBit (jb_s N r) <;> cases a3 : C.testBit (jb_f N r) <;> cases a4 : C.testBit (jb_s N r) <;> cases a5 : i.testBit (jb_f N r) <;> cases a6 : i.testBit (jb_s N r) <;> simp_all)
        have z : jn_ct (fun _ => false) (jb_n N) = 0 := jn_ct_zero _ (fun _ _ => rfl)
        omega
      · refine jn_pd_congr _ (fun r hr => ?_)
        unfold jc_wt
        have e : jp_btb N i (jn_df S i) r = jp_btb N i (jn_df C i) r := by
          have hb := hno r hr
          unfold jp_btb at hb ⊢
          rw [ht] at hb ⊢
          have c1 := hCS (jb_f N r)
          have c2 := hCS (jb_s N r)
          have c3 := hi (jb_f N r)
          have c4 := hi (jb_s N r)
          simp only [jn_df_t] at hb ⊢
          cases a1 : S.testBit (jb_f N r) <;> cases a2 : S.testBit (jb_s N r) <;> cases a3 : C.testBit (jb_f N r) <;> cases a4 : C.testBit (jb_s N r) <;> cases a5 : i.testBit (jb_f N r) <;> cases a6 : i.testBit (jb_s N r) <;> simp_all
        rw [e]
    have other : ∀ i, i < S → jn_sb i S → i.testBit 0 = true → ¬ jn_sb i C → jc_T N i = 0 := by
      intro i hiS hi hi0 hnc
      refine ih i hiS (i &&& C) hi0 (by rw [Nat.testBit_and, hi0, hC]; rfl) (fun j hj => by
        rw [Nat.testBit_and, Bool.and_eq_true] at hj
        exact hj.1) (fun e => hnc (fun j hj => by
        rw [← e, Nat.testBit_and, Bool.and_eq_true] at hj
        exact hj.2)) (fun r hr => ?_)
      have hb := hno r hr
      unfold jp_btb at hb ⊢
      rw [ht] at hb ⊢
      have c1 := hi (jb_f N r)
      have c2 := hi (jb_s N r)
      simp only [jn_df_t, Nat.testBit_and] at hb ⊢
      cases a1 : S.testBit (jb_f N r) <;> cases a2 : S.testBit (jb_s N r) <;> cases a3 : C.testBit (jb_f N r) <;> cases a4 : C.testBit (jb_s N r) <;> cases a5 : i.testBit (jb_f N r) <;> cases a6 : i.testBit (jb_s N r) <;> simp_all
    have acc : ∀ i, i ≤ S → (i ≤ C → jc_acc N S (jc_T N) i = jc_acc N C (jc_T N) i * lN (8 ^ jb_wi N (jn_df S C))) ∧ (C < i → jc_acc N S (jc_T N) i = 0) := by
      intro i
      induction i with
      | zero =>
        intro _
        refine ⟨fun _ => ?_, fun c => by omega⟩
        show lN (8 ^ jb_wi N S) = lN (8 ^ jb_wi N C) * _
        rw [lN_mul, hwi, Nat.pow_add]
      | succ i ihi =>
        intro hiS
        obtain ⟨i1, i2⟩ := ihi (by omega)
        have eS : jc_acc N S (jc_T N) (i + 1) = if jc_ok S i = true then jc_acc N S (jc_T N) i - jc_tm N S (jc_T N) i else jc_acc N S (jc_T N) i := rfl
        have eC : jc_acc N C (jc_T N) (i + 1) = if jc_ok C i = true then jc_acc N C (jc_T N) i - jc_tm N C (jc_T N) i else jc_acc N C (jc_T N) i := rfl
        by_cases ok : jc_ok S i = true
        · obtain ⟨k1, k2⟩ := (jc_ok_t hS).1 ok
          rw [eS, if_pos ok]
          by_cases hc : jn_sb i C
          · have hcl := jn_sb_le hc
            obtain ⟨q1, q2⟩ := part i hc k2
            by_cases e : i = C
            · subst e
              refine ⟨fun c => by omega, fun _ => ?_⟩
              have b1 : jc_b N i (jn_df S i) = 1 := jn_pd_one _ (fun r hr => by
                unfold jc_wt
                rw [hno r hr]
                rfl)
              unfold jc_tm
              rw [i1 (Nat.le_refl _), b1, show lN 1 = 1 from rfl, Int64.mul_one, ← jc_T_eq, Int64.sub_self]
            · refine ⟨fun _ => ?_, fun c => by omega⟩
              have okC : jc_ok C i = true := (jc_ok_t hC).2 ⟨hc, k2⟩
              rw [eC, if_pos okC, i1 (by omega), Int64.sub_mul]
              unfold jc_tm
              rw [q1, q2, Nat.pow_add, ← lN_mul, ← Int64.mul_assoc]
          · have t0 := other i (by omega) k1 k2 hc
            have tm : jc_tm N S (jc_T N) i = 0 := by
              unfold jc_tm
              rw [t0, Int64.zero_mul, Int64.zero_mul]
            have nokC : ¬ jc_ok C i = true := fun k => hc ((jc_ok_t hC).1 k).1
            rw [tm, Int64.sub_zero]
            refine ⟨fun c => by rw [eC, if_neg nokC]; exact i1 (by omega), fun c => ?_⟩
            by_cases e : i = C
            · subst e
              exact absurd (fun j hj => hj) hc
            · exact i2 (by omega)
        · have nokC : ¬ jc_ok C i = true := fun k => ok ((jc_ok_t hS).2 ⟨fun j hj => hCS j (((jc_ok_t hC).1 k).1 j hj), ((jc_ok_t hC).1 k).2⟩)
          rw [eS, if_neg ok]
          refine ⟨fun c => by rw [eC, if_neg nokC]; exact i1 (by omega), fun c => ?_⟩
          by_cases e : i = C
          · subst e
            exact absurd ((jc_ok_t hS).2 ⟨hCS, hC⟩) ok
          · exact i2 (by omega)
    rw [jc_T_eq]
    exact (acc S (Nat.le_refl _)).2 (by omega)
end
