/-! ===== layer 2: best ===== -/
theorem jn_sm_mono {f g : Nat → Nat} : ∀ n, (∀ i, i < n → f i ≤ g i) → jn_sm f n ≤ jn_sm g n := by
  intro n
  induction n with
  | zero => intro _; exact Nat.le_refl _
  | succ n ih =>
    intro h
    have h1 := ih (fun i hi => h i (by omega))
    have h2 := h n (by omega)
    show jn_sm f n + f n ≤ jn_sm g n + g n
    omega
theorem jn_sm_upd {f g : Nat → Nat} {i v : Nat} : ∀ n, i < n → (∀ j, j < n → j ≠ i → g j = f j) → f i = 0 → g i = v → jn_sm g n = jn_sm f n + v := by
  intro n
  induction n with
  | zero => intro h; omega
  | succ n ih =>
    intro hi h h0 h1
    show jn_sm g n + g n = jn_sm f n + f n + v
    by_cases e : i = n
    · subst e
      rw [jn_sm_congr (f := g) (g := f) i (fun j hj => h j (by omega) (by omega)), h0, h1]
      omega
    · rw [ih (by omega) (fun j hj => h j (by omega)) h0 h1, h n (by omega) (Ne.symm e)]
      omega
section
variable {d : Nat} {N : jb_N} {k : Nat}
theorem jb_pr_mono {C T : Nat} (h : jn_sb C T) : jb_pr N C ≤ jb_pr N T := jn_sm_mono _ (fun i _ => by
  by_cases c : C.testBit i = true
  · rw [if_pos c, if_pos (h i c)]
    exact Nat.le_refl _
  · rw [if_neg c]
    exact Nat.zero_le _)
theorem jb_pr_add {C i : Nat} (hi : i < jb_n N) (hC : C.testBit i = false) : jb_pr N (C ||| 2 ^ i) = jb_pr N C + jb_c N i := by
  refine jn_sm_upd (i := i) _ hi (fun j _ hj => ?_) ?_ ?_
  · rw [Nat.testBit_or, jn_2k, decide_eq_false (Ne.symm hj), Bool.or_false]
  · rw [hC]; rfl
  · rw [Nat.testBit_or, jn_2k]
    simp
theorem jb_hm_mono {T T' v : Nat} (h : jn_sb T T') : jb_hm N T v ≤ jb_hm N T' v := by
  have hc : ∀ X, jb_cu N X T ≤ jb_cu N X T' := fun X => jn_ct_mono _ (fun r _ hr => by
    rw [Bool.and_eq_true] at hr ⊢
    exact ⟨hr.1, h r hr.2⟩)
  rcases jn_mn_at (ok := fun X => decide (1 ≤ X)) (c := fun X => jb_cu N X T') (v := v) (2 ^ jb_p N - 1) with e | ⟨X, x1, x2, x3⟩
  · show jn_mn _ _ _ _ ≤ jn_mn _ _ _ _
    rw [e]
    exact jn_mn_le0 _
  · show jn_mn _ _ _ _ ≤ jn_mn _ _ _ _
    rw [x3]
    exact Nat.le_trans (jn_mn_le (ok := fun X => decide (1 ≤ X)) (c := fun X => jb_cu N X T) x1 x2) (hc X)
def jb_cn (j C T : Nat) : Prop := ∀ i, j ≤ i → T.testBit i = C.testBit i
def jb_bs (N : jb_N) (k j C LP LS LP' LS' : Nat) : Prop := (LP' = LP ∧ LS' = LS ∧ ∀ T, T < 2 ^ jb_n N → jb_cn j C T → k ≤ jb_hm N T 1000 → LP ≤ jb_pr N T) ∨ (LS' < 2 ^ jb_n N ∧ jb_cn j C LS' ∧ k ≤ jb_hm N LS' 1000 ∧ LP' = jb_pr N LS' ∧ jb_pr N LS' < LP ∧ ∀ T, T < 2 ^ jb_n N → jb_cn j C T → k ≤ jb_hm N T 1000 → jb_pr N LS' < jb_pr N T ∨ (jb_pr N LS' = jb_pr N T ∧ LS' ≤ T))
theorem jn_cmp {n i S T : Nat} (hT : T < 2 ^ n) (hS : S < 2 ^ n) (h : ∀ j, i + 1 ≤ j → S.testBit j = T.testBit j) (h0 : S.testBit i = false) (h1 : T.testBit i = true) : S < T := by
  have e1 : S / 2 ^ (i + 1) = T / 2 ^ (i + 1) := by
    apply Nat.eq_of_testBit_eq
    intro j
    rw [Nat.testBit_div_two_pow, Nat.testBit_div_two_pow]
    exact h _ (by omega)
  have e2 : S % 2 ^ (i + 1) < 2 ^ i := by
    apply Nat.lt_pow_two_of_testBit
    intro j hj
    rw [Nat.testBit_mod_two_pow]
    by_cases c : j = i
    · rw [c, h0]
      simp
    · rw [decide_eq_false (show ¬ j < i + 1 by omega)]
      rfl
  have e3 : 2 ^ i ≤ T % 2 ^ (i + 1) := by
    apply Nat.ge_two_pow_of_testBit
    rw [Nat.testBit_mod_two_pow, h1]
    simp
  have a := Nat.div_add_mod S (2 ^ (i + 1))
  have b := Nat.div_add_mod T (2 ^ (i + 1))
  rw [e1] at a
  omega
theorem jb_bs_join {j C LP LS LP1 LS1 LP2 LS2 : Nat} (hCj : C.testBit j = false) (h1 : jb_bs N k j C LP LS LP1 LS1) (h2 : jb_bs N k j (C ||| 2 ^ j) LP1 LS1 LP2 LS2) : jb_bs N k (j + 1) C LP LS LP2 LS2 := by
  have c1 : ∀ T, jb_cn j C T → jb_cn (j + 1) C T := fun T h i hi => h i (by omega)
  have c2 : ∀ T, jb_cn j (C ||| 2 ^ j) T → jb_cn (j + 1) C T := fun T h i hi => by
    rw [h i (by omega), Nat.testBit_or, jn_2f.2 (show i ≠ j by omega), Bool.or_false]
  have sp : ∀ T, jb_cn (j + 1) C T → (T.testBit j = false ∧ jb_cn j C T) ∨ (T.testBit j = true ∧ jb_cn j (C ||| 2 ^ j) T) := fun T h => by
    cases hb : T.testBit j
    · left
      refine ⟨rfl, fun i hi => ?_⟩
      by_cases e : i = j
      · rw [e, hb, hCj]
      · exact h i (by omega)
    · right
      refine ⟨rfl, fun i hi => ?_⟩
      by_cases e : i = j
      · rw [e, hb, Nat.testBit_or, jn_2k]
        simp
      · rw [h i (by omega), Nat.testBit_or, jn_2f.2 e, Bool.or_false]
  have lt : ∀ S T, S < 2 ^ jb_n N → T < 2 ^ jb_n N → jb_cn j C S → jb_cn j (C ||| 2 ^ j) T → S < T := fun S T hS hT a b => by
    refine jn_cmp hT hS (i := j) (fun i hi => ?_) ?_ ?_
    · rw [a i (by omega), b i (by omega), Nat.testBit_or, jn_2f.2 (show i ≠ j by omega), Bool.or_false]
    · rw [a j (Nat.le_refl _), hCj]
    · rw [b j (Nat.le_refl _), Nat.testBit_or, jn_2k]
      simp
  rcases h1 with ⟨a1, a2, a3⟩ | ⟨a1, a2, a3, a4, a5, a6⟩
  · rcases h2 with ⟨b1, b2, b3⟩ | ⟨b1, b2, b3, b4, b5, b6⟩
    · refine Or.inl ⟨by omega, by omega, fun T hT hc hh => ?_⟩
      rcases sp T hc with ⟨_, s⟩ | ⟨_, s⟩
      · exact a3 T hT s hh
      · rw [← a1]
        exact b3 T hT s hh
    · refine Or.inr ⟨b1, c2 _ b2, b3, b4, by omega, fun T hT hc hh => ?_⟩
      rcases sp T hc with ⟨_, s⟩ | ⟨_, s⟩
      · have := a3 T hT s hh
        omega
      · exact b6 T hT s hh
  · rcases h2 with ⟨b1, b2, b3⟩ | ⟨b1, b2, b3, b4, b5, b6⟩
    · subst b1 b2
      refine Or.inr ⟨a1, c1 _ a2, a3, a4, a5, fun T hT hc hh => ?_⟩
      rcases sp T hc with ⟨_, s⟩ | ⟨_, s⟩
      · exact a6 T hT s hh
      · have h1 := b3 T hT s hh
        have h2 := lt _ T a1 hT a2 s
        omega
    · refine Or.inr ⟨b1, c2 _ b2, b3, b4, by omega, fun T hT hc hh => ?_⟩
      rcases sp T hc with ⟨_, s⟩ | ⟨_, s⟩
      · have := a6 T hT s hh
        omega
      · exact b6 T hT s hh
theorem jp_P21 {h0 h : jx_H} (P : jp_P h0 N) (f : ∀ c, c ≠ 21 → h.1 c = h0.1 c) : jp_P h N := by
  unfold jp_P jp_H jp_T at *
  rw [f 14 (by decide), f 15 (by decide), f 16 (by decide), f 17 (by decide), f 18 (by decide)]
  exact P
theorem dm_search {h0 : jx_H} (w : jb_wf N) (P0 : jp_P h0 N) (x0 : jb_X h0 0 N) (hp2 : 2 ≤ jb_p N) (hk : k ≤ 8) : ∀ (j C LP LS : Nat) (h : jx_H), j ≤ jb_n N → C < 2 ^ jb_n N → (∀ i, i < j → C.testBit i = false) → LP ≤ 20001 → k ≤ jb_hm N (C ||| (2 ^ j - 1)) 1000 → (∀ c, c ≠ 21 → h.1 c = h0.1 c) → h.1 21 0 0 = nI 1 → h.1 21 0 1 = nI 1 → h.1 21 0 2 = nI k → h.1 21 0 3 = nI LP → h.1 21 0 4 = nI LS → ∃ LP' LS' h', DM (d + j + 4) 72 [vr 21 0, vi (jn_dn j), vi (nI C), vi (nI (jb_pr N C))] h = some ([], h') ∧ (∀ c, c ≠ 21 → h'.1 c = h0.1 c) ∧ h'.1 21 0 0 = nI 1 ∧ h'.1 21 0 1 = nI 1 ∧ h'.1 21 0 2 = nI k ∧ h'.1 21 0 3 = nI LP' ∧ h'.1 21 0 4 = nI LS' ∧ LP' ≤ 20001 ∧ jb_bs N k j C LP LS LP' LS' := by
  have hn := w.2.1
  have h20 := jn_pow20 hn
  intro j
  induction j with
  | zero =>
    intro C LP LS h hj hC hCl hLP hh f g0 g1 g2 g3 g4
    have hprl := jb_pr_le w C
    have hprl2 : jb_n N * 1000 ≤ 20 * 1000 := Nat.mul_le_mul_right _ hn
    rw [show 2 ^ 0 - 1 = 0 from rfl, Nat.or_zero] at hh
    have cone : ∀ T, jb_cn 0 C T → T = C := fun T hT => Nat.eq_of_testBit_eq (fun i => hT i (Nat.zero_le _))
    by_cases c : jb_pr N C < LP
    · refine ⟨jb_pr N C, C, jx_sI (jx_sI h 21 0 3 (nI (jb_pr N C))) 21 0 4 (nI C), ?_, fun a ha => by rw [jx_sk ha, jx_sk ha]; exact f a ha, by rw [jx_sp (by decide), jx_sp (by decide)]; exact g0, by rw [jx_sp (by decide), jx_sp (by decide)]; exact g1, by rw [jx_sp (by decide), jx_sp (by decide)]; exact g2, by rw [jx_sp (by decide), jx_ss], jx_ss, by omega, Or.inr ⟨hC, fun _ _ => rfl, hh, rfl, c, fun T _ hT _ => ?_⟩⟩
      · rw [d72, e72_0, g3]
        simp (disch := omega) only [jx_bI_s, jx_bL_s, jx_bV_s, eq_self, true_or, or_true, jx_if_t, jx_if_f, jq_b0, jq_b1, jq_bb, jq_b01, jx_if_in, jx_if_lt, jx_if_nlt, jx_if_le, jx_if_nle, jq_eqp, jq_eqn, nI_clamp, nI_add, pk_sub, pk_mul, jn_and, jn_or, jn_xor, jq_andn, jq_shl1, jq_bit, jq_mn, jq_mx, cond_true, cond_false, jq_jt, jq_jf, jq_e1, jq_e2, jq_e3, jq_e4, Bool.not_true, Bool.not_false, jq_0, jq_1, jq_2, jq_3, jq_4, jq_5, jq_6, jq_8, jq_12, jq_16, jq_20, jq_21, jq_24, jq_30, jq_32, jq_60, jq_84, jq_1000, jq_2436, jq_20001, jq_dlt0]
      · rw [cone T hT]
        exact Or.inr ⟨rfl, Nat.le_refl _⟩
    · refine ⟨LP, LS, h, ?_, f, g0, g1, g2, g3, g4, hLP, Or.inl ⟨rfl, rfl, fun T _ hT _ => ?_⟩⟩
      · rw [d72, e72_0, g3]
        simp (disch := omega) only [jx_bI_s, jx_bL_s, jx_bV_s, eq_self, true_or, or_true, jx_if_t, jx_if_f, jq_b0, jq_b1, jq_bb, jq_b01, jx_if_in, jx_if_lt, jx_if_nlt, jx_if_le, jx_if_nle, jq_eqp, jq_eqn, nI_clamp, nI_add, pk_sub, pk_mul, jn_and, jn_or, jn_xor, jq_andn, jq_shl1, jq_bit, jq_mn, jq_mx, cond_true, cond_false, jq_jt, jq_jf, jq_e1, jq_e2, jq_e3, jq_e4, Bool.not_true, Bool.not_false, jq_0, jq_1, jq_2, jq_3, jq_4, jq_5, jq_6, jq_8, jq_12, jq_16, jq_20, jq_21, jq_24, jq_30, jq_32, jq_60, jq_84, jq_1000, jq_2436, jq_20001]
      · rw [cone T hT]
        omega
  | succ j ih =>
    intro C LP LS h hj hC hCl hLP hh f g0 g1 g2 g3 g4
    have hjn : j < jb_n N := by omega
    have hCj := hCl j (by omega)
    have hprl := jb_pr_le w C
    have hprl2 : jb_n N * 1000 ≤ 20 * 1000 := Nat.mul_le_mul_right _ hn
    have hwj := (w.2.2 j hjn).2.2.2.1
    have hpj := Nat.two_pow_pos j
    have h2j := jn_2lt hjn
    have hT1 : C ||| (2 ^ j - 1) < 2 ^ jb_n N := jn_or_lt hC (by omega)
    by_cases c : jb_pr N C < LP
    · -- left out first
      have P := jp_P21 P0 f
      have x := x0.kept (h' := h) (i := 0) (fun a h1 h2 => by rw [f a (by omega)])
      obtain ⟨B, b1, b2⟩ := dm_hardX (d := d + j + 2) w P (T := C ||| (2 ^ j - 1)) (k := k) (by omega) hk
      have hC2 : C ||| 2 ^ j < 2 ^ jb_n N := jn_or_lt hC h2j
      have hh2 : k ≤ jb_hm N ((C ||| 2 ^ j) ||| (2 ^ j - 1)) 1000 := by
        have : (C ||| 2 ^ j) ||| (2 ^ j - 1) = C ||| (2 ^ (j + 1) - 1) := by
          apply Nat.eq_of_testBit_eq
          intro i
          rw [Nat.testBit_or, Nat.testBit_or, Nat.testBit_or, jn_2k, jn_all_t, jn_all_t]
          by_cases e : j = i
          · subst e
            simp
          · by_cases e2 : i < j
            · simp [e, e2, show i < j + 1 by omega]
            · simp [e, e2, show ¬ i < j + 1 by omega]
        rw [this]
        exact hh
      have second : ∀ LP1 LS1 h1, LP1 ≤ 20001 → (∀ c, c ≠ 21 → h1.1 c = h0.1 c) → h1.1 21 0 0 = nI 1 → h1.1 21 0 1 = nI 1 → h1.1 21 0 2 = nI k → h1.1 21 0 3 = nI LP1 → h1.1 21 0 4 = nI LS1 → jb_bs N k j C LP LS LP1 LS1 → ∃ LP' LS' h', F72_53 (DM (d + j + 4)) (nI j) (nI C) (nI (jb_pr N C)) h1 = some ([], h') ∧ (∀ c, c ≠ 21 → h'.1 c = h0.1 c) ∧ h'.1 21 0 0 = nI 1 ∧ h'.1 21 0 1 = nI 1 ∧ h'.1 21 0 2 = nI k ∧ h'.1 21 0 3 = nI LP' ∧ h'.1 21 0 4 = nI LS' ∧ LP' ≤ 20001 ∧ jb_bs N k (j + 1) C LP LS LP' LS' := by
        intro LP1 LS1 h1 hl q1 q2 q3 q4 q5 q6 q7
        obtain ⟨LP', LS', h', e1, e2, e3, e4, e5, e6, e7, e8, e9⟩ := ih (C ||| 2 ^ j) LP1 LS1 h1 (by omega) hC2 (fun i hi => by rw [Nat.testBit_or, hCl i (by omega), jn_2f.2 (show i ≠ j by omega)]; rfl) hl hh2 q1 q2 q3 q4 q5 q6
        refine ⟨LP', LS', h', ?_, e2, e3, e4, e5, e6, e7, e8, jb_bs_join hCj q7 e9⟩
        have xp : h1.1 4 0 j = nI (jb_c N j) := by
          rw [q1 4 (by decide)]
          exact (x0.2.2.2 j hjn).2.2.1
        rw [jb_pr_add hjn hCj] at e1
        rw [e72_53, q3]
        simp (disch := omega) only [jx_bI_s, jx_bL_s, jx_bV_s, eq_self, true_or, or_true, jx_if_t, jx_if_f, jq_b0, jq_b1, jq_bb, jq_b01, jx_if_in, jx_if_lt, jx_if_nlt, jx_if_le, jx_if_nle, jq_eqp, jq_eqn, nI_clamp, nI_add, pk_mul, jn_and, jn_or, jn_xor, jq_andn, jq_shl1, jq_bit, jq_mn, jq_mx, cond_true, cond_false, jq_jt, jq_jf, jq_e1, jq_e2, jq_e3, jq_e4, Bool.not_true, Bool.not_false, jq_0, jq_1, jq_2, jq_3, jq_4, jq_5, jq_6, jq_8, jq_12, jq_16, jq_20, jq_21, jq_24, jq_30, jq_32, jq_60, jq_84, jq_1000, jq_2436, jq_20001, xp, jq_dn0, e1]
      have start : ∀ r, (bif B then (jx_bV (DM (d + j + 4) 72 [vr 21 0, vi (jn_dn j), vi (nI C), vi (nI (jb_pr N C))] h) fun h3 => F72_53 (DM (d + j + 4)) (nI j) (nI C) (nI (jb_pr N C)) h3) else F72_53 (DM (d + j + 4)) (nI j) (nI C) (nI (jb_pr N C)) h) = r → DM (d + (j + 1) + 4) 72 [vr 21 0, vi (jn_dn (j + 1)), vi (nI C), vi (nI (jb_pr N C))] h = r := by
        intro r hr
        rw [show d + (j + 1) + 4 = (d + j + 4) + 1 by omega, d72, e72_0, g3, g0, show jn_dn (j + 1) = nI j from rfl]
        cases B
        · simp (disch := omega) only [jx_bI_s, jx_bL_s, jx_bV_s, eq_self, true_or, or_true, jx_if_t, jx_if_f, jq_b0, jq_b1, jq_bb, jq_b01, jx_if_in, jx_if_lt, jx_if_nlt, jx_if_le, jx_if_nle, jq_eqp, jq_eqn, nI_clamp, nI_add, pk_mul, jn_and, jn_or, jn_xor, jq_andn, jq_shl1, jq_bit, jq_mn, jq_mx, cond_true, cond_false, jq_jt, jq_jf, jq_e1, jq_e2, jq_e3, jq_e4, Bool.not_true, Bool.not_false, jq_0, jq_1, jq_2, jq_3, jq_4, jq_5, jq_6, jq_8, jq_12, jq_16, jq_20, jq_21, jq_24, jq_30, jq_32, jq_60, jq_84, jq_1000, jq_2436, jq_20001, dm_first, g2, b1]
          exact hr
        · simp (disch := omega) only [jx_bI_s, jx_bL_s, jx_bV_s, eq_self, true_or, or_true, jx_if_t, jx_if_f, jq_b0, jq_b1, jq_bb, jq_b01, jx_if_in, jx_if_lt, jx_if_nlt, jx_if_le, jx_if_nle, jq_eqp, jq_eqn, nI_clamp, nI_add, pk_mul, jn_and, jn_or, jn_xor, jq_andn, jq_shl1, jq_bit, jq_mn, jq_mx, cond_true, cond_false, jq_jt, jq_jf, jq_e1, jq_e2, jq_e3, jq_e4, Bool.not_true, Bool.not_false, jq_0, jq_1, jq_2, jq_3, jq_4, jq_5, jq_6, jq_8, jq_12, jq_16, jq_20, jq_21, jq_24, jq_30, jq_32, jq_60, jq_84, jq_1000, jq_2436, jq_20001, dm_first, g2, b1, jq_dn0]
          exact hr
      cases B
      · obtain ⟨LP', LS', h', e1, e2⟩ := second LP LS h hLP f g0 g1 g2 g3 g4 (Or.inl ⟨rfl, rfl, fun T hT hc hT2 => by
          exfalso
          have hs : jn_sb T (C ||| (2 ^ j - 1)) := fun i hi => by
            rw [Nat.testBit_or, jn_all_t]
            by_cases e : i < j
            · simp [e]
            · rw [hc i (by omega)] at hi
              rw [hi]
              rfl
          have := jb_hm_mono (N := N) (v := 1000) hs
          have := b2.2 ⟨hp2, by omega⟩
          cases this⟩)
        exact ⟨LP', LS', h', start _ e1, e2⟩
      · obtain ⟨LP1, LS1, h1, e1, e2, e3, e4, e5, e6, e7, e8, e9⟩ := ih C LP LS h (by omega) hC (fun i hi => hCl i (by omega)) hLP (b2.1 rfl).2 f g0 g1 g2 g3 g4
        obtain ⟨LP', LS', h', q1, q2⟩ := second LP1 LS1 h1 e8 e2 e3 e4 e5 e6 e7 e9
        refine ⟨LP', LS', h', start _ ?_, q2⟩
        rw [cond_true, e1, jx_bV_s]
        exact q1
    · refine ⟨LP, LS, h, ?_, f, g0, g1, g2, g3, g4, hLP, Or.inl ⟨rfl, rfl, fun T hT hc _ => ?_⟩⟩
      · rw [show d + (j + 1) + 4 = (d + j + 4) + 1 by omega, d72, e72_0, g3]
        simp (disch := omega) only [jx_bI_s, jx_bL_s, jx_bV_s, eq_self, true_or, or_true, jx_if_t, jx_if_f, jq_b0, jq_b1, jq_bb, jq_b01, jx_if_in, jx_if_lt, jx_if_nlt, jx_if_le, jx_if_nle, jq_eqp, jq_eqn, nI_clamp, nI_add, pk_sub, pk_mul, jn_and, jn_or, jn_xor, jq_andn, jq_shl1, jq_bit, jq_mn, jq_mx, cond_true, cond_false, jq_jt, jq_jf, jq_e1, jq_e2, jq_e3, jq_e4, Bool.not_true, Bool.not_false, jq_0, jq_1, jq_2, jq_3, jq_4, jq_5, jq_6, jq_8, jq_12, jq_16, jq_20, jq_21, jq_24, jq_30, jq_32, jq_60, jq_84, jq_1000, jq_2436, jq_20001]
      · have hs : jn_sb C T := fun i hi => by
          by_cases e : i < j + 1
          · rw [hCl i e] at hi
            cases hi
          · rw [hc i (by omega)]
            exact hi
        have := jb_pr_mono (N := N) hs
        omega
theorem dm_bestM {h : jx_H} (w : jb_wf N) (m : jb_M h N) (hp2 : 2 ≤ jb_p N) (hk : k ≤ 8) : ∀ (i B : Nat), i ≤ 2 ^ jb_n N → B < 2 ^ jb_n N → k ≤ jb_hm N B 1000 → (∀ T, i ≤ T → T < 2 ^ jb_n N → k ≤ jb_hm N T 1000 → jb_pr N B < jb_pr N T ∨ (jb_pr N B = jb_pr N T ∧ B ≤ T)) → (B < i → B = 2 ^ jb_n N - 1) → (i ≤ B ∨ i = 2 ^ jb_n N) → ∃ B', F154_66 (DM (d + 3)) (nI k) (nI B) (jn_dn i) h = some ([vi (nI B')], h) ∧ B' < 2 ^ jb_n N ∧ k ≤ jb_hm N B' 1000 ∧ ∀ T, T < 2 ^ jb_n N → k ≤ jb_hm N T 1000 → jb_pr N B' < jb_pr N T ∨ (jb_pr N B' = jb_pr N T ∧ B' ≤ T) := by
  have hn := w.2.1
  have h20 := jn_pow20 hn
  have hprl2 : jb_n N * 1000 ≤ 20 * 1000 := Nat.mul_le_mul_right _ hn
  have hif : (if jb_p N < 2 then 0 else 1000) = 1000 := if_neg (by omega)
  intro i
  induction i with
  | zero =>
    intro B _ hB hh hT _ _
    refine ⟨B, ?_, hB, hh, fun T hT2 => hT T (Nat.zero_le _) hT2⟩
    rw [e154_66, jq_0, jq_dlt0]
  | succ i ih =>
    intro B hi hB hh hT hlt hge
    have p1 := jb_pr_le w i
    have p2 := jb_pr_le w B
    have hml : jb_hm N i 1000 ≤ 1000 := jn_mn_le0 _
    have hN := dm_netHoldT (d := d) w m (T := i) (by omega)
    rw [hif] at hN
    rw [e154_66, show jn_dn (i + 1) = nI i from rfl]
    have hBi : i + 1 ≤ B ∨ B = 2 ^ jb_n N - 1 := by
      rcases hge with c | c
      · exact Or.inl c
      · by_cases e : B < i + 1
        · exact Or.inr (hlt e)
        · exact Or.inl (by omega)
    by_cases c1 : jb_pr N i ≤ jb_pr N B
    · by_cases c2 : k ≤ jb_hm N i 1000
      · obtain ⟨B', b1, b2⟩ := ih i (by omega) (by omega) c2 (fun T h1 h2 h3 => by
          by_cases e : T = i
          · rw [e]
            exact Or.inr ⟨rfl, Nat.le_refl _⟩
          · have := hT T (by omega) h2 h3
            omega) (fun c => by omega) (Or.inl (Nat.le_refl _))
        refine ⟨B', ?_, b2⟩
        simp (disch := omega) only [jx_bI_s, jx_bL_s, jx_bV_s, eq_self, true_or, or_true, jx_if_t, jx_if_f, jq_b0, jq_b1, jq_bb, jq_b01, jx_if_in, jx_if_lt, jx_if_nlt, jx_if_le, jx_if_nle, jq_eqp, jq_eqn, nI_clamp, nI_add, pk_sub, pk_mul, jn_and, jn_or, jn_xor, jq_andn, jq_shl1, jq_bit, jq_mn, jq_mx, cond_true, cond_false, jq_jt, jq_jf, jq_e1, jq_e2, jq_e3, jq_e4, Bool.not_true, Bool.not_false, jq_0, jq_1, jq_2, jq_3, jq_4, jq_5, jq_6, jq_8, jq_12, jq_16, jq_20, jq_21, jq_24, jq_30, jq_32, jq_60, jq_84, jq_1000, jq_2436, jq_20001, dm_priceM w m, m.2.1, hN, e154_98, jq_dn]
        exact b1
      · obtain ⟨B', b1, b2⟩ := ih B (by omega) hB hh (fun T h1 h2 h3 => by
          by_cases e : T = i
          · rw [e] at h3
            exact absurd h3 c2
          · exact hT T (by omega) h2 h3) (fun c => by omega) (Or.inl (by omega))
        refine ⟨B', ?_, b2⟩
        simp (disch := omega) only [jx_bI_s, jx_bL_s, jx_bV_s, eq_self, true_or, or_true, jx_if_t, jx_if_f, jq_b0, jq_b1, jq_bb, jq_b01, jx_if_in, jx_if_lt, jx_if_nlt, jx_if_le, jx_if_nle, jq_eqp, jq_eqn, nI_clamp, nI_add, pk_sub, pk_mul, jn_and, jn_or, jn_xor, jq_andn, jq_shl1, jq_bit, jq_mn, jq_mx, cond_true, cond_false, jq_jt, jq_jf, jq_e1, jq_e2, jq_e3, jq_e4, Bool.not_true, Bool.not_false, jq_0, jq_1, jq_2, jq_3, jq_4, jq_5, jq_6, jq_8, jq_12, jq_16, jq_20, jq_21, jq_24, jq_30, jq_32, jq_60, jq_84, jq_1000, jq_2436, jq_20001, dm_priceM w m, m.2.1, hN, e154_98, jq_dn]
        exact b1
    · obtain ⟨B', b1, b2⟩ := ih B (by omega) hB hh (fun T h1 h2 h3 => by
        by_cases e : T = i
        · rw [e]
          exact Or.inl (by omega)
        · exact hT T (by omega) h2 h3) (fun c => by omega) (Or.inl (by omega))
      refine ⟨B', ?_, b2⟩
      simp (disch := omega) only [jx_bI_s, jx_bL_s, jx_bV_s, eq_self, true_or, or_true, jx_if_t, jx_if_f, jq_b0, jq_b1, jq_bb, jq_b01, jx_if_in, jx_if_lt, jx_if_nlt, jx_if_le, jx_if_nle, jq_eqp, jq_eqn, nI_clamp, nI_add, pk_sub, pk_mul, jn_and, jn_or, jn_xor, jq_andn, jq_shl1, jq_bit, jq_mn, jq_mx, cond_true, cond_false, jq_jt, jq_jf, jq_e1, jq_e2, jq_e3, jq_e4, Bool.not_true, Bool.not_false, jq_0, jq_1, jq_2, jq_3, jq_4, jq_5, jq_6, jq_8, jq_12, jq_16, jq_20, jq_21, jq_24, jq_30, jq_32, jq_60, jq_84, jq_1000, jq_2436, jq_20001, dm_priceM w m, m.2.1, hN, e154_98, jq_dn]
      exact b1
end
theorem jt_23 {d : Nat} {hx hm : jx_H} (I : jb_Inv hx hm) (a : Int32) : jl_g d 69 154 [vi a] hx hm := by
  obtain ⟨N, w, x, m, h', rd, I', x', P⟩ := I.rd d
  have hp := w.1
  have hn := w.2.1
  have h20 := jn_pow20 hn
  have i20 := Nat.two_pow_pos (jb_n N)
  by_cases a1 : a < 1
  · refine ⟨-1, _, _, ?_, ?_, I.fd⟩
    · rw [d69, e69_0]
      simp (disch := omega) only [jx_bI_s, jx_bL_s, jx_bV_s, eq_self, true_or, or_true, jx_if_t, jx_if_f, jq_b0, jq_b1, jq_bb, jq_b01, jx_if_in, jx_if_lt, jx_if_nlt, jx_if_le, jx_if_nle, jq_eqp, jq_eqn, nI_clamp, nI_add, pk_sub, pk_mul, jn_and, jn_or, jn_xor, jq_andn, jq_shl1, jq_bit, jq_mn, jq_mx, cond_true, cond_false, jq_jt, jq_jf, jq_e1, jq_e2, jq_e3, jq_e4, Bool.not_true, Bool.not_false, jq_0, jq_1, jq_2, jq_3, jq_4, jq_5, jq_6, jq_8, jq_12, jq_16, jq_20, jq_21, jq_24, jq_30, jq_32, jq_60, jq_84, jq_1000, jq_2436, jq_20001, jx_ifp (show a < nI 1 from a1), e69_11, dm_fx]
    · rw [d154, e154_0]
      simp (disch := omega) only [jx_bI_s, jx_bL_s, jx_bV_s, eq_self, true_or, or_true, jx_if_t, jx_if_f, jq_b0, jq_b1, jq_bb, jq_b01, jx_if_in, jx_if_lt, jx_if_nlt, jx_if_le, jx_if_nle, jq_eqp, jq_eqn, nI_clamp, nI_add, pk_sub, pk_mul, jn_and, jn_or, jn_xor, jq_andn, jq_shl1, jq_bit, jq_mn, jq_mx, cond_true, cond_false, jq_jt, jq_jf, jq_e1, jq_e2, jq_e3, jq_e4, Bool.not_true, Bool.not_false, jq_0, jq_1, jq_2, jq_3, jq_4, jq_5, jq_6, jq_8, jq_12, jq_16, jq_20, jq_21, jq_24, jq_30, jq_32, jq_60, jq_84, jq_1000, jq_2436, jq_20001, jx_ifp (show a < nI 1 from a1), e154_11, dm_fm]
  by_cases a8 : a ≤ 8
  · obtain ⟨k, hk8, rfl⟩ := nI_of2 (x := a) (M := 8) (n := 8) (by decide) (fun c => a1 (by
      rw [Int32.lt_iff_toInt_lt] at c ⊢
      have e0 : (0 : Int32).toInt = 0 := by decide
      have e1 : (1 : Int32).toInt = 1 := by decide
      omega)) a8
    have hk1 : 1 ≤ k := by
      apply Classical.byContradiction
      intro c
      exact a1 (by rw [show k = 0 by omega]; decide)
    by_cases n12 : jb_n N ≤ 12
    · obtain ⟨B, b1, b2⟩ := dm_hardX (d := d + 37) w P (T := 2 ^ jb_n N - 1) (k := k) (by omega) hk8
      have hHl : jb_hm N (2 ^ jb_n N - 1) 1000 ≤ 1000 := jn_mn_le0 _
      cases B
      · refine ⟨-6, _, _, ?_, ?_, I'.fd⟩
        · rw [d69, e69_0]
          simp (disch := omega) only [jx_bI_s, jx_bL_s, jx_bV_s, eq_self, true_or, or_true, jx_if_t, jx_if_f, jq_b0, jq_b1, jq_bb, jq_b01, jx_if_in, jx_if_lt, jx_if_nlt, jx_if_le, jx_if_nle, jq_eqp, jq_eqn, nI_clamp, nI_add, pk_sub, pk_mul, jn_and, jn_or, jn_xor, jq_andn, jq_shl1, jq_bit, jq_mn, jq_mx, cond_true, cond_false, jq_jt, jq_jf, jq_e1, jq_e2, jq_e3, jq_e4, Bool.not_true, Bool.not_false, jq_0, jq_1, jq_2, jq_3, jq_4, jq_5, jq_6, jq_8, jq_12, jq_16, jq_20, jq_21, jq_24, jq_30, jq_32, jq_60, jq_84, jq_1000, jq_2436, jq_20001, x.2.1, rd, P.1.2.2.2.2.1, b1, dm_fx]
        · rw [d154, e154_0]
          by_cases hp2 : jb_p N < 2
          · simp (disch := omega) only [jx_bI_s, jx_bL_s, jx_bV_s, eq_self, true_or, or_true, jx_if_t, jx_if_f, jq_b0, jq_b1, jq_bb, jq_b01, jx_if_in, jx_if_lt, jx_if_nlt, jx_if_le, jx_if_nle, jq_eqp, jq_eqn, nI_clamp, nI_add, pk_sub, pk_mul, jn_and, jn_or, jn_xor, jq_andn, jq_shl1, jq_bit, jq_mn, jq_mx, cond_true, cond_false, jq_jt, jq_jf, jq_e1, jq_e2, jq_e3, jq_e4, Bool.not_true, Bool.not_false, jq_0, jq_1, jq_2, jq_3, jq_4, jq_5, jq_6, jq_8, jq_12, jq_16, jq_20, jq_21, jq_24, jq_30, jq_32, jq_60, jq_84, jq_1000, jq_2436, jq_20001, m.2.1, m.1, e154_49, dm_fm]
          · have hN := dm_netHoldM (d := d + 35) w m
            rw [if_neg hp2] at hN
            have : jb_hm N (2 ^ jb_n N - 1) 1000 < k := by
              apply Classical.byContradiction
              intro c
              have := b2.2 ⟨by omega, by omega⟩
              cases this
            simp (disch := omega) only [jx_bI_s, jx_bL_s, jx_bV_s, eq_self, true_or, or_true, jx_if_t, jx_if_f, jq_b0, jq_b1, jq_bb, jq_b01, jx_if_in, jx_if_lt, jx_if_nlt, jx_if_le, jx_if_nle, jq_eqp, jq_eqn, nI_clamp, nI_add, pk_sub, pk_mul, jn_and, jn_or, jn_xor, jq_andn, jq_shl1, jq_bit, jq_mn, jq_mx, cond_true, cond_false, jq_jt, jq_jf, jq_e1, jq_e2, jq_e3, jq_e4, Bool.not_true, Bool.not_false, jq_0, jq_1, jq_2, jq_3, jq_4, jq_5, jq_6, jq_8, jq_12, jq_16, jq_20, jq_21, jq_24, jq_30, jq_32, jq_60, jq_84, jq_1000, jq_2436, jq_20001, m.2.1, m.1, hN, e154_49, dm_fm]
      · obtain ⟨hp2, hH⟩ := b2.1 rfl
        obtain ⟨LP, LS, h3, e1, e2, e3, e4, e5, e6, e7, e8, e9⟩ := dm_search (d := d + 34 - jb_n N) (k := k) (h0 := jx_sI (jx_sI (jx_sI (jx_sI (jx_sI h' 21 0 0 (nI 1)) 21 0 1 (nI 1)) 21 0 2 (nI k)) 21 0 3 (nI 20001)) 21 0 4 (nI 0)) w (jp_P21 P (fun c hc => by rw [jx_sk hc, jx_sk hc, jx_sk hc, jx_sk hc, jx_sk hc])) (x'.kept (fun c h1 h2 => by rw [jx_sk (by omega), jx_sk (by omega), jx_sk (by omega), jx_sk (by omega), jx_sk (by omega)])) hp2 hk8 (jb_n N) 0 20001 0 _ (Nat.le_refl _) i20 (fun i _ => Nat.zero_testBit _) (Nat.le_refl _) (by rw [Nat.zero_or]; exact hH) (fun _ _ => rfl) (by rw [jx_sp (by decide), jx_sp (by decide), jx_sp (by decide), jx_sp (by decide), jx_ss]) (by rw [jx_sp (by decide), jx_sp (by decide), jx_sp (by decide), jx_ss]) (by rw [jx_sp (by decide), jx_sp (by decide), jx_ss]) (by rw [jx_sp (by decide), jx_ss]) jx_ss
        have e0 : jb_pr N 0 = 0 := by
          unfold jb_pr
          have : ∀ n, jn_sm (fun r => if (0 : Nat).testBit r = true then jb_c N r else 0) n = 0 := by
            intro n
            induction n with
            | zero => rfl
            | succ n ih =>
              show jn_sm _ n + (if (0 : Nat).testBit n = true then jb_c N n else 0) = 0
              rw [ih, Nat.zero_testBit]
              rfl
          exact this _
        rw [show d + 34 - jb_n N + jb_n N + 4 = d + 38 by omega, e0] at e1
        have cone : ∀ T, T < 2 ^ jb_n N → jb_cn (jb_n N) 0 T := fun T hT i hi => by
          rw [Nat.zero_testBit]
          have h2 : 2 ^ jb_n N ≤ 2 ^ i := Nat.pow_le_pow_right (by decide) hi
          exact Nat.testBit_lt_two_pow (by omega)
        have hall : 2 ^ jb_n N - 1 < 2 ^ jb_n N := by omega
        have hpa := jb_pr_le w (2 ^ jb_n N - 1)
        have hprl2 : jb_n N * 1000 ≤ 20 * 1000 := Nat.mul_le_mul_right _ hn
        obtain ⟨B', c1, c2, c3, c4⟩ := dm_bestM (d := d + 36) w m hp2 hk8 (2 ^ jb_n N) (2 ^ jb_n N - 1) (Nat.le_refl _) hall hH (fun T h1 h2 => by omega) (fun _ => rfl) (Or.inr rfl)
        have eB : LS = B' := by
          rcases e9 with ⟨_, _, q⟩ | ⟨q1, q2, q3, q4, q5, q6⟩
          · have := q _ hall (cone _ hall) hH
            omega
          · have u1 := q6 B' c2 (cone _ c2) c3
            have u2 := c4 LS q1 q3
            omega
        have f21 : ∀ c, c ≠ 21 → h3.1 c = h'.1 c := fun c hc => by rw [e2 c hc, jx_sk hc, jx_sk hc, jx_sk hc, jx_sk hc, jx_sk hc]
        refine ⟨nI LS, h3, hm, ?_, ?_, I'.sx (jb_SX1 (k := 21) (by unfold jb_sx; omega) (by decide) (by decide) (by decide) (by decide) f21) jb_SM.rf⟩
        · rw [d69, e69_0]
          simp (disch := omega) only [jx_bI_s, jx_bL_s, jx_bV_s, eq_self, true_or, or_true, jx_if_t, jx_if_f, jq_b0, jq_b1, jq_bb, jq_b01, jx_if_in, jx_if_lt, jx_if_nlt, jx_if_le, jx_if_nle, jq_eqp, jq_eqn, nI_clamp, nI_add, pk_mul, jn_and, jn_or, jn_xor, jq_andn, jq_shl1, jq_bit, jq_mn, jq_mx, cond_true, cond_false, jq_jt, jq_jf, jq_e1, jq_e2, jq_e3, jq_e4, Bool.not_true, Bool.not_false, jq_0, jq_1, jq_2, jq_3, jq_4, jq_5, jq_6, jq_8, jq_12, jq_16, jq_20, jq_21, jq_24, jq_30, jq_32, jq_60, jq_84, jq_1000, jq_2436, jq_20001, x.2.1, rd, P.1.2.2.2.2.1, b1, d71, e71_0, x'.2.1, jq_dn0, e1, e7]
        · have hN := dm_netHoldM (d := d + 35) w m
          rw [if_neg (show ¬ jb_p N < 2 by omega)] at hN
          have dn : jn_dn (2 ^ jb_n N) = nI (2 ^ jb_n N - 1) := by
            rw [← jq_dn0, pk_sub (by omega)]
          rw [dn] at c1
          rw [d154, e154_0, eB]
          simp (disch := omega) only [jx_bI_s, jx_bL_s, jx_bV_s, eq_self, true_or, or_true, jx_if_t, jx_if_f, jq_b0, jq_b1, jq_bb, jq_b01, jx_if_in, jx_if_lt, jx_if_nlt, jx_if_le, jx_if_nle, jq_eqp, jq_eqn, nI_clamp, nI_add, pk_sub, pk_mul, jn_and, jn_or, jn_xor, jq_andn, jq_shl1, jq_bit, jq_mn, jq_mx, cond_true, cond_false, jq_jt, jq_jf, jq_e1, jq_e2, jq_e3, jq_e4, Bool.not_true, Bool.not_false, jq_0, jq_1, jq_2, jq_3, jq_4, jq_5, jq_6, jq_8, jq_12, jq_16, jq_20, jq_21, jq_24, jq_30, jq_32, jq_60, jq_84, jq_1000, jq_2436, jq_20001, m.2.1, m.1, hN, dm_allR (n := jb_n N) (by omega) m.2.1, c1]
    · refine ⟨-7, _, _, ?_, ?_, I.fd⟩
      · rw [d69, e69_0, show (-7 : Int32) = -nI 7 from rfl]
        simp (disch := omega) only [jx_bI_s, jx_bL_s, jx_bV_s, eq_self, true_or, or_true, jx_if_t, jx_if_f, jq_b0, jq_b1, jq_bb, jq_b01, jx_if_in, jx_if_lt, jx_if_nlt, jx_if_le, jx_if_nle, jq_eqp, jq_eqn, nI_clamp, nI_add, pk_sub, pk_mul, jn_and, jn_or, jn_xor, jq_andn, jq_shl1, jq_bit, jq_mn, jq_mx, cond_true, cond_false, jq_jt, jq_jf, jq_e1, jq_e2, jq_e3, jq_e4, Bool.not_true, Bool.not_false, jq_0, jq_1, jq_2, jq_3, jq_4, jq_5, jq_6, jq_8, jq_12, jq_16, jq_20, jq_21, jq_24, jq_30, jq_32, jq_60, jq_84, jq_1000, jq_2436, jq_20001, x.2.1, dm_fx]
      · rw [d154, e154_0, show (-7 : Int32) = -nI 7 from rfl]
        simp (disch := omega) only [jx_bI_s, jx_bL_s, jx_bV_s, eq_self, true_or, or_true, jx_if_t, jx_if_f, jq_b0, jq_b1, jq_bb, jq_b01, jx_if_in, jx_if_lt, jx_if_nlt, jx_if_le, jx_if_nle, jq_eqp, jq_eqn, nI_clamp, nI_add, pk_sub, pk_mul, jn_and, jn_or, jn_xor, jq_andn, jq_shl1, jq_bit, jq_mn, jq_mx, cond_true, cond_false, jq_jt, jq_jf, jq_e1, jq_e2, jq_e3, jq_e4, Bool.not_true, Bool.not_false, jq_0, jq_1, jq_2, jq_3, jq_4, jq_5, jq_6, jq_8, jq_12, jq_16, jq_20, jq_21, jq_24, jq_30, jq_32, jq_60, jq_84, jq_1000, jq_2436, jq_20001, m.2.1, dm_fm]
  · refine ⟨-1, _, _, ?_, ?_, I.fd⟩
    · rw [d69, e69_0]
      simp (disch := omega) only [jx_bI_s, jx_bL_s, jx_bV_s, eq_self, true_or, or_true, jx_if_t, jx_if_f, jq_b0, jq_b1, jq_bb, jq_b01, jx_if_in, jx_if_lt, jx_if_nlt, jx_if_le, jx_if_nle, jq_eqp, jq_eqn, nI_clamp, nI_add, pk_sub, pk_mul, jn_and, jn_or, jn_xor, jq_andn, jq_shl1, jq_bit, jq_mn, jq_mx, cond_true, cond_false, jq_jt, jq_jf, jq_e1, jq_e2, jq_e3, jq_e4, Bool.not_true, Bool.not_false, jq_0, jq_1, jq_2, jq_3, jq_4, jq_5, jq_6, jq_8, jq_12, jq_16, jq_20, jq_21, jq_24, jq_30, jq_32, jq_60, jq_84, jq_1000, jq_2436, jq_20001, jx_ifn (show ¬ a < nI 1 from a1), jx_ifn (show ¬ a ≤ nI 8 from a8), e69_11, dm_fx]
    · rw [d154, e154_0]
      simp (disch := omega) only [jx_bI_s, jx_bL_s, jx_bV_s, eq_self, true_or, or_true, jx_if_t, jx_if_f, jq_b0, jq_b1, jq_bb, jq_b01, jx_if_in, jx_if_lt, jx_if_nlt, jx_if_le, jx_if_nle, jq_eqp, jq_eqn, nI_clamp, nI_add, pk_sub, pk_mul, jn_and, jn_or, jn_xor, jq_andn, jq_shl1, jq_bit, jq_mn, jq_mx, cond_true, cond_false, jq_jt, jq_jf, jq_e1, jq_e2, jq_e3, jq_e4, Bool.not_true, Bool.not_false, jq_0, jq_1, jq_2, jq_3, jq_4, jq_5, jq_6, jq_8, jq_12, jq_16, jq_20, jq_21, jq_24, jq_30, jq_32, jq_60, jq_84, jq_1000, jq_2436, jq_20001, jx_ifn (show ¬ a < nI 1 from a1), jx_ifn (show ¬ a ≤ nI 8 from a8), e154_11, dm_fm]
