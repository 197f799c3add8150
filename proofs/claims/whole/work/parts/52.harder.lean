/-! ===== layer 2: harder ===== -/
theorem jh_L_le {N : jb_N} {k : Nat} : ∀ X, jh_L N k X ≤ k * X := by
  intro X
  induction X using Nat.strongRecOn with
  | ind X ih =>
    rcases jh_L_at (N := N) (k := k) (X := X) with e | ⟨P, p1, p2, p3, p4⟩
    · rw [e]; exact Nat.zero_le _
    · have hl := jn_df_less p1 p2
      have h1 := ih (jn_df X P) hl
      have h2 : k * jn_df X P + k ≤ k * X := by
        rw [← Nat.mul_succ]
        exact Nat.mul_le_mul_left k hl
      omega
theorem jh_L0 {N : jb_N} {k : Nat} : jh_L N k 0 = 0 := by
  have := jh_L_le (N := N) (k := k) 0
  omega
theorem jq_sneg {k c : Nat} (h : k ≤ c) (hc : c < 2 ^ 30) {a b : Option jx_R} : jx_if (nI 0 < nI k - nI c) a b = b := by
  by_cases e : k = c
  · rw [e, pk_sub (Nat.le_refl _), Nat.sub_self]
    exact jx_ifn (by decide)
  · refine jx_ifn (fun c2 => ?_)
    have h1 := pk_sneg hc (show k < c by omega)
    have h2 := Int32.lt_iff_toInt_lt.1 h1
    have h3 := Int32.lt_iff_toInt_lt.1 c2
    have e0 : (nI 0).toInt = 0 := by decide
    have e1 : (0 : Int32).toInt = 0 := by decide
    omega
theorem jq_mxl {k c : Nat} (hk : k < 2 ^ 30) (hc : c < 2 ^ 30) : jx_mx (nI 0) (nI k - nI c) = nI (k - c) := by
  unfold jx_mx
  by_cases h : c < k
  · rw [pk_sub (by omega), if_pos (nI_lt (by omega) (by omega))]
  · rw [if_neg]
    · rw [show k - c = 0 by omega]
    · by_cases e : k = c
      · rw [e, pk_sub (Nat.le_refl _), Nat.sub_self]
        decide
      · intro c2
        have h1 := pk_sneg hc (show k < c by omega)
        have h2 := Int32.lt_iff_toInt_lt.1 h1
        have h3 := Int32.lt_iff_toInt_lt.1 c2
        have e0 : (nI 0).toInt = 0 := by decide
        have e1 : (0 : Int32).toInt = 0 := by decide
        omega
theorem jq_mxm {v k c m : Nat} (hv : v < 2 ^ 29) (hk : k < 2 ^ 28) (hc : c < 2 ^ 30) (hm : m < 2 ^ 28) : jx_mx (nI v) ((nI k - nI c) + nI m) = nI (max v (k + m - c)) := by
  have e : (nI k - nI c) + nI m = nI (k + m) - nI c := by
    rw [Int32.sub_eq_add_neg, Int32.sub_eq_add_neg, Int32.add_assoc, Int32.add_comm (-nI c), ← Int32.add_assoc, nI_add]
  rw [e]
  unfold jx_mx
  by_cases h : c ≤ k + m
  · rw [pk_sub h]
    by_cases h2 : v < k + m - c
    · rw [if_pos (nI_lt h2 (by omega)), Nat.max_eq_right (by omega)]
    · rw [if_neg (nI_nlt (by omega) (by omega)), Nat.max_eq_left (by omega)]
  · rw [if_neg, Nat.max_eq_left (by omega)]
    intro c2
    have h1 := pk_sneg hc (show k + m < c by omega)
    have h2 := Int32.lt_iff_toInt_lt.1 h1
    have h3 := Int32.lt_iff_toInt_lt.1 c2
    have e0 : (nI v).toInt = v := nI_toInt (by omega)
    have e1 : (0 : Int32).toInt = 0 := by decide
    omega
section
variable {d : Nat} {N : jb_N} {k : Nat}
/-- the class's table -/
theorem dm_lackX {h : jx_H} (w : jb_wf N) (P : jp_P h N) {X : Nat} (hX : X < 2 ^ jb_p N) : DM (d + 2) 68 [vr 14 0, vi (nI k), vi (nI X)] h = some ([vi (nI k - nI (jb_cu N X (2 ^ jb_n N - 1)))], h) := by
  have h8 := jn_pow8 w.1
  have h20 := jn_pow20 w.2.1
  have hcl := jp_cu_lt N X
  rw [d68, e68_0]
  simp (disch := omega) only [jx_bI_s, jx_bL_s, jx_bV_s, eq_self, true_or, or_true, jx_if_t, jx_if_f, jq_b0, jq_b1, jq_bb, jq_b01, jx_if_in, jx_if_lt, jx_if_nlt, jx_if_le, jx_if_nle, jq_eqp, jq_eqn, nI_clamp, nI_add, pk_mul, jn_and, jn_or, jn_xor, jq_andn, jq_shl1, jq_bit, jq_mn, jq_mx, cond_true, cond_false, jq_jt, jq_jf, jq_e1, jq_e2, jq_e3, jq_e4, Bool.not_true, Bool.not_false, jq_0, jq_1, jq_2, jq_3, jq_4, jq_5, jq_6, jq_8, jq_12, jq_16, jq_20, jq_21, jq_24, jq_30, jq_32, jq_60, jq_84, jq_1000, jq_2436, jq_20001, (P.2 X hX).2, dm_bc, jb_cu_all w.2.1]
theorem dm_mostX {h : jx_H} (w : jb_wf N) (P : jp_P h N) (hp2 : 2 ≤ jb_p N) (hk : k ≤ 8) {S : Nat} (hS : S < 2 ^ jb_p N) (h1 : 1 ≤ S) (hT : ∀ Y, Y < S → h.1 20 0 Y = nI (jh_L N k Y)) : DM (d + 3) 67 [vr 19 0, vr 14 0, vi (nI k), vi (nI S)] h = some ([vi (nI (jh_L N k S))], h) := by
  have hp := w.1
  have h8 := jn_pow8 hp
  have h20 := jn_pow20 w.2.1
  have hn := w.2.1
  have p3 := P.1.2.2.2.1
  have h4 : 4 ≤ 2 ^ jb_p N := (Nat.pow_le_pow_right (by decide) hp2 : 2 ^ 2 ≤ 2 ^ jb_p N)
  obtain ⟨e, q, ee⟩ := jn_low (show 0 < S by omega)
  have hlow := jn_lowI ee (by omega)
  have hx : S ^^^ 2 ^ e = 2 ^ (e + 1) * q := jn_low_x ee
  have he := (jn_low_has ee).1
  have hep0 := Nat.two_pow_pos e
  have hrl : S ^^^ 2 ^ e < S := by omega
  have h2e : 2 ^ e < 2 ^ jb_p N := by omega
  have hLb : ∀ Y, Y < 2 ^ jb_p N → jh_L N k Y ≤ 2048 := fun Y hY => by
    have h3 := jh_L_le (N := N) (k := k) Y
    have h5 : k * Y ≤ 8 * 256 := Nat.mul_le_mul hk (by omega)
    omega
  have hcu := fun X => jb_cu_le N X (2 ^ jb_n N - 1)
  have ne2 : 2 ^ e ≠ 2 ^ jb_p N - 1 := by
    intro c
    have a0 : (2 ^ jb_p N - 1).testBit 0 = true := jn_allr (by omega)
    have a1 : (2 ^ jb_p N - 1).testBit 1 = true := jn_allr (by omega)
    rw [← c, jn_2k] at a0 a1
    have := of_decide_eq_true a0
    have := of_decide_eq_true a1
    omega
  have hsb : ∀ Y, jn_sb Y (S ^^^ 2 ^ e) → jn_sb (2 ^ e ||| Y) S := fun Y hY i hi => by
    rw [Nat.testBit_or, Bool.or_eq_true] at hi
    rw [jn_split he i, Bool.or_eq_true]
    exact hi.imp id (hY i)
  have hdfo : ∀ Y, jn_sb Y (S ^^^ 2 ^ e) → jn_df S (2 ^ e ||| Y) = jn_df (S ^^^ 2 ^ e) Y := fun Y hY => by
    apply Nat.eq_of_testBit_eq
    intro i
    rw [jn_df_t, jn_df_t, Nat.testBit_or, Nat.testBit_xor, jn_2k]
    by_cases c : e = i
    · subst c
      simp [he]
    · simp [c]
  have xdf : ∀ Y, jn_sb Y (S ^^^ 2 ^ e) → (S ^^^ 2 ^ e) ^^^ Y = jn_df (S ^^^ 2 ^ e) Y := fun Y hY => by
    apply Nat.eq_of_testBit_eq
    intro i
    rw [jn_df_t, Nat.testBit_xor]
    cases hb : Y.testBit i with
    | false => simp
    | true => rw [hY i hb]; rfl
  have base : jh_L N k (S ^^^ 2 ^ e) + (k - jb_cu N (2 ^ e) (2 ^ jb_n N - 1)) ≤ jh_L N k S := by
    have g := jh_L_ge (N := N) (k := k) (X := S) (P := 2 ^ e) (by omega) (fun i hi => by
      rw [jn_2k] at hi
      rw [← of_decide_eq_true hi]
      exact he) ne2
    have e0 := hdfo 0 (fun i hi => by rw [Nat.zero_testBit] at hi; cases hi)
    rw [Nat.or_zero] at e0
    rw [e0] at g
    have e1 : jn_df (S ^^^ 2 ^ e) 0 = S ^^^ 2 ^ e := by
      apply Nat.eq_of_testBit_eq
      intro i
      rw [jn_df_t, Nat.zero_testBit]
      simp
    rw [e1] at g
    omega
  have loop : ∀ M, jn_sb M (S ^^^ 2 ^ e) → ∀ V, jh_L N k (S ^^^ 2 ^ e) + (k - jb_cu N (2 ^ e) (2 ^ jb_n N - 1)) ≤ V → V ≤ jh_L N k S → (∀ Y, M < Y → jn_sb Y (S ^^^ 2 ^ e) → (2 ^ e ||| Y) ≠ 2 ^ jb_p N - 1 → k + jh_L N k (jn_df (S ^^^ 2 ^ e) Y) - jb_cu N (2 ^ e ||| Y) (2 ^ jb_n N - 1) ≤ V) → F67_37 (DM (d + 2)) (nI k) (nI (2 ^ e)) (nI (S ^^^ 2 ^ e)) (nI V) (nI M) h = some ([vi (nI (jh_L N k S))], h) := by
    intro M
    induction M using Nat.strongRecOn with
    | ind M ih =>
      intro hM V v1 v2 v3
      have hMl := jn_sb_le hM
      have hLS := hLb S hS
      rw [e67_37]
      by_cases h0 : 0 < M
      · have hor : 2 ^ e ||| M < 2 ^ jb_p N := by
          have := jn_sb_le (hsb M hM)
          omega
        have hxl : (S ^^^ 2 ^ e) ^^^ M < S := by
          rw [xdf M hM]
          have := jn_sb_le (jn_df_sb (X := S ^^^ 2 ^ e) (P := M))
          omega
        have hLd := hLb (jn_df (S ^^^ 2 ^ e) M) (by have := jn_sb_le (jn_df_sb (X := S ^^^ 2 ^ e) (P := M)); omega)
        have hcm := hcu (2 ^ e ||| M)
        by_cases ha : 2 ^ e ||| M = 2 ^ jb_p N - 1
        · simp (disch := omega) only [jx_bI_s, jx_bL_s, jx_bV_s, eq_self, true_or, or_true, jx_if_t, jx_if_f, jq_b0, jq_b1, jq_bb, jq_b01, jx_if_in, jx_if_lt, jx_if_nlt, jx_if_le, jx_if_nle, jq_eqp, jq_eqn, nI_clamp, nI_add, pk_sub, pk_mul, jn_and, jn_or, jn_xor, jq_andn, jq_shl1, jq_bit, jq_mn, jq_mx, cond_true, cond_false, jq_jt, jq_jf, jq_e1, jq_e2, jq_e3, jq_e4, Bool.not_true, Bool.not_false, jq_0, jq_1, jq_2, jq_3, jq_4, jq_5, jq_6, jq_8, jq_12, jq_16, jq_20, jq_21, jq_24, jq_30, jq_32, jq_60, jq_84, jq_1000, jq_2436, jq_20001, p3, e67_82, e67_91]
          exact ih _ (jn_sb_nx h0) (jn_sb_and _ _) V v1 v2 (fun Y y1 y2 y3 => by
            by_cases hMY : M < Y
            · exact v3 Y hMY y2 y3
            · by_cases e2 : Y = M
              · rw [e2] at y3
                exact absurd ha y3
              · have := jn_subs hM y2 (show Y < M by omega)
                omega)
        · have up : k + jh_L N k (jn_df (S ^^^ 2 ^ e) M) - jb_cu N (2 ^ e ||| M) (2 ^ jb_n N - 1) ≤ jh_L N k S := by
            have g := jh_L_ge (N := N) (k := k) (X := S) (P := 2 ^ e ||| M) (jn_has1 (a := e) (by rw [Nat.testBit_or, jn_2k]; simp)) (hsb M hM) ha
            rw [hdfo M hM] at g
            omega
          have T := hT _ hxl
          rw [xdf M hM] at T
          have hxl' : jn_df (S ^^^ 2 ^ e) M < 256 := by
            have := jn_sb_le (jn_df_sb (X := S ^^^ 2 ^ e) (P := M))
            omega
          simp (disch := omega) only [jx_bI_s, jx_bL_s, jx_bV_s, eq_self, true_or, or_true, jx_if_t, jx_if_f, jq_b0, jq_b1, jq_bb, jq_b01, jx_if_in, jx_if_lt, jx_if_nlt, jx_if_le, jx_if_nle, jq_eqp, jq_eqn, nI_clamp, nI_add, pk_mul, jn_and, jn_or, jn_xor, jq_andn, jq_shl1, jq_bit, jq_mn, jq_mx, cond_true, cond_false, jq_jt, jq_jf, jq_e1, jq_e2, jq_e3, jq_e4, Bool.not_true, Bool.not_false, jq_0, jq_1, jq_2, jq_3, jq_4, jq_5, jq_6, jq_8, jq_12, jq_16, jq_20, jq_21, jq_24, jq_30, jq_32, jq_60, jq_84, jq_1000, jq_2436, jq_20001, p3, dm_lackX w P hor, xdf M hM, T, jq_mxm, e67_82, e67_91]
          rw [pk_sub (by omega), jn_and]
          exact ih _ (jn_sb_nx h0) (jn_sb_and _ _) _ (Nat.le_trans v1 (Nat.le_max_left _ _)) (Nat.max_le.2 ⟨v2, up⟩) (fun Y y1 y2 y3 => by
            by_cases hMY : M < Y
            · exact Nat.le_trans (v3 Y hMY y2 y3) (Nat.le_max_left _ _)
            · by_cases e2 : Y = M
              · rw [e2]
                exact Nat.le_max_right _ _
              · have := jn_subs hM y2 (show Y < M by omega)
                omega)
      · have e0 : V = jh_L N k S := by
          have := jh_up (N := N) (k := k) he v1 (fun Y y1 y2 y3 => v3 Y (by omega) y2 y3)
          omega
        rw [e0]
        simp (disch := omega) only [jx_bI_s, jx_bL_s, jx_bV_s, eq_self, true_or, or_true, jx_if_t, jx_if_f, jq_b0, jq_b1, jq_bb, jq_b01, jx_if_in, jx_if_lt, jx_if_nlt, jx_if_le, jx_if_nle, jq_eqp, jq_eqn, nI_clamp, nI_add, pk_sub, pk_mul, jn_and, jn_or, jn_xor, jq_andn, jq_shl1, jq_bit, jq_mn, jq_mx, cond_true, cond_false, jq_jt, jq_jf, jq_e1, jq_e2, jq_e3, jq_e4, Bool.not_true, Bool.not_false, jq_0, jq_1, jq_2, jq_3, jq_4, jq_5, jq_6, jq_8, jq_12, jq_16, jq_20, jq_21, jq_24, jq_30, jq_32, jq_60, jq_84, jq_1000, jq_2436, jq_20001]
  rw [d67, e67_0, hlow, e67_6, jn_xor, e67_12]
  have hce := hcu (2 ^ e)
  have hLr := hLb (S ^^^ 2 ^ e) (by omega)
  simp (disch := omega) only [jx_bI_s, jx_bL_s, jx_bV_s, eq_self, true_or, or_true, jx_if_t, jx_if_f, jq_b0, jq_b1, jq_bb, jq_b01, jx_if_in, jx_if_lt, jx_if_nlt, jx_if_le, jx_if_nle, jq_eqp, jq_eqn, nI_clamp, nI_add, pk_mul, jn_and, jn_or, jn_xor, jq_andn, jq_shl1, jq_bit, jq_mn, jq_mx, cond_true, cond_false, jq_jt, jq_jf, jq_e1, jq_e2, jq_e3, jq_e4, Bool.not_true, Bool.not_false, jq_0, jq_1, jq_2, jq_3, jq_4, jq_5, jq_6, jq_8, jq_12, jq_16, jq_20, jq_21, jq_24, jq_30, jq_32, jq_60, jq_84, jq_1000, jq_2436, jq_20001, dm_lackX w P h2e, hT _ hrl, jq_mxl, e67_33]
  exact loop _ (fun i hi => hi) _ (Nat.le_refl _) base (fun Y y1 y2 y3 => by
    have := jn_sb_le y2
    omega)
theorem dm_fewX {h0 : jx_H} (w : jb_wf N) (hp2 : 2 ≤ jb_p N) (hk : k ≤ 8) : ∀ (z S : Nat) (h : jx_H), S + z = 2 ^ jb_p N → 1 ≤ S → jp_P h N → (∀ c, c ≠ 20 → h.1 c = h0.1 c) → (∀ Y, Y < S → h.1 20 0 Y = nI (jh_L N k Y)) → ∃ h', F66_9 (DM (d + 3)) (nI k) (nI S) h = F66_46 (DM (d + 3)) (nI k) (nI (jh_L N k (2 ^ jb_p N - 1))) h' ∧ ∀ c, c ≠ 20 → h'.1 c = h0.1 c := by
  have hp := w.1
  have h8 := jn_pow8 hp
  intro z
  induction z with
  | zero =>
    intro S h hz h1 P f hT
    refine ⟨h, ?_, f⟩
    rw [e66_9, P.1.2.2.2.1]
    simp (disch := omega) only [jx_bI_s, jx_bL_s, jx_bV_s, eq_self, true_or, or_true, jx_if_t, jx_if_f, jq_b0, jq_b1, jq_bb, jq_b01, jx_if_in, jx_if_lt, jx_if_nlt, jx_if_le, jx_if_nle, jq_eqp, jq_eqn, nI_clamp, nI_add, pk_sub, pk_mul, jn_and, jn_or, jn_xor, jq_andn, jq_shl1, jq_bit, jq_mn, jq_mx, cond_true, cond_false, jq_jt, jq_jf, jq_e1, jq_e2, jq_e3, jq_e4, Bool.not_true, Bool.not_false, jq_0, jq_1, jq_2, jq_3, jq_4, jq_5, jq_6, jq_8, jq_12, jq_16, jq_20, jq_21, jq_24, jq_30, jq_32, jq_60, jq_84, jq_1000, jq_2436, jq_20001, hT (2 ^ jb_p N - 1) (by omega)]
  | succ z ih =>
    intro S h hz h1 P f hT
    have hk20 : ∀ c, c ≠ 20 → (jx_sI h 20 0 S (nI (jh_L N k S))).1 c = h.1 c := fun c hc => jx_sk hc
    obtain ⟨h', a1, a2⟩ := ih (S + 1) (jx_sI h 20 0 S (nI (jh_L N k S))) (by omega) (by omega) (by
      obtain ⟨H, T⟩ := P
      refine ⟨H.set (by decide), fun X hX => ?_⟩
      obtain ⟨⟨t1, t2, t3⟩, t4⟩ := T X hX
      exact ⟨⟨by rw [jx_sk (by decide)]; exact t1, by rw [jx_sk (by decide)]; exact t2, by rw [jx_sk (by decide)]; exact t3⟩, by rw [jx_sk (by decide)]; exact t4⟩) (fun c hc => (hk20 c hc).trans (f c hc)) (fun Y hY => by
      rw [jx_sv]
      by_cases e : Y = S
      · rw [if_pos e, e]
      · rw [if_neg e]
        exact hT Y (by omega))
    refine ⟨h', ?_, a2⟩
    rw [e66_9, P.1.2.2.2.1]
    simp (disch := omega) only [jx_bI_s, jx_bL_s, jx_bV_s, eq_self, true_or, or_true, jx_if_t, jx_if_f, jq_b0, jq_b1, jq_bb, jq_b01, jx_if_in, jx_if_lt, jx_if_nlt, jx_if_le, jx_if_nle, jq_eqp, jq_eqn, nI_clamp, nI_add, pk_sub, pk_mul, jn_and, jn_or, jn_xor, jq_andn, jq_shl1, jq_bit, jq_mn, jq_mx, cond_true, cond_false, jq_jt, jq_jf, jq_e1, jq_e2, jq_e3, jq_e4, Bool.not_true, Bool.not_false, jq_0, jq_1, jq_2, jq_3, jq_4, jq_5, jq_6, jq_8, jq_12, jq_16, jq_20, jq_21, jq_24, jq_30, jq_32, jq_60, jq_84, jq_1000, jq_2436, jq_20001, dm_mostX w P hp2 hk (show S < 2 ^ jb_p N by omega) h1 hT]
    exact a1
/-- the reference's table -/
def jh_g (N : jb_N) (k X P : Nat) : Nat := if jh_ok N X P = true then (k - jb_cu N P (2 ^ jb_n N - 1)) + jh_L N k (jn_df X P) else 0
theorem jb_M48 {h0 h : jx_H} (m : jb_M h0 N) (f : ∀ c, c ≠ 48 → h.1 c = h0.1 c) : jb_M h N := by
  unfold jb_M at *
  rw [f 30 (by decide), f 33 (by decide), f 34 (by decide), f 35 (by decide), f 36 (by decide)]
  exact m
theorem jh_g_le (hk : k ≤ 8) {X P : Nat} (hX : X < 256) : jh_g N k X P ≤ 2056 := by
  unfold jh_g
  split
  · have h3 := jh_L_le (N := N) (k := k) (jn_df X P)
    have h4 := jn_sb_le (jn_df_sb (X := X) (P := P))
    have h5 : k * jn_df X P ≤ 8 * 256 := Nat.mul_le_mul hk (by omega)
    omega
  · omega
theorem dm_inM {h0 : jx_H} (w : jb_wf N) (m0 : jb_M h0 N) (hk : k ≤ 8) {X : Nat} (hX : X < 2 ^ jb_p N) : ∀ (z P : Nat) (h : jx_H), P + z = X + 1 → 1 ≤ P → (∀ c, c ≠ 48 → h.1 c = h0.1 c) → (∀ Y, Y < X → h.1 48 0 Y = nI (jh_L N k Y)) → h.1 48 0 X = nI (jn_mx (jh_g N k X) P) → ∃ h', F153_123 (DM (d + 2)) (nI k) (nI X) (nI P) h = F153_106 (DM (d + 2)) (nI k) (nI (X + 1)) h' ∧ (∀ c, c ≠ 48 → h'.1 c = h0.1 c) ∧ ∀ Y, Y < X + 1 → h'.1 48 0 Y = nI (jh_L N k Y) := by
  have hp := w.1
  have hn := w.2.1
  have h8 := jn_pow8 hp
  have h20 := jn_pow20 hn
  have i20 := Nat.two_pow_pos (jb_n N)
  intro z
  induction z with
  | zero =>
    intro P h hz h1 f hT hX2
    refine ⟨h, ?_, f, fun Y hY => ?_⟩
    · rw [e153_123]
      simp (disch := omega) only [jx_bI_s, jx_bL_s, jx_bV_s, eq_self, true_or, or_true, jx_if_t, jx_if_f, jq_b0, jq_b1, jq_bb, jq_b01, jx_if_in, jx_if_lt, jx_if_nlt, jx_if_le, jx_if_nle, jq_eqp, jq_eqn, nI_clamp, nI_add, pk_sub, pk_mul, jn_and, jn_or, jn_xor, jq_andn, jq_shl1, jq_bit, jq_mn, jq_mx, cond_true, cond_false, jq_jt, jq_jf, jq_e1, jq_e2, jq_e3, jq_e4, Bool.not_true, Bool.not_false, jq_0, jq_1, jq_2, jq_3, jq_4, jq_5, jq_6, jq_8, jq_12, jq_16, jq_20, jq_21, jq_24, jq_30, jq_32, jq_60, jq_84, jq_1000, jq_2436, jq_20001]
    · by_cases e : Y = X
      · rw [e, hX2, jh_L_eq, show P = X + 1 by omega]
        rfl
      · exact hT Y (by omega)
  | succ z ih =>
    intro P h hz h1 f hT hX2
    have m := jb_M48 m0 f
    have hdl : jn_df P X < 256 := by
      have := jn_sb_le (jn_df_sb (X := P) (P := X))
      omega
    have hmx := jn_mx_le (f := jh_g N k X) (b := 2056) P (fun j _ => jh_g_le hk (by omega))
    have hcu := jb_cu_le N P (2 ^ jb_n N - 1)
    rw [e153_123]
    by_cases s1 : jn_df P X = 0
    · have hsb := jn_df0.1 s1
      by_cases s2 : P = 2 ^ jb_p N - 1
      · have hg : jh_g N k X P = 0 := if_neg (fun c => (jh_ok_t.1 c).2.2 s2)
        obtain ⟨h', a⟩ := ih (P + 1) h (by omega) (by omega) f hT (by
          rw [hX2]
          show _ = nI (max _ _)
          rw [hg, Nat.max_zero])
        refine ⟨h', ?_, a.2⟩
        simp (disch := omega) only [jx_bI_s, jx_bL_s, jx_bV_s, eq_self, true_or, or_true, jx_if_t, jx_if_f, jq_b0, jq_b1, jq_bb, jq_b01, jx_if_in, jx_if_lt, jx_if_nlt, jx_if_le, jx_if_nle, jq_eqp, jq_eqn, nI_clamp, nI_add, pk_sub, pk_mul, jn_and, jn_or, jn_xor, jq_andn, jq_shl1, jq_bit, jq_mn, jq_mx, cond_true, cond_false, jq_jt, jq_jf, jq_e1, jq_e2, jq_e3, jq_e4, Bool.not_true, Bool.not_false, jq_0, jq_1, jq_2, jq_3, jq_4, jq_5, jq_6, jq_8, jq_12, jq_16, jq_20, jq_21, jq_24, jq_30, jq_32, jq_60, jq_84, jq_1000, jq_2436, jq_20001, dm_all (n := jb_p N) (by omega) m.1, e153_213]
        exact a.1
      · have hg : jh_g N k X P = (k - jb_cu N P (2 ^ jb_n N - 1)) + jh_L N k (jn_df X P) := if_pos (jh_ok_t.2 ⟨h1, hsb, s2⟩)
        have hgl := jh_g_le (N := N) hk (X := X) (P := P) (by omega)
        have hdX := jn_df_less h1 hsb
        have T := hT _ hdX
        obtain ⟨h', a⟩ := ih (P + 1) (jx_sI h 48 0 X (nI (jn_mx (jh_g N k X) (P + 1)))) (by omega) (by omega) (fun c hc => (jx_sk hc).trans (f c hc)) (fun Y hY => by rw [jx_sp (by omega)]; exact hT Y hY) jx_ss
        refine ⟨h', ?_, a.2⟩
        have t172 : F153_161 (DM (d + 2)) (nI k) (nI X) (nI P) (nI k - nI (jb_cu N P (2 ^ jb_n N - 1))) h = F153_172 (DM (d + 2)) (nI k) (nI X) (nI P) (nI (k - jb_cu N P (2 ^ jb_n N - 1))) h := by
          rw [e153_161, show (0 : Int32) = nI 0 from rfl]
          by_cases c : jb_cu N P (2 ^ jb_n N - 1) < k
          · rw [pk_sub (by omega), jx_if_lt (by omega) (by omega)]
          · rw [jq_sneg (by omega) (by omega), show k - jb_cu N P (2 ^ jb_n N - 1) = 0 by omega]
        have a1 := a.1
        have emx : jn_mx (jh_g N k X) (P + 1) = max (jn_mx (jh_g N k X) P) (jh_g N k X P) := rfl
        simp (disch := omega) only [jx_bI_s, jx_bL_s, jx_bV_s, eq_self, true_or, or_true, jx_if_t, jx_if_f, jq_b0, jq_b1, jq_bb, jq_b01, jx_if_in, jx_if_lt, jx_if_nlt, jx_if_le, jx_if_nle, jq_eqp, jq_eqn, nI_clamp, nI_add, pk_mul, jn_and, jn_or, jn_xor, jq_andn, jq_shl1, jq_bit, jq_mn, jq_mx, cond_true, cond_false, jq_jt, jq_jf, jq_e1, jq_e2, jq_e3, jq_e4, Bool.not_true, Bool.not_false, jq_0, jq_1, jq_2, jq_3, jq_4, jq_5, jq_6, jq_8, jq_12, jq_16, jq_20, jq_21, jq_24, jq_30, jq_32, jq_60, jq_84, jq_1000, jq_2436, jq_20001, dm_all (n := jb_p N) (by omega) m.1, dm_allR (n := jb_n N) (by omega) m.2.1, m.2.1, dm_cutN w m, t172, e153_172, T]
        rw [← hg, e153_185]
        by_cases c : jh_g N k X P ≤ jn_mx (jh_g N k X) P
        · rw [emx, Nat.max_eq_left c] at a1
          simp (disch := omega) only [jx_bI_s, jx_bL_s, jx_bV_s, eq_self, true_or, or_true, jx_if_t, jx_if_f, jq_b0, jq_b1, jq_bb, jq_b01, jx_if_in, jx_if_lt, jx_if_nlt, jx_if_le, jx_if_nle, jq_eqp, jq_eqn, nI_clamp, nI_add, pk_sub, pk_mul, jn_and, jn_or, jn_xor, jq_andn, jq_shl1, jq_bit, jq_mn, jq_mx, cond_true, cond_false, jq_jt, jq_jf, jq_e1, jq_e2, jq_e3, jq_e4, Bool.not_true, Bool.not_false, jq_0, jq_1, jq_2, jq_3, jq_4, jq_5, jq_6, jq_8, jq_12, jq_16, jq_20, jq_21, jq_24, jq_30, jq_32, jq_60, jq_84, jq_1000, jq_2436, jq_20001, hX2, e153_212, e153_213]
          exact a1
        · rw [emx, Nat.max_eq_right (by omega)] at a1
          simp (disch := omega) only [jx_bI_s, jx_bL_s, jx_bV_s, eq_self, true_or, or_true, jx_if_t, jx_if_f, jq_b0, jq_b1, jq_bb, jq_b01, jx_if_in, jx_if_lt, jx_if_nlt, jx_if_le, jx_if_nle, jq_eqp, jq_eqn, nI_clamp, nI_add, pk_sub, pk_mul, jn_and, jn_or, jn_xor, jq_andn, jq_shl1, jq_bit, jq_mn, jq_mx, cond_true, cond_false, jq_jt, jq_jf, jq_e1, jq_e2, jq_e3, jq_e4, Bool.not_true, Bool.not_false, jq_0, jq_1, jq_2, jq_3, jq_4, jq_5, jq_6, jq_8, jq_12, jq_16, jq_20, jq_21, jq_24, jq_30, jq_32, jq_60, jq_84, jq_1000, jq_2436, jq_20001, hX2, e153_212, e153_213]
          exact a1
    · have hg : jh_g N k X P = 0 := if_neg (fun c => s1 (jn_df0.2 (jh_ok_t.1 c).2.1))
      obtain ⟨h', a⟩ := ih (P + 1) h (by omega) (by omega) f hT (by
        rw [hX2]
        show _ = nI (max _ _)
        rw [hg, Nat.max_zero])
      refine ⟨h', ?_, a.2⟩
      simp (disch := omega) only [jx_bI_s, jx_bL_s, jx_bV_s, eq_self, true_or, or_true, jx_if_t, jx_if_f, jq_b0, jq_b1, jq_bb, jq_b01, jx_if_in, jx_if_lt, jx_if_nlt, jx_if_le, jx_if_nle, jq_eqp, jq_eqn, nI_clamp, nI_add, pk_sub, pk_mul, jn_and, jn_or, jn_xor, jq_andn, jq_shl1, jq_bit, jq_mn, jq_mx, cond_true, cond_false, jq_jt, jq_jf, jq_e1, jq_e2, jq_e3, jq_e4, Bool.not_true, Bool.not_false, jq_0, jq_1, jq_2, jq_3, jq_4, jq_5, jq_6, jq_8, jq_12, jq_16, jq_20, jq_21, jq_24, jq_30, jq_32, jq_60, jq_84, jq_1000, jq_2436, jq_20001, e153_213]
      exact a.1
theorem dm_outM {h0 : jx_H} (w : jb_wf N) (m0 : jb_M h0 N) (hk : k ≤ 8) : ∀ (z X : Nat) (h : jx_H), X + z = 2 ^ jb_p N → (∀ c, c ≠ 48 → h.1 c = h0.1 c) → (∀ Y, Y < X → h.1 48 0 Y = nI (jh_L N k Y)) → ∃ h', F153_106 (DM (d + 2)) (nI k) (nI X) h = some ([vi (nI ((jh_L N k (2 ^ jb_p N - 1) + 1) / 2))], h') ∧ ∀ c, c ≠ 48 → h'.1 c = h0.1 c := by
  have hp := w.1
  have h8 := jn_pow8 hp
  have i8 := Nat.two_pow_pos (jb_p N)
  intro z
  induction z with
  | zero =>
    intro X h hz f hT
    have m := jb_M48 m0 f
    have hLl : jh_L N k (2 ^ jb_p N - 1) ≤ 2048 := by
      have h3 := jh_L_le (N := N) (k := k) (2 ^ jb_p N - 1)
      have h5 : k * (2 ^ jb_p N - 1) ≤ 8 * 256 := Nat.mul_le_mul hk (by omega)
      omega
    refine ⟨h, ?_, f⟩
    rw [e153_106]
    simp (disch := omega) only [jx_bI_s, jx_bL_s, jx_bV_s, eq_self, true_or, or_true, jx_if_t, jx_if_f, jq_b0, jq_b1, jq_bb, jq_b01, jx_if_in, jx_if_lt, jx_if_nlt, jx_if_le, jx_if_nle, jq_eqp, jq_eqn, nI_clamp, nI_add, pk_sub, pk_mul, jn_and, jn_or, jn_xor, jq_andn, jq_shl1, jq_bit, jq_mn, jq_mx, cond_true, cond_false, jq_jt, jq_jf, jq_e1, jq_e2, jq_e3, jq_e4, Bool.not_true, Bool.not_false, jq_0, jq_1, jq_2, jq_3, jq_4, jq_5, jq_6, jq_8, jq_12, jq_16, jq_20, jq_21, jq_24, jq_30, jq_32, jq_60, jq_84, jq_1000, jq_2436, jq_20001, dm_all (n := jb_p N) (by omega) m.1, hT (2 ^ jb_p N - 1) (by omega), pk_div]
  | succ z ih =>
    intro X h hz f hT
    have m := jb_M48 m0 f
    obtain ⟨h1, a1, a2, a3⟩ := dm_inM (d := d) w m0 hk (X := X) (by omega) X 1 (jx_sI h 48 0 X (nI 0)) (by omega) (by omega) (fun c hc => (jx_sk hc).trans (f c hc)) (fun Y hY => by rw [jx_sp (by omega)]; exact hT Y hY) (by
      rw [jx_ss]
      have : jh_g N k X 0 = 0 := if_neg (fun c => by have := (jh_ok_t.1 c).1; omega)
      show _ = nI (max 0 (jh_g N k X 0))
      rw [this]
      rfl)
    obtain ⟨h', b1, b2⟩ := ih (X + 1) h1 (by omega) a2 a3
    refine ⟨h', ?_, b2⟩
    rw [e153_106]
    simp (disch := omega) only [jx_bI_s, jx_bL_s, jx_bV_s, eq_self, true_or, or_true, jx_if_t, jx_if_f, jq_b0, jq_b1, jq_bb, jq_b01, jx_if_in, jx_if_lt, jx_if_nlt, jx_if_le, jx_if_nle, jq_eqp, jq_eqn, nI_clamp, nI_add, pk_sub, pk_mul, jn_and, jn_or, jn_xor, jq_andn, jq_shl1, jq_bit, jq_mn, jq_mx, cond_true, cond_false, jq_jt, jq_jf, jq_e1, jq_e2, jq_e3, jq_e4, Bool.not_true, Bool.not_false, jq_0, jq_1, jq_2, jq_3, jq_4, jq_5, jq_6, jq_8, jq_12, jq_16, jq_20, jq_21, jq_24, jq_30, jq_32, jq_60, jq_84, jq_1000, jq_2436, jq_20001, dm_all (n := jb_p N) (by omega) m.1]
    exact a1.trans b1
/-- pieces -/
noncomputable def jb_rep (N : jb_N) (q : Nat) : Bool := @decide (∀ y, y < q → ¬ jb_rc N 0 (2 ^ jb_n N - 1) q y) (Classical.propDecidable _)
theorem jb_rep_t {q : Nat} : jb_rep N q = true ↔ ∀ y, y < q → ¬ jb_rc N 0 (2 ^ jb_n N - 1) q y := by
  unfold jb_rep
  rw [@decide_eq_true_eq _ (Classical.propDecidable _)]
theorem dm_pieces {h : jx_H} (w : jb_wf N) (m : jb_M h N) (hp2 : 2 ≤ jb_p N) : F153_55 (DM (d + 2)) (nI 0) (nI 0) h = some ([vi (nI (jn_ct (jb_rep N) (jb_p N) - 1))], h) := by
  have hp := w.1
  have hn := w.2.1
  have h8 := jn_pow8 hp
  have h20 := jn_pow20 hn
  have i20 := Nat.two_pow_pos (jb_n N)
  refine (jn_loop (fun i => F153_55 (DM (d + 2)) (nI (jn_ct (jb_rep N) i)) (nI i) h) (Nat.zero_le (jb_p N)) (fun i _ hi => ?_)).trans ?_
  · show F153_55 _ _ _ _ = F153_55 _ _ _ _
    obtain ⟨R, r1, r2, r3⟩ := dm_reachM (d := d) (W := 0) (T := 2 ^ jb_n N - 1) w m (by omega) (by omega) hi (Nat.zero_testBit _)
    have h2i := jn_2lt hi
    have h2p := Nat.two_pow_pos i
    have hal : R &&& (2 ^ i - 1) < 2 ^ jb_p N := jn_and_lt r1
    have key : R &&& (2 ^ i - 1) = 0 ↔ jb_rep N i = true := by
      rw [jb_rep_t]
      constructor
      · intro e y hy c
        have := Nat.testBit_and R (2 ^ i - 1) y
        rw [e, Nat.zero_testBit, (r3 y).2 c, jn_all_t] at this
        simp [hy] at this
      · intro c
        apply Nat.eq_of_testBit_eq
        intro y
        rw [Nat.testBit_and, Nat.zero_testBit, jn_all_t]
        cases hb : R.testBit y with
        | false => rfl
        | true =>
          have : ¬ y < i := fun k => c y k ((r3 y).1 hb)
          simp [this]
    rw [e153_55, m.1]
    by_cases e : R &&& (2 ^ i - 1) = 0
    · rw [← jn_ct_p (key.1 e)]
      simp (disch := omega) only [jx_bI_s, jx_bL_s, jx_bV_s, eq_self, true_or, or_true, jx_if_t, jx_if_f, jq_b0, jq_b1, jq_bb, jq_b01, jx_if_in, jx_if_lt, jx_if_nlt, jx_if_le, jx_if_nle, jq_eqp, jq_eqn, nI_clamp, nI_add, pk_sub, pk_mul, jn_and, jn_or, jn_xor, jq_andn, jq_shl1, jq_bit, jq_mn, jq_mx, cond_true, cond_false, jq_jt, jq_jf, jq_e1, jq_e2, jq_e3, jq_e4, Bool.not_true, Bool.not_false, jq_0, jq_1, jq_2, jq_3, jq_4, jq_5, jq_6, jq_8, jq_12, jq_16, jq_20, jq_21, jq_24, jq_30, jq_32, jq_60, jq_84, jq_1000, jq_2436, jq_20001, dm_allR (n := jb_n N) (by omega) m.2.1, r2, e153_92, e153_94]
    · have hf : jb_rep N i = false := by
        cases hb : jb_rep N i with
        | false => rfl
        | true => exact absurd (key.2 hb) e
      rw [← jn_ct_z hf]
      simp (disch := omega) only [jx_bI_s, jx_bL_s, jx_bV_s, eq_self, true_or, or_true, jx_if_t, jx_if_f, jq_b0, jq_b1, jq_bb, jq_b01, jx_if_in, jx_if_lt, jx_if_nlt, jx_if_le, jx_if_nle, jq_eqp, jq_eqn, nI_clamp, nI_add, pk_sub, pk_mul, jn_and, jn_or, jn_xor, jq_andn, jq_shl1, jq_bit, jq_mn, jq_mx, cond_true, cond_false, jq_jt, jq_jf, jq_e1, jq_e2, jq_e3, jq_e4, Bool.not_true, Bool.not_false, jq_0, jq_1, jq_2, jq_3, jq_4, jq_5, jq_6, jq_8, jq_12, jq_16, jq_20, jq_21, jq_24, jq_30, jq_32, jq_60, jq_84, jq_1000, jq_2436, jq_20001, dm_allR (n := jb_n N) (by omega) m.2.1, r2, e153_92, e153_94]
  · show F153_55 _ _ _ _ = _
    have h0 : 0 < jn_ct (jb_rep N) (jb_p N) := jn_ct_pos.2 ⟨0, by omega, jb_rep_t.2 (fun y hy => by omega)⟩
    rw [e153_55, m.1]
    simp (disch := omega) only [jx_bI_s, jx_bL_s, jx_bV_s, eq_self, true_or, or_true, jx_if_t, jx_if_f, jq_b0, jq_b1, jq_bb, jq_b01, jx_if_in, jx_if_lt, jx_if_nlt, jx_if_le, jx_if_nle, jq_eqp, jq_eqn, nI_clamp, nI_add, pk_sub, pk_mul, jn_and, jn_or, jn_xor, jq_andn, jq_shl1, jq_bit, jq_mn, jq_mx, cond_true, cond_false, jq_jt, jq_jf, jq_e1, jq_e2, jq_e3, jq_e4, Bool.not_true, Bool.not_false, jq_0, jq_1, jq_2, jq_3, jq_4, jq_5, jq_6, jq_8, jq_12, jq_16, jq_20, jq_21, jq_24, jq_30, jq_32, jq_60, jq_84, jq_1000, jq_2436, jq_20001]
/-- the pieces within S -/
noncomputable def jb_pin (N : jb_N) (S q : Nat) : Bool := @decide (jb_rep N q = true ∧ ∀ y, jb_rc N 0 (2 ^ jb_n N - 1) q y → S.testBit y = true) (Classical.propDecidable _)
theorem jb_pin_t {S q : Nat} : jb_pin N S q = true ↔ jb_rep N q = true ∧ ∀ y, jb_rc N 0 (2 ^ jb_n N - 1) q y → S.testBit y = true := by
  unfold jb_pin
  rw [@decide_eq_true_eq _ (Classical.propDecidable _)]
theorem jb_piece_up (w : jb_wf N) (ht : jb_t N = false) : ∀ S, S < 2 ^ jb_p N → jh_L N 1 S ≤ jn_ct (jb_pin N S) (jb_p N) := by
  intro S
  induction S using Nat.strongRecOn with
  | ind S ih =>
    intro hS
    rcases jh_L_at (N := N) (k := 1) (X := S) with e | ⟨P, p1, p2, p3, p4⟩
    · rw [e]; exact Nat.zero_le _
    · have hdl := jn_df_less p1 p2
      have h1 := ih (jn_df S P) hdl (by omega)
      have mono : ∀ i, i < jb_p N → jb_pin N (jn_df S P) i = true → jb_pin N S i = true := fun i _ hi => by
        obtain ⟨a, b⟩ := jb_pin_t.1 hi
        exact jb_pin_t.2 ⟨a, fun y hy => jn_df_sb y (b y hy)⟩
      by_cases c : jb_cu N P (2 ^ jb_n N - 1) = 0
      · have cl : jb_cl N 0 (2 ^ jb_n N - 1) (fun y => P.testBit y = true) := jb_cl_cb.2 (fun r hr hT => by
          cases hb : jb_cb N P r with
          | false => rfl
          | true =>
            have : 0 < jb_cu N P (2 ^ jb_n N - 1) := jn_ct_pos.2 ⟨r, hr, by rw [hb, hT]; rfl⟩
            omega)
        obtain ⟨y, hy⟩ := jn_some p1
        have hyp := jn_hi hS (p2 y hy)
        obtain ⟨q, hq, hql⟩ := pk_least (fun q => jb_rc N 0 (2 ^ jb_n N - 1) y q) ⟨y, jb_rc.rf⟩
        have hqP : P.testBit q = true := hq _ hy cl
        have hqr : jb_rep N q = true := jb_rep_t.2 (fun z hz c => hql z hz (hq.tr c))
        have hqp := jn_hi hS (p2 q hqP)
        have h2 := jn_ct_mlt (f := jb_pin N (jn_df S P)) (g := jb_pin N S) (jb_p N) mono ⟨q, hqp, by
          cases hb : jb_pin N (jn_df S P) q with
          | false => rfl
          | true =>
            have := (jb_pin_t.1 hb).2 q jb_rc.rf
            rw [jn_df_t, hqP] at this
            simp at this, jb_pin_t.2 ⟨hqr, fun z hz => p2 z (hz _ hqP cl)⟩⟩
        omega
      · have h2 := jn_ct_mono (jb_p N) mono
        omega
theorem jb_piece_dn (w : jb_wf N) (ht : jb_t N = false) (h2 : 2 ≤ jn_ct (jb_rep N) (jb_p N)) : ∀ S, S < 2 ^ jb_p N → jn_ct (jb_pin N S) (jb_p N) ≤ jh_L N 1 S := by
  intro S
  induction S using Nat.strongRecOn with
  | ind S ih =>
    intro hS
    by_cases h0 : 0 < jn_ct (jb_pin N S) (jb_p N)
    · obtain ⟨q, hq, hqp⟩ := jn_ct_pos.1 h0
      obtain ⟨q1, q2⟩ := jb_pin_t.1 hqp
      have hR := fun y => jb_R_t w (W := 0) (T := 2 ^ jb_n N - 1) (a := q) (x := y) hq
      have hRq := (hR q).2 jb_rc.rf
      have hRS : jn_sb (jb_R N 0 (2 ^ jb_n N - 1) q) S := fun y hy => q2 y ((hR y).1 hy)
      have hne : jb_R N 0 (2 ^ jb_n N - 1) q ≠ 2 ^ jb_p N - 1 := by
        intro e
        have h1 : jn_ct (jb_rep N) (jb_p N) = 1 := jn_ct_one hq (fun i hi => by
          constructor
          · intro hi2
            have hqi : jb_rc N 0 (2 ^ jb_n N - 1) q i := (hR i).1 (by rw [e]; exact jn_allr hi)
            have a := jb_rep_t.1 hi2
            have b := jb_rep_t.1 q1
            rcases Nat.lt_trichotomy i q with c | c | c
            · exact absurd hqi (b i c)
            · exact c
            · exact absurd (jb_rc_sym ht hqi) (a q c)
          · rintro rfl
            exact q1)
        omega
      have g := jh_L_ge (N := N) (k := 1) (jn_has1 hRq) hRS hne
      have hcu : jb_cu N (jb_R N 0 (2 ^ jb_n N - 1) q) (2 ^ jb_n N - 1) = 0 := jn_ct_zero _ (fun r hr => by
        have cl : jb_cl N 0 (2 ^ jb_n N - 1) (fun x => (jb_R N 0 (2 ^ jb_n N - 1) q).testBit x = true) := by
          intro r' a b c e
          have := jb_rc_cl N 0 (2 ^ jb_n N - 1) q r' a b c e
          exact ⟨fun k => (hR _).2 (this.1 ((hR _).1 k)), fun t k => (hR _).2 (this.2 t ((hR _).1 k))⟩
        rw [jb_cl_cb.1 cl r hr (jn_allr hr)]
        rfl)
      have hdl := jn_df_less (jn_has1 hRq) hRS
      have h1 := ih _ hdl (by omega)
      have h3 : jn_ct (jb_pin N S) (jb_p N) ≤ jn_ct (jb_pin N (jn_df S (jb_R N 0 (2 ^ jb_n N - 1) q))) (jb_p N) + 1 := by
        have one : jn_ct (fun i => decide (i = q)) (jb_p N) = 1 := jn_ct_one hq (fun i _ => by simp)
        have z : jn_ct (fun _ => false) (jb_p N) = 0 := jn_ct_zero _ (fun _ _ => rfl)
        have := jn_ct_add (f := jb_pin N S) (g := fun _ => false) (u := jb_pin N (jn_df S (jb_R N 0 (2 ^ jb_n N - 1) q))) (v := fun i => decide (i = q)) (jb_p N) (fun i hi => by
          by_cases hp1 : jb_pin N S i = true
          · by_cases e : i = q
            · rw [if_pos hp1, if_neg (by simp), if_pos (show decide (i = q) = true by simpa using e)]
              omega
            · have : jb_pin N (jn_df S (jb_R N 0 (2 ^ jb_n N - 1) q)) i = true := by
                obtain ⟨a, b⟩ := jb_pin_t.1 hp1
                refine jb_pin_t.2 ⟨a, fun y hy => ?_⟩
                rw [jn_df_t, b y hy, Bool.true_and]
                cases hb : (jb_R N 0 (2 ^ jb_n N - 1) q).testBit y with
                | false => rfl
                | true =>
                  exfalso
                  have hiq : jb_rc N 0 (2 ^ jb_n N - 1) i q := hy.tr (jb_rc_sym ht ((hR y).1 hb))
                  have a' := jb_rep_t.1 a
                  have b' := jb_rep_t.1 q1
                  rcases Nat.lt_trichotomy i q with c | c | c
                  · exact b' i c (jb_rc_sym ht hiq)
                  · exact e c
                  · exact a' q c hiq
              simp [hp1, this]
          · simp [hp1])
        omega
      omega
    · omega
theorem jb_piece_eq (w : jb_wf N) (ht : jb_t N = false) : jh_L N 1 (2 ^ jb_p N - 1) - 1 = jn_ct (jb_rep N) (jb_p N) - 1 := by
  have i8 := Nat.two_pow_pos (jb_p N)
  have e : jn_ct (jb_pin N (2 ^ jb_p N - 1)) (jb_p N) = jn_ct (jb_rep N) (jb_p N) := jn_ct_congr _ (fun q hq => by
    rw [Bool.eq_iff_iff, jb_pin_t]
    exact ⟨fun k => k.1, fun k => ⟨k, fun y hy => jn_allr (jb_rc_in w hy hq)⟩⟩)
  have h1 := jb_piece_up w ht (2 ^ jb_p N - 1) (by omega)
  rw [e] at h1
  by_cases h2 : 2 ≤ jn_ct (jb_rep N) (jb_p N)
  · have h3 := jb_piece_dn w ht h2 (2 ^ jb_p N - 1) (by omega)
    rw [e] at h3
    omega
  · omega
end
theorem jb_SM48 {h0 h : jx_H} (f : ∀ c, c ≠ 48 → h.1 c = h0.1 c) : jb_SM h0 h := ⟨fun c hc _ _ => f c (fun e => hc (by unfold jb_sm; omega)), fun r _ => ⟨by rw [f 33 (by decide)], by rw [f 34 (by decide)]⟩⟩
theorem jb_SX1 {h0 h : jx_H} {k : Nat} (hk : jb_sx k) (h1 : k ≠ 15) (h2 : k ≠ 16) (h3 : k ≠ 17) (h4 : k ≠ 18) (f : ∀ c, c ≠ k → h.1 c = h0.1 c) : jb_SX h0 h := ⟨fun c hc => f c (fun e => hc (by rw [e]; exact hk)), fun z => by
  unfold jb_zero at *
  rw [f 15 (Ne.symm h1), f 16 (Ne.symm h2), f 17 (Ne.symm h3), f 18 (Ne.symm h4)]
  exact z⟩
theorem jt_22 {d : Nat} {hx hm : jx_H} (I : jb_Inv hx hm) (a : Int32) : jl_g d 65 153 [vi a] hx hm := by
  obtain ⟨N, w, x, m, h', rd, I', x', P⟩ := I.rd d
  have hp := w.1
  have h8 := jn_pow8 hp
  have i8 := Nat.two_pow_pos (jb_p N)
  by_cases a1 : a < 1
  · refine ⟨-1, _, _, ?_, ?_, I.fd⟩
    · rw [d65, e65_0]
      simp (disch := omega) only [jx_bI_s, jx_bL_s, jx_bV_s, eq_self, true_or, or_true, jx_if_t, jx_if_f, jq_b0, jq_b1, jq_bb, jq_b01, jx_if_in, jx_if_lt, jx_if_nlt, jx_if_le, jx_if_nle, jq_eqp, jq_eqn, nI_clamp, nI_add, pk_sub, pk_mul, jn_and, jn_or, jn_xor, jq_andn, jq_shl1, jq_bit, jq_mn, jq_mx, cond_true, cond_false, jq_jt, jq_jf, jq_e1, jq_e2, jq_e3, jq_e4, Bool.not_true, Bool.not_false, jq_0, jq_1, jq_2, jq_3, jq_4, jq_5, jq_6, jq_8, jq_12, jq_16, jq_20, jq_21, jq_24, jq_30, jq_32, jq_60, jq_84, jq_1000, jq_2436, jq_20001, jx_ifp (show a < nI 1 from a1), e65_11, dm_fx]
    · rw [d153, e153_0]
      simp (disch := omega) only [jx_bI_s, jx_bL_s, jx_bV_s, eq_self, true_or, or_true, jx_if_t, jx_if_f, jq_b0, jq_b1, jq_bb, jq_b01, jx_if_in, jx_if_lt, jx_if_nlt, jx_if_le, jx_if_nle, jq_eqp, jq_eqn, nI_clamp, nI_add, pk_sub, pk_mul, jn_and, jn_or, jn_xor, jq_andn, jq_shl1, jq_bit, jq_mn, jq_mx, cond_true, cond_false, jq_jt, jq_jf, jq_e1, jq_e2, jq_e3, jq_e4, Bool.not_true, Bool.not_false, jq_0, jq_1, jq_2, jq_3, jq_4, jq_5, jq_6, jq_8, jq_12, jq_16, jq_20, jq_21, jq_24, jq_30, jq_32, jq_60, jq_84, jq_1000, jq_2436, jq_20001, jx_ifp (show a < nI 1 from a1), e153_11, dm_fm]
  by_cases a8 : a ≤ 8
  · obtain ⟨k, hk8, rfl⟩ := nI_of2 (x := a) (M := 8) (n := 8) (by decide) (fun c => a1 (by
      rw [Int32.lt_iff_toInt_lt] at c ⊢
      have e0 : (0 : Int32).toInt = 0 := by decide
      have e1 : (1 : Int32).toInt = 1 := by decide
      omega)) a8
    have hk1 : 1 ≤ k := by
      apply Classical.byContradiction
      intro c
      exact a1 (by rw [show k = 0 by omega]; decide)
    cases ht : jb_t N
    · by_cases hp2 : jb_p N < 2
      · refine ⟨-6, _, _, ?_, ?_, I.fd⟩
        · rw [d65, e65_0]
          simp (disch := omega) only [jx_bI_s, jx_bL_s, jx_bV_s, eq_self, true_or, or_true, jx_if_t, jx_if_f, jq_b0, jq_b1, jq_bb, jq_b01, jx_if_in, jx_if_lt, jx_if_nlt, jx_if_le, jx_if_nle, jq_eqp, jq_eqn, nI_clamp, nI_add, pk_sub, pk_mul, jn_and, jn_or, jn_xor, jq_andn, jq_shl1, jq_bit, jq_mn, jq_mx, cond_true, cond_false, jq_jt, jq_jf, jq_e1, jq_e2, jq_e3, jq_e4, Bool.not_true, Bool.not_false, jq_0, jq_1, jq_2, jq_3, jq_4, jq_5, jq_6, jq_8, jq_12, jq_16, jq_20, jq_21, jq_24, jq_30, jq_32, jq_60, jq_84, jq_1000, jq_2436, jq_20001, x.2.2.1, ht, x.1, dm_fx]
        · rw [d153, e153_0]
          simp (disch := omega) only [jx_bI_s, jx_bL_s, jx_bV_s, eq_self, true_or, or_true, jx_if_t, jx_if_f, jq_b0, jq_b1, jq_bb, jq_b01, jx_if_in, jx_if_lt, jx_if_nlt, jx_if_le, jx_if_nle, jq_eqp, jq_eqn, nI_clamp, nI_add, pk_sub, pk_mul, jn_and, jn_or, jn_xor, jq_andn, jq_shl1, jq_bit, jq_mn, jq_mx, cond_true, cond_false, jq_jt, jq_jf, jq_e1, jq_e2, jq_e3, jq_e4, Bool.not_true, Bool.not_false, jq_0, jq_1, jq_2, jq_3, jq_4, jq_5, jq_6, jq_8, jq_12, jq_16, jq_20, jq_21, jq_24, jq_30, jq_32, jq_60, jq_84, jq_1000, jq_2436, jq_20001, m.2.2.1, ht, m.1, dm_fm]
      · obtain ⟨h2, b1, b2⟩ := dm_fewX (d := d + 35) (h0 := h') w (by omega) hk8 (2 ^ jb_p N - 1) 1 (jx_sI h' 20 0 0 (nI 0)) (by omega) (by omega) (by
          obtain ⟨H, T⟩ := P
          refine ⟨H.set (by decide), fun X hX => ?_⟩
          obtain ⟨⟨t1, t2, t3⟩, t4⟩ := T X hX
          exact ⟨⟨by rw [jx_sk (by decide)]; exact t1, by rw [jx_sk (by decide)]; exact t2, by rw [jx_sk (by decide)]; exact t3⟩, by rw [jx_sk (by decide)]; exact t4⟩) (fun c hc => jx_sk hc) (fun Y hY => by
          rw [show Y = 0 by omega, jx_ss, jh_L0])
        have I2 : ∀ hm', jb_SM hm hm' → jb_Inv h2 hm' := fun hm' s => I'.sx (jb_SX1 (k := 20) (by unfold jb_sx; omega) (by decide) (by decide) (by decide) (by decide) b2) s
        have hLl : jh_L N k (2 ^ jb_p N - 1) ≤ 2048 := by
          have h3 := jh_L_le (N := N) (k := k) (2 ^ jb_p N - 1)
          have h5 : k * (2 ^ jb_p N - 1) ≤ 8 * 256 := Nat.mul_le_mul hk8 (by omega)
          omega
        have pre : ∀ r, F66_46 (DM (d + 38)) (nI k) (nI (jh_L N k (2 ^ jb_p N - 1))) h2 = some ([vi r], h2) → DM (d + 40) 65 [vr 0 0, vi (nI k)] hx = some ([vi r], h2) := by
          intro r hr
          rw [d65, e65_0]
          simp (disch := omega) only [jx_bI_s, jx_bL_s, jx_bV_s, eq_self, true_or, or_true, jx_if_t, jx_if_f, jq_b0, jq_b1, jq_bb, jq_b01, jx_if_in, jx_if_lt, jx_if_nlt, jx_if_le, jx_if_nle, jq_eqp, jq_eqn, nI_clamp, nI_add, pk_sub, pk_mul, jn_and, jn_or, jn_xor, jq_andn, jq_shl1, jq_bit, jq_mn, jq_mx, cond_true, cond_false, jq_jt, jq_jf, jq_e1, jq_e2, jq_e3, jq_e4, Bool.not_true, Bool.not_false, jq_0, jq_1, jq_2, jq_3, jq_4, jq_5, jq_6, jq_8, jq_12, jq_16, jq_20, jq_21, jq_24, jq_30, jq_32, jq_60, jq_84, jq_1000, jq_2436, jq_20001, x.2.2.1, ht, x.1, rd, d66, e66_0, b1, hr]
        by_cases hk : k = 1
        · subst hk
          refine ⟨nI (jn_ct (jb_rep N) (jb_p N) - 1), h2, hm, pre _ ?_, ?_, I2 _ jb_SM.rf⟩
          · rw [e66_46, ← jb_piece_eq w ht]
            simp (disch := omega) only [jx_bI_s, jx_bL_s, jx_bV_s, eq_self, true_or, or_true, jx_if_t, jx_if_f, jq_b0, jq_b1, jq_bb, jq_b01, jx_if_in, jx_if_lt, jx_if_nlt, jx_if_le, jx_if_nle, jq_eqp, jq_eqn, nI_clamp, nI_add, pk_mul, jn_and, jn_or, jn_xor, jq_andn, jq_shl1, jq_bit, jq_mn, jq_mx, cond_true, cond_false, jq_jt, jq_jf, jq_e1, jq_e2, jq_e3, jq_e4, Bool.not_true, Bool.not_false, jq_0, jq_1, jq_2, jq_3, jq_4, jq_5, jq_6, jq_8, jq_12, jq_16, jq_20, jq_21, jq_24, jq_30, jq_32, jq_60, jq_84, jq_1000, jq_2436, jq_20001, jq_mxl, e66_66]
          · rw [d153, e153_0]
            simp (disch := omega) only [jx_bI_s, jx_bL_s, jx_bV_s, eq_self, true_or, or_true, jx_if_t, jx_if_f, jq_b0, jq_b1, jq_bb, jq_b01, jx_if_in, jx_if_lt, jx_if_nlt, jx_if_le, jx_if_nle, jq_eqp, jq_eqn, nI_clamp, nI_add, pk_sub, pk_mul, jn_and, jn_or, jn_xor, jq_andn, jq_shl1, jq_bit, jq_mn, jq_mx, cond_true, cond_false, jq_jt, jq_jf, jq_e1, jq_e2, jq_e3, jq_e4, Bool.not_true, Bool.not_false, jq_0, jq_1, jq_2, jq_3, jq_4, jq_5, jq_6, jq_8, jq_12, jq_16, jq_20, jq_21, jq_24, jq_30, jq_32, jq_60, jq_84, jq_1000, jq_2436, jq_20001, m.2.2.1, ht, m.1, dm_pieces w m (show 2 ≤ jb_p N by omega)]
        · obtain ⟨hm', c1, c2⟩ := dm_outM (d := d + 37) (h0 := hm) w m hk8 (2 ^ jb_p N) 0 hm (by omega) (fun c hc => rfl) (fun Y hY => by omega)
          refine ⟨nI ((jh_L N k (2 ^ jb_p N - 1) + 1) / 2), h2, hm', pre _ ?_, ?_, I2 _ (jb_SM48 c2)⟩
          · rw [e66_46]
            simp (disch := omega) only [jx_bI_s, jx_bL_s, jx_bV_s, eq_self, true_or, or_true, jx_if_t, jx_if_f, jq_b0, jq_b1, jq_bb, jq_b01, jx_if_in, jx_if_lt, jx_if_nlt, jx_if_le, jx_if_nle, jq_eqp, jq_eqn, nI_clamp, nI_add, pk_sub, pk_mul, jn_and, jn_or, jn_xor, jq_andn, jq_shl1, jq_bit, jq_mn, jq_mx, cond_true, cond_false, jq_jt, jq_jf, jq_e1, jq_e2, jq_e3, jq_e4, Bool.not_true, Bool.not_false, jq_0, jq_1, jq_2, jq_3, jq_4, jq_5, jq_6, jq_8, jq_12, jq_16, jq_20, jq_21, jq_24, jq_30, jq_32, jq_60, jq_84, jq_1000, jq_2436, jq_20001, pk_div, e66_66]
          · rw [d153, e153_0]
            simp (disch := omega) only [jx_bI_s, jx_bL_s, jx_bV_s, eq_self, true_or, or_true, jx_if_t, jx_if_f, jq_b0, jq_b1, jq_bb, jq_b01, jx_if_in, jx_if_lt, jx_if_nlt, jx_if_le, jx_if_nle, jq_eqp, jq_eqn, nI_clamp, nI_add, pk_sub, pk_mul, jn_and, jn_or, jn_xor, jq_andn, jq_shl1, jq_bit, jq_mn, jq_mx, cond_true, cond_false, jq_jt, jq_jf, jq_e1, jq_e2, jq_e3, jq_e4, Bool.not_true, Bool.not_false, jq_0, jq_1, jq_2, jq_3, jq_4, jq_5, jq_6, jq_8, jq_12, jq_16, jq_20, jq_21, jq_24, jq_30, jq_32, jq_60, jq_84, jq_1000, jq_2436, jq_20001, m.2.2.1, ht, m.1, c1]
    · refine ⟨-8, _, _, ?_, ?_, I.fd⟩
      · rw [d65, e65_0]
        simp (disch := omega) only [jx_bI_s, jx_bL_s, jx_bV_s, eq_self, true_or, or_true, jx_if_t, jx_if_f, jq_b0, jq_b1, jq_bb, jq_b01, jx_if_in, jx_if_lt, jx_if_nlt, jx_if_le, jx_if_nle, jq_eqp, jq_eqn, nI_clamp, nI_add, pk_sub, pk_mul, jn_and, jn_or, jn_xor, jq_andn, jq_shl1, jq_bit, jq_mn, jq_mx, cond_true, cond_false, jq_jt, jq_jf, jq_e1, jq_e2, jq_e3, jq_e4, Bool.not_true, Bool.not_false, jq_0, jq_1, jq_2, jq_3, jq_4, jq_5, jq_6, jq_8, jq_12, jq_16, jq_20, jq_21, jq_24, jq_30, jq_32, jq_60, jq_84, jq_1000, jq_2436, jq_20001, x.2.2.1, ht, dm_fx]
      · rw [d153, e153_0]
        simp (disch := omega) only [jx_bI_s, jx_bL_s, jx_bV_s, eq_self, true_or, or_true, jx_if_t, jx_if_f, jq_b0, jq_b1, jq_bb, jq_b01, jx_if_in, jx_if_lt, jx_if_nlt, jx_if_le, jx_if_nle, jq_eqp, jq_eqn, nI_clamp, nI_add, pk_sub, pk_mul, jn_and, jn_or, jn_xor, jq_andn, jq_shl1, jq_bit, jq_mn, jq_mx, cond_true, cond_false, jq_jt, jq_jf, jq_e1, jq_e2, jq_e3, jq_e4, Bool.not_true, Bool.not_false, jq_0, jq_1, jq_2, jq_3, jq_4, jq_5, jq_6, jq_8, jq_12, jq_16, jq_20, jq_21, jq_24, jq_30, jq_32, jq_60, jq_84, jq_1000, jq_2436, jq_20001, m.2.2.1, ht, dm_fm]
  · refine ⟨-1, _, _, ?_, ?_, I.fd⟩
    · rw [d65, e65_0]
      simp (disch := omega) only [jx_bI_s, jx_bL_s, jx_bV_s, eq_self, true_or, or_true, jx_if_t, jx_if_f, jq_b0, jq_b1, jq_bb, jq_b01, jx_if_in, jx_if_lt, jx_if_nlt, jx_if_le, jx_if_nle, jq_eqp, jq_eqn, nI_clamp, nI_add, pk_sub, pk_mul, jn_and, jn_or, jn_xor, jq_andn, jq_shl1, jq_bit, jq_mn, jq_mx, cond_true, cond_false, jq_jt, jq_jf, jq_e1, jq_e2, jq_e3, jq_e4, Bool.not_true, Bool.not_false, jq_0, jq_1, jq_2, jq_3, jq_4, jq_5, jq_6, jq_8, jq_12, jq_16, jq_20, jq_21, jq_24, jq_30, jq_32, jq_60, jq_84, jq_1000, jq_2436, jq_20001, jx_ifn (show ¬ a < nI 1 from a1), jx_ifn (show ¬ a ≤ nI 8 from a8), e65_11, dm_fx]
    · rw [d153, e153_0]
      simp (disch := omega) only [jx_bI_s, jx_bL_s, jx_bV_s, eq_self, true_or, or_true, jx_if_t, jx_if_f, jq_b0, jq_b1, jq_bb, jq_b01, jx_if_in, jx_if_lt, jx_if_nlt, jx_if_le, jx_if_nle, jq_eqp, jq_eqn, nI_clamp, nI_add, pk_sub, pk_mul, jn_and, jn_or, jn_xor, jq_andn, jq_shl1, jq_bit, jq_mn, jq_mx, cond_true, cond_false, jq_jt, jq_jf, jq_e1, jq_e2, jq_e3, jq_e4, Bool.not_true, Bool.not_false, jq_0, jq_1, jq_2, jq_3, jq_4, jq_5, jq_6, jq_8, jq_12, jq_16, jq_20, jq_21, jq_24, jq_30, jq_32, jq_60, jq_84, jq_1000, jq_2436, jq_20001, jx_ifn (show ¬ a < nI 1 from a1), jx_ifn (show ¬ a ≤ nI 8 from a8), e153_11, dm_fm]
