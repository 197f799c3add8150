/-! ===== layer 2: chances of a plain net ===== -/
def jn_pd (f : Nat → Nat) : Nat → Nat
  | 0 => 1
  | n + 1 => jn_pd f n * f n
theorem jn_pd_congr {f g : Nat → Nat} : ∀ n, (∀ i, i < n → f i = g i) → jn_pd f n = jn_pd g n := by
  intro n
  induction n with
  | zero => intro _; rfl
  | succ n ih =>
    intro h
    show jn_pd f n * f n = jn_pd g n * g n
    rw [ih (fun i hi => h i (by omega)), h n (by omega)]
theorem jn_pd_one {f : Nat → Nat} : ∀ n, (∀ i, i < n → f i = 1) → jn_pd f n = 1 := by
  intro n
  induction n with
  | zero => intro _; rfl
  | succ n ih =>
    intro h
    show jn_pd f n * f n = 1
    rw [ih (fun i hi => h i (by omega)), h n (by omega)]
theorem jn_pd_upd {f g : Nat → Nat} {e v : Nat} : ∀ n, e < n → (∀ i, i < n → i ≠ e → f i = g i) → f e = v → g e = 1 → jn_pd f n = v * jn_pd g n := by
  intro n
  induction n with
  | zero => intro h; omega
  | succ n ih =>
    intro he h h1 h2
    show jn_pd f n * f n = v * (jn_pd g n * g n)
    by_cases c : e = n
    · subst c
      rw [jn_pd_congr e (fun i hi => h i (by omega) (by omega)), h1, h2, Nat.mul_one, Nat.mul_comm]
    · rw [ih (by omega) (fun i hi => h i (by omega)) h1 h2, h n (by omega) (Ne.symm c), Nat.mul_assoc]
def jc_wt (N : jb_N) (X Y r : Nat) : Nat := if jp_btb N X Y r = true then 8 - jb_g N r else 1
def jc_b (N : jb_N) (X Y : Nat) : Nat := jn_pd (jc_wt N X Y) (jb_n N)
def jn_lw (S : Nat) : Nat := jn_df S (S - 1)
def jc_ok (S i : Nat) : Bool := decide (1 ≤ i) && (decide (jn_df i S = 0) && decide (i &&& jn_lw S ≠ 0))
def jc_tm (N : jb_N) (S : Nat) (t : Nat → Int64) (i : Nat) : Int64 := t i * lN (jc_b N i (jn_df S i)) * lN (8 ^ jb_wi N (jn_df S i))
def jc_acc (N : jb_N) (S : Nat) (t : Nat → Int64) : Nat → Int64
  | 0 => lN (8 ^ jb_wi N S)
  | i + 1 => if jc_ok S i = true then jc_acc N S t i - jc_tm N S t i else jc_acc N S t i
def jc_tb (N : jb_N) : Nat → Nat → Int64
  | 0 => fun _ => 0
  | i + 1 => fun Y => if Y = i then jc_acc N i (jc_tb N i) i else jc_tb N i Y
def jc_T (N : jb_N) (S : Nat) : Int64 := jc_tb N (S + 1) S
theorem jc_tb_T {N : jb_N} : ∀ {i Y : Nat}, Y < i → jc_tb N i Y = jc_T N Y := by
  intro i
  induction i with
  | zero => intro Y h; omega
  | succ i ih =>
    intro Y h
    by_cases e : Y = i
    · subst e
      rfl
    · show (if Y = i then _ else jc_tb N i Y) = _
      rw [if_neg e]
      exact ih (by omega)
theorem jc_acc_congr {N : jb_N} {S : Nat} {t t' : Nat → Int64} : ∀ i, (∀ j, j < i → t j = t' j) → jc_acc N S t i = jc_acc N S t' i := by
  intro i
  induction i with
  | zero => intro _; rfl
  | succ i ih =>
    intro h
    show (if jc_ok S i = true then jc_acc N S t i - jc_tm N S t i else jc_acc N S t i) = (if jc_ok S i = true then jc_acc N S t' i - jc_tm N S t' i else jc_acc N S t' i)
    unfold jc_tm
    rw [ih (fun j hj => h j (by omega)), h i (by omega)]
theorem jc_T_eq {N : jb_N} {S : Nat} : jc_T N S = jc_acc N S (jc_T N) S := by
  show (if S = S then jc_acc N S (jc_tb N S) S else _) = _
  rw [if_pos rfl]
  exact jc_acc_congr S (fun j hj => jc_tb_T hj)
theorem jc_pw : ∀ n, n < 21 → (1 : Int64) <<< ((nI (3 * n)).toInt64 &&& 63) = lN (8 ^ n) := by decide +kernel
theorem jx_sL1 (h : jx_H) (c i p : Nat) (v : Int64) : (jx_sL h c i p v).1 = h.1 := rfl
theorem jx_sL2 (h : jx_H) (c i p : Nat) (v : Int64) (q : Nat) : (jx_sL h c i p v).2 c i q = if q = p then v else h.2 c i q := by
  by_cases e : q = p
  · rw [if_pos e]
    exact if_pos ⟨rfl, rfl, e⟩
  · rw [if_neg e]
    exact if_neg (fun k => e k.2.2)
theorem jq_cz {x : Int64} {a b : Option jx_R} (h : x = 0) : jx_if (lg_cmp x 0 = nI 0) a b = a := jx_ifp (by rw [h]; decide)
theorem jq_cn {x : Int64} {a b : Option jx_R} (h : x ≠ 0) : jx_if (lg_cmp x 0 = nI 0) a b = b := jx_ifn (fun e => by
  unfold lg_cmp at e
  split at e
  · exact absurd e (by decide)
  · exact absurd e (by decide))
section
variable {d : Nat} {N : jb_N}
theorem dm_powM {n : Nat} (hn : n ≤ 20) (h : jx_H) : DM (d + 1) 171 [vr 30 0, vi (nI n)] h = some ([vl (lN (8 ^ n))], h) := by
  rw [d171, e171_0, show (3 : Int32) = nI 3 from rfl, pk_mul, jc_pw n (by omega)]
theorem dm_betM {h : jx_H} (w : jb_wf N) (m : jb_M h N) (ht : jb_t N = false) {X Y : Nat} (hX : X < 2 ^ 31) (hY : Y < 2 ^ 31) : DM (d + 2) 172 [vr 30 0, vi (nI X), vi (nI Y)] h = some ([vl (lN (jc_b N X Y))], h) := by
  have hn := w.2.1
  have hp := w.1
  rw [d172, e172_0]
  refine (jn_loop (fun i => F172_5 (DM (d + 1)) (nI X) (nI Y) (lN (jn_pd (jc_wt N X Y) i)) (nI i) h) (Nat.zero_le (jb_n N)) (fun i _ hi => ?_)).trans ?_
  · show F172_5 _ _ _ _ _ _ = F172_5 _ _ _ (lN (jn_pd (jc_wt N X Y) i * jc_wt N X Y i)) _ _
    obtain ⟨w1, w2, w3, w4, w5⟩ := w.2.2 i hi
    obtain ⟨m1, m2, m3, m4⟩ := m.2.2.2 i hi
    have fin : ∀ b : Bool, jp_btb N X Y i = b → F172_75 (DM (d + 1)) (nI X) (nI Y) (lN (jn_pd (jc_wt N X Y) i)) (nI i) (jn_b b) h = F172_5 (DM (d + 1)) (nI X) (nI Y) (lN (jn_pd (jc_wt N X Y) i * jc_wt N X Y i)) (nI (i + 1)) h := by
      intro b hb
      unfold jc_wt
      rw [hb, e172_75, ← lN_mul]
      cases b
      · simp (disch := omega) only [jx_bI_s, jx_bL_s, jx_bV_s, eq_self, true_or, or_true, jx_if_t, jx_if_f, jq_b0, jq_b1, jq_bb, jq_b01, jx_if_in, jx_if_lt, jx_if_nlt, jx_if_le, jx_if_nle, jq_eqp, jq_eqn, nI_clamp, nI_add, pk_sub, pk_mul, jn_and, jn_or, jn_xor, jq_andn, jq_shl1, jq_bit, jq_mn, jq_mx, cond_true, cond_false, jq_jt, jq_jf, jq_e1, jq_e2, jq_e3, jq_e4, Bool.not_true, Bool.not_false, jq_0, jq_1, jq_2, jq_3, jq_4, jq_5, jq_6, jq_8, jq_12, jq_16, jq_20, jq_21, jq_24, jq_30, jq_32, jq_60, jq_84, jq_1000, jq_2436, jq_20001, e172_99, e172_101]
        rfl
      · have e8 : (8 : Int64) - (nI (jb_g N i)).toInt64 = lN (8 - jb_g N i) := by
          rw [nI_l (by omega), show (8 : Int64) = lN 8 from rfl, lN_sub w5]
        simp (disch := omega) only [jx_bI_s, jx_bL_s, jx_bV_s, eq_self, true_or, or_true, jx_if_t, jx_if_f, jq_b0, jq_b1, jq_bb, jq_b01, jx_if_in, jx_if_lt, jx_if_nlt, jx_if_le, jx_if_nle, jq_eqp, jq_eqn, nI_clamp, nI_add, pk_sub, pk_mul, jn_and, jn_or, jn_xor, jq_andn, jq_shl1, jq_bit, jq_mn, jq_mx, cond_true, cond_false, jq_jt, jq_jf, jq_e1, jq_e2, jq_e3, jq_e4, Bool.not_true, Bool.not_false, jq_0, jq_1, jq_2, jq_3, jq_4, jq_5, jq_6, jq_8, jq_12, jq_16, jq_20, jq_21, jq_24, jq_30, jq_32, jq_60, jq_84, jq_1000, jq_2436, jq_20001, m4, e8, e172_99, e172_101, if_true]
    have bt : jp_btb N X Y i = ((X.testBit (jb_f N i) && Y.testBit (jb_s N i)) || (X.testBit (jb_s N i) && Y.testBit (jb_f N i))) := by
      unfold jp_btb
      rw [ht]
      rfl
    rw [e172_5, m.2.1]
    cases c1 : X.testBit (jb_f N i) <;> cases c2 : Y.testBit (jb_s N i) <;> cases c3 : Y.testBit (jb_f N i) <;> cases c4 : X.testBit (jb_s N i) <;> rw [c1, c2, c3, c4] at bt <;> have f0 := fin _ bt <;> simp (disch := omega) only [jx_bI_s, jx_bL_s, jx_bV_s, eq_self, true_or, or_true, jx_if_t, jx_if_f, jq_b0, jq_b1, jq_bb, jq_b01, jx_if_in, jx_if_lt, jx_if_nlt, jx_if_le, jx_if_nle, jq_eqp, jq_eqn, nI_clamp, nI_add, pk_sub, pk_mul, jn_and, jn_or, jn_xor, jq_andn, jq_shl1, jq_bit, jq_mn, jq_mx, cond_true, cond_false, jq_jt, jq_jf, jq_e1, jq_e2, jq_e3, jq_e4, Bool.not_true, Bool.not_false, jq_0, jq_1, jq_2, jq_3, jq_4, jq_5, jq_6, jq_8, jq_12, jq_16, jq_20, jq_21, jq_24, jq_30, jq_32, jq_60, jq_84, jq_1000, jq_2436, jq_20001, m1, m2, dm_inN, c1, c2, c3, c4, e172_42, e172_70, e172_74] <;> exact f0
  · show F172_5 _ _ _ _ _ _ = _
    rw [e172_5, m.2.1, jx_if_nlt (Nat.le_refl _) (by omega)]
    rfl
theorem jc_wi_le (X : Nat) : jb_wi N X ≤ jb_n N := jn_ct_le _ _
theorem dm_chM {h0 : jx_H} (w : jb_wf N) (m0 : jb_M h0 N) (ht : jb_t N = false) (hp1 : 1 ≤ jb_p N) : ∀ (k S : Nat) (h : jx_H), S + k = 2 ^ jb_p N → 1 ≤ S → h.1 = h0.1 → (∀ Y, 1 ≤ Y → Y < S → h.2 53 0 Y = jc_T N Y) → ∃ h', F170_2 (DM (d + 3)) (nI S) h = some ([vl (jc_T N (2 ^ jb_p N - 1))], h') ∧ h'.1 = h0.1 := by
  have hn := w.2.1
  have hp := w.1
  have h8 := jn_pow8 hp
  intro k
  induction k with
  | zero =>
    intro S h hS h1 f f2
    have m : jb_M h N := by unfold jb_M at *; rw [f]; exact m0
    have h2 : 2 ≤ 2 ^ jb_p N := (Nat.pow_le_pow_right (by decide) hp1 : 2 ^ 1 ≤ 2 ^ jb_p N)
    refine ⟨h, ?_, f⟩
    rw [e170_2]
    simp (disch := omega) only [jx_bI_s, jx_bL_s, jx_bV_s, eq_self, true_or, or_true, jx_if_t, jx_if_f, jq_b0, jq_b1, jq_bb, jq_b01, jx_if_in, jx_if_lt, jx_if_nlt, jx_if_le, jx_if_nle, jq_eqp, jq_eqn, nI_clamp, nI_add, pk_sub, pk_mul, jn_and, jn_or, jn_xor, jq_andn, jq_shl1, jq_bit, jq_mn, jq_mx, cond_true, cond_false, jq_jt, jq_jf, jq_e1, jq_e2, jq_e3, jq_e4, Bool.not_true, Bool.not_false, jq_0, jq_1, jq_2, jq_3, jq_4, jq_5, jq_6, jq_8, jq_12, jq_16, jq_20, jq_21, jq_24, jq_30, jq_32, jq_60, jq_84, jq_1000, jq_2436, jq_20001, dm_all (n := jb_p N) (by omega) m.1, f2 (2 ^ jb_p N - 1) (by omega) (by omega)]
  | succ k ih =>
    intro S h hS h1 f f2
    have m : jb_M h N := by unfold jb_M at *; rw [f]; exact m0
    have hwi := jc_wi_le (N := N) S
    have low : nI S &&& (-nI S) = nI (jn_lw S) := by
      rw [jn_neg h1 (by omega), jn_andn]
      rfl
    have hlw : jn_lw S < 256 := by
      have := jn_sb_le (jn_df_sb (X := S) (P := S - 1))
      unfold jn_lw
      omega
    have ok0 : jc_ok S 0 = false := by
      unfold jc_ok
      simp
    have e1 : jc_acc N S (jc_T N) 1 = lN (8 ^ jb_wi N S) := by
      show (if jc_ok S 0 = true then _ else _) = _
      rw [ok0]
      rfl
    have inner : F170_28 (DM (d + 3)) (nI S) (nI (jn_lw S)) (jc_acc N S (jc_T N) 1) (nI 1) h = F170_28 (DM (d + 3)) (nI S) (nI (jn_lw S)) (jc_acc N S (jc_T N) S) (nI S) h := by
      refine jn_loop (fun i => F170_28 (DM (d + 3)) (nI S) (nI (jn_lw S)) (jc_acc N S (jc_T N) i) (nI i) h) h1 (fun i hi1 hi => ?_)
      show F170_28 _ _ _ _ _ _ = F170_28 _ _ _ (if jc_ok S i = true then jc_acc N S (jc_T N) i - jc_tm N S (jc_T N) i else jc_acc N S (jc_T N) i) _ _
      have hdl : jn_df i S < 256 := by
        have := jn_sb_le (jn_df_sb (X := i) (P := S))
        omega
      have hal : i &&& jn_lw S < 256 := Nat.lt_of_le_of_lt Nat.and_le_right hlw
      have hds : jn_df S i < 256 := by
        have := jn_sb_le (jn_df_sb (X := S) (P := i))
        omega
      have hwd := jc_wi_le (N := N) (jn_df S i)
      rw [e170_28]
      by_cases c1 : jn_df i S = 0
      · by_cases c2 : i &&& jn_lw S = 0
        · have ok : jc_ok S i = false := by
            unfold jc_ok
            simp [c2]
          rw [ok, if_neg (by decide)]
          simp (disch := omega) only [jx_bI_s, jx_bL_s, jx_bV_s, eq_self, true_or, or_true, jx_if_t, jx_if_f, jq_b0, jq_b1, jq_bb, jq_b01, jx_if_in, jx_if_lt, jx_if_nlt, jx_if_le, jx_if_nle, jq_eqp, jq_eqn, nI_clamp, nI_add, pk_sub, pk_mul, jn_and, jn_or, jn_xor, jq_andn, jq_shl1, jq_bit, jq_mn, jq_mx, cond_true, cond_false, jq_jt, jq_jf, jq_e1, jq_e2, jq_e3, jq_e4, Bool.not_true, Bool.not_false, jq_0, jq_1, jq_2, jq_3, jq_4, jq_5, jq_6, jq_8, jq_12, jq_16, jq_20, jq_21, jq_24, jq_30, jq_32, jq_60, jq_84, jq_1000, jq_2436, jq_20001, e170_88]
        · have ok : jc_ok S i = true := by
            unfold jc_ok
            simp [c1, c2, hi1]
          rw [if_pos ok]
          unfold jc_tm
          simp (disch := omega) only [jx_bI_s, jx_bL_s, jx_bV_s, eq_self, true_or, or_true, jx_if_t, jx_if_f, jq_b0, jq_b1, jq_bb, jq_b01, jx_if_in, jx_if_lt, jx_if_nlt, jx_if_le, jx_if_nle, jq_eqp, jq_eqn, nI_clamp, nI_add, pk_sub, pk_mul, jn_and, jn_or, jn_xor, jq_andn, jq_shl1, jq_bit, jq_mn, jq_mx, cond_true, cond_false, jq_jt, jq_jf, jq_e1, jq_e2, jq_e3, jq_e4, Bool.not_true, Bool.not_false, jq_0, jq_1, jq_2, jq_3, jq_4, jq_5, jq_6, jq_8, jq_12, jq_16, jq_20, jq_21, jq_24, jq_30, jq_32, jq_60, jq_84, jq_1000, jq_2436, jq_20001, f2 i hi1 hi, dm_betM w m ht, dm_withinM w m, dm_powM, e170_88]
      · have ok : jc_ok S i = false := by
          unfold jc_ok
          simp [c1]
        rw [ok, if_neg (by decide)]
        simp (disch := omega) only [jx_bI_s, jx_bL_s, jx_bV_s, eq_self, true_or, or_true, jx_if_t, jx_if_f, jq_b0, jq_b1, jq_bb, jq_b01, jx_if_in, jx_if_lt, jx_if_nlt, jx_if_le, jx_if_nle, jq_eqp, jq_eqn, nI_clamp, nI_add, pk_sub, pk_mul, jn_and, jn_or, jn_xor, jq_andn, jq_shl1, jq_bit, jq_mn, jq_mx, cond_true, cond_false, jq_jt, jq_jf, jq_e1, jq_e2, jq_e3, jq_e4, Bool.not_true, Bool.not_false, jq_0, jq_1, jq_2, jq_3, jq_4, jq_5, jq_6, jq_8, jq_12, jq_16, jq_20, jq_21, jq_24, jq_30, jq_32, jq_60, jq_84, jq_1000, jq_2436, jq_20001, e170_88]
    obtain ⟨h', a1, a2⟩ := ih (S + 1) (jx_sL h 53 0 S (jc_T N S)) (by omega) (by omega) (by rw [jx_sL1]; exact f) (fun Y y1 y2 => by
      rw [jx_sL2]
      by_cases e : Y = S
      · rw [if_pos e, e]
      · rw [if_neg e]; exact f2 Y y1 (by omega))
    refine ⟨h', ?_, a2⟩
    rw [e170_2]
    simp (disch := omega) only [jx_bI_s, jx_bL_s, jx_bV_s, eq_self, true_or, or_true, jx_if_t, jx_if_f, jq_b0, jq_b1, jq_bb, jq_b01, jx_if_in, jx_if_lt, jx_if_nlt, jx_if_le, jx_if_nle, jq_eqp, jq_eqn, nI_clamp, nI_add, pk_sub, pk_mul, jn_and, jn_or, jn_xor, jq_andn, jq_shl1, jq_bit, jq_mn, jq_mx, cond_true, cond_false, jq_jt, jq_jf, jq_e1, jq_e2, jq_e3, jq_e4, Bool.not_true, Bool.not_false, jq_0, jq_1, jq_2, jq_3, jq_4, jq_5, jq_6, jq_8, jq_12, jq_16, jq_20, jq_21, jq_24, jq_30, jq_32, jq_60, jq_84, jq_1000, jq_2436, jq_20001, dm_all (n := jb_p N) (by omega) m.1, dm_withinM w m, dm_powM, low]
    rw [← e1, inner, e170_28, ← jc_T_eq]
    simp (disch := omega) only [jx_bI_s, jx_bL_s, jx_bV_s, eq_self, true_or, or_true, jx_if_t, jx_if_f, jq_b0, jq_b1, jq_bb, jq_b01, jx_if_in, jx_if_lt, jx_if_nlt, jx_if_le, jx_if_nle, jq_eqp, jq_eqn, nI_clamp, nI_add, pk_sub, pk_mul, jn_and, jn_or, jn_xor, jq_andn, jq_shl1, jq_bit, jq_mn, jq_mx, cond_true, cond_false, jq_jt, jq_jf, jq_e1, jq_e2, jq_e3, jq_e4, Bool.not_true, Bool.not_false, jq_0, jq_1, jq_2, jq_3, jq_4, jq_5, jq_6, jq_8, jq_12, jq_16, jq_20, jq_21, jq_24, jq_30, jq_32, jq_60, jq_84, jq_1000, jq_2436, jq_20001]
    exact a1
/-- the class: cut off by its roads -/
def jc_m (N : jb_N) (M : Nat) : Nat := jn_pd (fun r => if M.testBit r = true then 8 - jb_g N r else 1) (jb_n N)
theorem jc_m_b (X Y : Nat) : jc_m N (jp_bt N X Y) = jc_b N X Y := jn_pd_congr _ (fun r hr => by
  show (if (jn_mk (jp_btb N X Y) (jb_n N)).testBit r = true then _ else _) = jc_wt N X Y r
  rw [jn_mk_t, decide_eq_true hr, Bool.true_and]
  rfl)
theorem dm_waysX {h : jx_H} (w : jb_wf N) (P : jp_P h N) (g0 : h.1 26 0 0 = nI 1) {X : Nat} (hX : X < 2 ^ jb_p N) : DM (d + 2) 94 [vr 26 0, vi (nI X)] h = some ([vl (lN (8 ^ jb_wi N X))], h) := by
  have hn := w.2.1
  have h8 := jn_pow8 w.1
  have h20 := jn_pow20 hn
  obtain ⟨⟨t1, t2, _⟩, _⟩ := P.2 X hX
  have hst := jp_st_lt N X
  have hal : jp_st N X &&& jp_en N X < 2 ^ jb_n N := jn_and_lt hst
  have hwi := jc_wi_le (N := N) X
  rw [d94, e94_0, g0, nI_clamp (by omega), t1, t2]
  simp (disch := omega) only [jx_bI_s, jx_bL_s, jx_bV_s, eq_self, true_or, or_true, jx_if_t, jx_if_f, jq_b0, jq_b1, jq_bb, jq_b01, jx_if_in, jx_if_lt, jx_if_nlt, jx_if_le, jx_if_nle, jq_eqp, jq_eqn, nI_clamp, nI_add, pk_sub, pk_mul, jn_and, jn_or, jn_xor, jq_andn, jq_shl1, jq_bit, jq_mn, jq_mx, cond_true, cond_false, jq_jt, jq_jf, jq_e1, jq_e2, jq_e3, jq_e4, Bool.not_true, Bool.not_false, jq_0, jq_1, jq_2, jq_3, jq_4, jq_5, jq_6, jq_8, jq_12, jq_16, jq_20, jq_21, jq_24, jq_30, jq_32, jq_60, jq_84, jq_1000, jq_2436, jq_20001, dm_bc, jp_wi hn, jc_pw]
theorem dm_cutoff {h : jx_H} (w : jb_wf N) (x : jb_X h 0 N) (P : jp_P h N) (g0 : h.1 26 0 0 = nI 1) (g1 : h.1 26 0 1 = nI 1) {A B : Nat} (hA : A < 2 ^ jb_p N) (hB : B < 2 ^ jb_p N) : DM (d + 3) 95 [vr 26 0, vi (nI A), vi (nI B)] h = some ([vl (h.2 27 0 A * lN (jc_b N A B) * lN (8 ^ jb_wi N B))], h) := by
  have hn := w.2.1
  have h8 := jn_pow8 w.1
  have h20 := jn_pow20 hn
  have e76 : ∀ v : Int64, F95_76 (DM (d + 2)) (nI B) v h = some ([vl (v * lN (8 ^ jb_wi N B))], h) := by
    intro v
    rw [e95_76, show (0 : Int32) = nI 0 from rfl]
    by_cases c : v = 0
    · rw [jq_cz c, e95_93, c, Int64.zero_mul]
    · rw [jq_cn c, dm_waysX w P g0 hB, jx_bL_s, e95_93]
  have loop : ∀ k i M (v : Int64), i + k = 20 → M < 2 ^ jb_n N → jn_pc M ≤ k → F95_29 (DM (d + 2)) (nI B) v (nI M) (nI i) h = some ([vl (v * lN (jc_m N M) * lN (8 ^ jb_wi N B))], h) := by
    intro k
    induction k with
    | zero =>
      intro i M v hi hM hpc
      have e : M = 0 := by
        apply Classical.byContradiction
        intro c
        have := jn_pc_pos (p := jb_n N) (by omega) hM (by omega)
        omega
      have e1 : jc_m N M = 1 := jn_pd_one _ (fun r _ => by rw [e, Nat.zero_testBit]; rfl)
      rw [e1, show lN 1 = 1 from rfl, Int64.mul_one, e95_29]
      simp (disch := omega) only [jx_bI_s, jx_bL_s, jx_bV_s, eq_self, true_or, or_true, jx_if_t, jx_if_f, jq_b0, jq_b1, jq_bb, jq_b01, jx_if_in, jx_if_lt, jx_if_nlt, jx_if_le, jx_if_nle, jq_eqp, jq_eqn, nI_clamp, nI_add, pk_sub, pk_mul, jn_and, jn_or, jn_xor, jq_andn, jq_shl1, jq_bit, jq_mn, jq_mx, cond_true, cond_false, jq_jt, jq_jf, jq_e1, jq_e2, jq_e3, jq_e4, Bool.not_true, Bool.not_false, jq_0, jq_1, jq_2, jq_3, jq_4, jq_5, jq_6, jq_8, jq_12, jq_16, jq_20, jq_21, jq_24, jq_30, jq_32, jq_60, jq_84, jq_1000, jq_2436, jq_20001]
      exact e76 v
    | succ k ih =>
      intro i M v hi hM hpc
      by_cases e : M = 0
      · have e1 : jc_m N M = 1 := jn_pd_one _ (fun r _ => by rw [e, Nat.zero_testBit]; rfl)
        rw [e1, show lN 1 = 1 from rfl, Int64.mul_one, e95_29, e]
        simp (disch := omega) only [jx_bI_s, jx_bL_s, jx_bV_s, eq_self, true_or, or_true, jx_if_t, jx_if_f, jq_b0, jq_b1, jq_bb, jq_b01, jx_if_in, jx_if_lt, jx_if_nlt, jx_if_le, jx_if_nle, jq_eqp, jq_eqn, nI_clamp, nI_add, pk_sub, pk_mul, jn_and, jn_or, jn_xor, jq_andn, jq_shl1, jq_bit, jq_mn, jq_mx, cond_true, cond_false, jq_jt, jq_jf, jq_e1, jq_e2, jq_e3, jq_e4, Bool.not_true, Bool.not_false, jq_0, jq_1, jq_2, jq_3, jq_4, jq_5, jq_6, jq_8, jq_12, jq_16, jq_20, jq_21, jq_24, jq_30, jq_32, jq_60, jq_84, jq_1000, jq_2436, jq_20001]
        exact e76 v
      · obtain ⟨q, c, eq⟩ := jn_low (show 0 < M by omega)
        obtain ⟨l1, l2⟩ := jn_low_has eq
        have hqn := jn_hi hM l1
        have hM' : M &&& (M - 1) < 2 ^ jb_n N := jn_and_lt hM
        have hMt : ∀ r, (M &&& (M - 1)).testBit r = (M.testBit r && decide (r ≠ q)) := fun r => by
          rw [Nat.testBit_and]
          by_cases c2 : r = q
          · subst c2
            rw [l1, eq, jn_low_p, if_pos (by omega)]
            simp
          · by_cases c3 : r < q
            · rw [l2 r c3]
              rfl
            · have e2 : (M - 1).testBit r = M.testBit r := by
                rw [eq, jn_low_p, jn_low_t, if_neg (by omega), if_neg (by omega)]
              rw [e2]
              simp [c2]
        have hpc' : jn_pc (M &&& (M - 1)) < jn_pc M := jn_pc_sub hM' hM (by omega) (fun r hr => by
          rw [hMt, Bool.and_eq_true] at hr
          exact hr.1) (fun e2 => by
          have := hMt q
          rw [e2, l1] at this
          simp at this)
        have em : jc_m N M = (8 - jb_g N q) * jc_m N (M &&& (M - 1)) := by
          refine jn_pd_upd (e := q) _ hqn (fun r hr hne => ?_) ?_ ?_
          · show (if M.testBit r = true then _ else _) = (if (M &&& (M - 1)).testBit r = true then _ else _)
            rw [hMt]
            simp [hne]
          · show (if M.testBit q = true then _ else _) = _
            rw [if_pos l1]
          · show (if (M &&& (M - 1)).testBit q = true then _ else _) = _
            rw [hMt]
            simp
        have hg := (w.2.2 q hqn).2.2.2.2
        have x5 := (x.2.2.2 q hqn).2.2.2
        have e8 : (nI (8 - jb_g N q)).toInt64 = lN (8 - jb_g N q) := nI_l (by omega)
        have := ih (i + 1) (M &&& (M - 1)) (v * lN (8 - jb_g N q)) (by omega) hM' (by omega)
        rw [em, ← lN_mul, ← Int64.mul_assoc, e95_29]
        simp (disch := omega) only [jx_bI_s, jx_bL_s, jx_bV_s, eq_self, true_or, or_true, jx_if_t, jx_if_f, jq_b0, jq_b1, jq_bb, jq_b01, jx_if_in, jx_if_lt, jx_if_nlt, jx_if_le, jx_if_nle, jq_eqp, jq_eqn, nI_clamp, nI_add, pk_sub, pk_mul, jn_and, jn_or, jn_xor, jq_andn, jq_shl1, jq_bit, jq_mn, jq_mx, cond_true, cond_false, jq_jt, jq_jf, jq_e1, jq_e2, jq_e3, jq_e4, Bool.not_true, Bool.not_false, jq_0, jq_1, jq_2, jq_3, jq_4, jq_5, jq_6, jq_8, jq_12, jq_16, jq_20, jq_21, jq_24, jq_30, jq_32, jq_60, jq_84, jq_1000, jq_2436, jq_20001, g1, dm_low eq (show M < 2 ^ 31 by omega), x5, e8, e95_61, e95_70]
        exact this
  have hbt := jp_bt_lt N A B
  have hpc : jn_pc (jp_bt N A B) ≤ 20 := Nat.le_trans (jn_pc_len hbt (by omega)) hn
  rw [d95, e95_0, jx_if_in (by omega) (by omega), nI_clamp (by omega), e95_7, show (0 : Int32) = nI 0 from rfl]
  by_cases c : h.2 27 0 A = 0
  · rw [jq_cz c, c, Int64.zero_mul, Int64.zero_mul]
  · rw [jq_cn c, g0]
    simp (disch := omega) only [jx_bI_s, jx_bL_s, jx_bV_s, eq_self, true_or, or_true, jx_if_t, jx_if_f, jq_b0, jq_b1, jq_bb, jq_b01, jx_if_in, jx_if_lt, jx_if_nlt, jx_if_le, jx_if_nle, jq_eqp, jq_eqn, nI_clamp, nI_add, pk_sub, pk_mul, jn_and, jn_or, jn_xor, jq_andn, jq_shl1, jq_bit, jq_mn, jq_mx, cond_true, cond_false, jq_jt, jq_jf, jq_e1, jq_e2, jq_e3, jq_e4, Bool.not_true, Bool.not_false, jq_0, jq_1, jq_2, jq_3, jq_4, jq_5, jq_6, jq_8, jq_12, jq_16, jq_20, jq_21, jq_24, jq_30, jq_32, jq_60, jq_84, jq_1000, jq_2436, jq_20001, dm_bt w P hA hB]
    rw [loop 20 0 (jp_bt N A B) _ (by omega) hbt hpc, jc_m_b]
end
