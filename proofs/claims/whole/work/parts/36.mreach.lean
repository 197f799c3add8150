/-! ===== layer 2: ways, as the reference walks them ===== -/
def jn_it {α : Type} (g : Nat → α → α) : Nat → α → α
  | 0, x => x
  | n + 1, x => g n (jn_it g n x)
/-- closed under the roads of T that have no end in W -/
def jb_cl (N : jb_N) (W T : Nat) (C : Nat → Prop) : Prop := ∀ r, r < jb_n N → T.testBit r = true → W.testBit (jb_f N r) = false → W.testBit (jb_s N r) = false → (C (jb_f N r) → C (jb_s N r)) ∧ (jb_t N = false → C (jb_s N r) → C (jb_f N r))
/-- a way leads from a to x -/
def jb_rc (N : jb_N) (W T a x : Nat) : Prop := ∀ C : Nat → Prop, C a → jb_cl N W T C → C x
theorem jb_rc.rf {N : jb_N} {W T a : Nat} : jb_rc N W T a a := fun _ h _ => h
theorem jb_rc.tr {N : jb_N} {W T a b c : Nat} (h : jb_rc N W T a b) (k : jb_rc N W T b c) : jb_rc N W T a c := fun C h1 h2 => k C (h C h1 h2) h2
theorem jb_rc_cl (N : jb_N) (W T a : Nat) : jb_cl N W T (jb_rc N W T a) := fun r h1 h2 h3 h4 => ⟨fun h C c1 c2 => (c2 r h1 h2 h3 h4).1 (h C c1 c2), fun ht h C c1 c2 => (c2 r h1 h2 h3 h4).2 ht (h C c1 c2)⟩
def jb_ok (N : jb_N) (W T r : Nat) : Bool := T.testBit r && (!W.testBit (jb_f N r) && !W.testBit (jb_s N r))
def jb_r1 (N : jb_N) (W T r Y : Nat) : Nat := if (jb_ok N W T r && Y.testBit (jb_f N r)) = true then Y ||| 2 ^ jb_s N r else Y
def jb_r2 (N : jb_N) (W T r Y : Nat) : Nat := if (jb_ok N W T r && (!jb_t N && Y.testBit (jb_s N r))) = true then Y ||| 2 ^ jb_f N r else Y
def jb_rs (N : jb_N) (W T r Y : Nat) : Nat := jb_r2 N W T r (jb_r1 N W T r Y)
theorem jb_r1_lt {N : jb_N} (w : jb_wf N) {W T r Y : Nat} (hr : r < jb_n N) (hY : Y < 2 ^ jb_p N) : jb_r1 N W T r Y < 2 ^ jb_p N := by
  unfold jb_r1
  split
  · exact jn_or_lt hY (Nat.pow_lt_pow_right (by decide) (w.2.2 r hr).2.1)
  · exact hY
theorem jb_r2_lt {N : jb_N} (w : jb_wf N) {W T r Y : Nat} (hr : r < jb_n N) (hY : Y < 2 ^ jb_p N) : jb_r2 N W T r Y < 2 ^ jb_p N := by
  unfold jb_r2
  split
  · exact jn_or_lt hY (Nat.pow_lt_pow_right (by decide) (w.2.2 r hr).1)
  · exact hY
theorem jb_r1_sub {N : jb_N} {W T r Y x : Nat} (h : Y.testBit x = true) : (jb_r1 N W T r Y).testBit x = true := by
  unfold jb_r1
  split
  · rw [Nat.testBit_or, h, Bool.true_or]
  · exact h
theorem jb_r2_sub {N : jb_N} {W T r Y x : Nat} (h : Y.testBit x = true) : (jb_r2 N W T r Y).testBit x = true := by
  unfold jb_r2
  split
  · rw [Nat.testBit_or, h, Bool.true_or]
  · exact h
theorem jb_rs_sub {N : jb_N} {W T r Y x : Nat} (h : Y.testBit x = true) : (jb_rs N W T r Y).testBit x = true := jb_r2_sub (jb_r1_sub h)
theorem jb_ok_t {N : jb_N} {W T r : Nat} (h : jb_ok N W T r = true) : T.testBit r = true ∧ W.testBit (jb_f N r) = false ∧ W.testBit (jb_s N r) = false := by
  unfold jb_ok at h
  simpa using h
theorem jb_rs_rc {N : jb_N} {W T r Y : Nat} {C : Nat → Prop} (hr : r < jb_n N) (hC : jb_cl N W T C) (h : ∀ x, Y.testBit x = true → C x) : ∀ x, (jb_rs N W T r Y).testBit x = true → C x := by
  have h1 : ∀ x, (jb_r1 N W T r Y).testBit x = true → C x := by
    intro x
    unfold jb_r1
    split
    · rename_i hc
      rw [Bool.and_eq_true] at hc
      obtain ⟨a, b, c⟩ := jb_ok_t hc.1
      rw [Nat.testBit_or, jn_2k, Bool.or_eq_true, decide_eq_true_eq]
      rintro (k | rfl)
      · exact h x k
      · exact (hC r hr a b c).1 (h _ hc.2)
    · exact h x
  intro x
  unfold jb_rs jb_r2
  split
  · rename_i hc
    rw [Bool.and_eq_true, Bool.and_eq_true] at hc
    obtain ⟨a, b, c⟩ := jb_ok_t hc.1
    rw [Nat.testBit_or, jn_2k, Bool.or_eq_true, decide_eq_true_eq]
    rintro (k | rfl)
    · exact h1 x k
    · exact (hC r hr a b c).2 (by simpa using hc.2.1) (h1 _ hc.2.2)
  · exact h1 x
/-- after i roads of a pass -/
def jb_ps (N : jb_N) (W T S i : Nat) : Nat := jn_it (jb_rs N W T) i S
theorem jb_ps_lt {N : jb_N} (w : jb_wf N) {W T S : Nat} (hS : S < 2 ^ jb_p N) : ∀ i, i ≤ jb_n N → jb_ps N W T S i < 2 ^ jb_p N := by
  intro i
  induction i with
  | zero => intro _; exact hS
  | succ i ih => intro hi; exact jb_r2_lt w (by omega) (jb_r1_lt w (by omega) (ih (by omega)))
theorem jb_ps_sub {N : jb_N} {W T S : Nat} {x : Nat} (h : S.testBit x = true) : ∀ i, (jb_ps N W T S i).testBit x = true := by
  intro i
  induction i with
  | zero => exact h
  | succ i ih => exact jb_rs_sub ih
theorem jb_ps_rc {N : jb_N} {W T S : Nat} {C : Nat → Prop} (hC : jb_cl N W T C) (h : ∀ x, S.testBit x = true → C x) : ∀ i, i ≤ jb_n N → ∀ x, (jb_ps N W T S i).testBit x = true → C x := by
  intro i
  induction i with
  | zero => intro _; exact h
  | succ i ih => intro hi; exact jb_rs_rc (by omega) hC (ih (by omega))
theorem jn_sub_le {x y : Nat} (h : ∀ i, x.testBit i = true → y.testBit i = true) : x ≤ y := by
  have e : x &&& y = x := by
    apply Nat.eq_of_testBit_eq
    intro i
    rw [Nat.testBit_and]
    cases hx : x.testBit i with
    | false => rfl
    | true => rw [h i hx]; rfl
  rw [← e]
  exact Nat.and_le_right
theorem jb_ps_le {N : jb_N} {W T S : Nat} (i k : Nat) : jb_ps N W T S i ≤ jb_ps N W T S (i + k) := by
  induction k with
  | zero => exact Nat.le_refl _
  | succ k ih => exact Nat.le_trans ih (jn_sub_le (fun x hx => jb_rs_sub hx))
/-- a pass that changes nothing: closed -/
theorem jb_ps_fix {N : jb_N} {W T S : Nat} (h : jb_ps N W T S (jb_n N) = S) : jb_cl N W T (fun x => S.testBit x = true) := by
  have hi : ∀ i, i ≤ jb_n N → jb_ps N W T S i = S := by
    intro i hi
    have h1 : jb_ps N W T S 0 ≤ jb_ps N W T S (0 + i) := jb_ps_le 0 i
    have h2 := jb_ps_le (N := N) (W := W) (T := T) (S := S) i (jb_n N - i)
    rw [Nat.add_sub_cancel' hi, h] at h2
    rw [Nat.zero_add] at h1
    have h3 : jb_ps N W T S 0 = S := rfl
    omega
  intro r hr ht hf hs
  have e : jb_rs N W T r S = S := by
    have := hi (r + 1) hr
    rw [show jb_ps N W T S (r + 1) = jb_rs N W T r (jb_ps N W T S r) from rfl, hi r (by omega)] at this
    exact this
  have ok : jb_ok N W T r = true := by
    unfold jb_ok
    rw [ht, hf, hs]
    rfl
  have e1 : ∀ x, (jb_r1 N W T r S).testBit x = true → S.testBit x = true := fun x hx => by
    rw [← e]
    exact jb_r2_sub hx
  have s1 : S.testBit (jb_f N r) = true → S.testBit (jb_s N r) = true := by
    intro k
    apply e1
    unfold jb_r1
    rw [if_pos (by rw [ok, k]; rfl), Nat.testBit_or, jn_2k]
    simp
  refine ⟨s1, fun hp k => ?_⟩
  show S.testBit (jb_f N r) = true
  rw [← e]
  unfold jb_rs jb_r2
  rw [if_pos (by rw [ok, hp, jb_r1_sub k]; rfl), Nat.testBit_or, jn_2k]
  simp
section
variable {d W T : Nat} {h : jx_H} {N : jb_N}
theorem dm_pass (w : jb_wf N) (m : jb_M h N) (hW : W < 2 ^ 31) (hT : T < 2 ^ 31) {S B : Nat} (hS : S < 2 ^ jb_p N) : F145_34 (DM (d + 1)) (nI W) (nI T) (nI S) (nI B) (nI 0) h = F145_20 (DM (d + 1)) (nI W) (nI T) (nI (jb_ps N W T S (jb_n N))) (nI B) h := by
  have hn := w.2.1
  have hp := w.1
  refine (jn_loop (fun i => F145_34 (DM (d + 1)) (nI W) (nI T) (nI (jb_ps N W T S i)) (nI B) (nI i) h) (Nat.zero_le (jb_n N)) (fun i _ hi => ?_)).trans ?_
  · show F145_34 _ _ _ _ _ _ _ = F145_34 _ _ _ _ _ _ _
    obtain ⟨w1, w2, w3, _⟩ := w.2.2 i hi
    obtain ⟨m1, m2, _⟩ := m.2.2.2 i hi
    have hY := jn_p8 hp (jb_ps_lt w (W := W) (T := T) hS i (by omega))
    have hY1 := jn_p8 hp (jb_r1_lt w (W := W) (T := T) hi (jb_ps_lt w (W := W) (T := T) hS i (by omega)))
    have e1 : jb_ps N W T S (i + 1) = jb_r2 N W T i (jb_r1 N W T i (jb_ps N W T S i)) := rfl
    rw [e145_34, m.2.1, e1]
    generalize jb_ps N W T S i = Y at *
    cases hTi : T.testBit i
    · have k1 : jb_r1 N W T i Y = Y := by simp [jb_r1, jb_ok, hTi]
      have k2 : jb_r2 N W T i Y = Y := by simp [jb_r2, jb_ok, hTi]
      rw [k1, k2]
      simp (disch := omega) only [jx_bI_s, jx_bL_s, jx_bV_s, eq_self, true_or, or_true, jx_if_t, jx_if_f, jq_b0, jq_b1, jq_bb, jq_b01, jx_if_in, jx_if_lt, jx_if_nlt, jx_if_le, jx_if_nle, jq_eqp, jq_eqn, nI_clamp, nI_add, pk_sub, pk_mul, jn_and, jn_or, jn_xor, jq_andn, jq_shl1, jq_bit, jq_mn, jq_mx, cond_true, cond_false, jq_jt, jq_jf, jq_e1, jq_e2, jq_e3, jq_e4, Bool.not_true, Bool.not_false, jq_0, jq_1, jq_2, jq_3, jq_4, jq_5, jq_6, jq_8, jq_12, jq_16, jq_20, jq_21, jq_24, jq_30, jq_32, jq_60, jq_84, jq_1000, jq_2436, jq_20001, dm_inN, hTi, e145_153]
    · cases hf : W.testBit (jb_f N i)
      · cases hs : W.testBit (jb_s N i)
        · have ok : jb_ok N W T i = true := by simp [jb_ok, hTi, hf, hs]
          have tail : ∀ Z : Nat, Z < 256 → F145_113 (DM (d + 1)) (nI W) (nI T) (nI Z) (nI B) (nI i) h = F145_34 (DM (d + 1)) (nI W) (nI T) (nI (jb_r2 N W T i Z)) (nI B) (nI (i + 1)) h := by
            intro Z hZ
            rw [e145_113, m.2.2.1]
            cases ht : jb_t N
            · cases hz : Z.testBit (jb_s N i)
              · have k2 : jb_r2 N W T i Z = Z := by simp [jb_r2, hz]
                rw [k2]
                simp (disch := omega) only [jx_bI_s, jx_bL_s, jx_bV_s, eq_self, true_or, or_true, jx_if_t, jx_if_f, jq_b0, jq_b1, jq_bb, jq_b01, jx_if_in, jx_if_lt, jx_if_nlt, jx_if_le, jx_if_nle, jq_eqp, jq_eqn, nI_clamp, nI_add, pk_sub, pk_mul, jn_and, jn_or, jn_xor, jq_andn, jq_shl1, jq_bit, jq_mn, jq_mx, cond_true, cond_false, jq_jt, jq_jf, jq_e1, jq_e2, jq_e3, jq_e4, Bool.not_true, Bool.not_false, jq_0, jq_1, jq_2, jq_3, jq_4, jq_5, jq_6, jq_8, jq_12, jq_16, jq_20, jq_21, jq_24, jq_30, jq_32, jq_60, jq_84, jq_1000, jq_2436, jq_20001, dm_inN, m1, m2, hz, e145_149, e145_150, e145_153, Nat.or_zero]
              · have k2 : jb_r2 N W T i Z = Z ||| 2 ^ jb_f N i := by simp [jb_r2, hz, ok, ht]
                rw [k2]
                simp (disch := omega) only [jx_bI_s, jx_bL_s, jx_bV_s, eq_self, true_or, or_true, jx_if_t, jx_if_f, jq_b0, jq_b1, jq_bb, jq_b01, jx_if_in, jx_if_lt, jx_if_nlt, jx_if_le, jx_if_nle, jq_eqp, jq_eqn, nI_clamp, nI_add, pk_sub, pk_mul, jn_and, jn_or, jn_xor, jq_andn, jq_shl1, jq_bit, jq_mn, jq_mx, cond_true, cond_false, jq_jt, jq_jf, jq_e1, jq_e2, jq_e3, jq_e4, Bool.not_true, Bool.not_false, jq_0, jq_1, jq_2, jq_3, jq_4, jq_5, jq_6, jq_8, jq_12, jq_16, jq_20, jq_21, jq_24, jq_30, jq_32, jq_60, jq_84, jq_1000, jq_2436, jq_20001, dm_inN, m1, m2, hz, e145_149, e145_150, e145_153]
            · have k2 : jb_r2 N W T i Z = Z := by simp [jb_r2, ht]
              rw [k2]
              simp (disch := omega) only [jx_bI_s, jx_bL_s, jx_bV_s, eq_self, true_or, or_true, jx_if_t, jx_if_f, jq_b0, jq_b1, jq_bb, jq_b01, jx_if_in, jx_if_lt, jx_if_nlt, jx_if_le, jx_if_nle, jq_eqp, jq_eqn, nI_clamp, nI_add, pk_sub, pk_mul, jn_and, jn_or, jn_xor, jq_andn, jq_shl1, jq_bit, jq_mn, jq_mx, cond_true, cond_false, jq_jt, jq_jf, jq_e1, jq_e2, jq_e3, jq_e4, Bool.not_true, Bool.not_false, jq_0, jq_1, jq_2, jq_3, jq_4, jq_5, jq_6, jq_8, jq_12, jq_16, jq_20, jq_21, jq_24, jq_30, jq_32, jq_60, jq_84, jq_1000, jq_2436, jq_20001, e145_149, e145_150, e145_153, Nat.or_zero]
          cases hy : Y.testBit (jb_f N i)
          · have k1 : jb_r1 N W T i Y = Y := by simp [jb_r1, hy]
            rw [k1]
            simp (disch := omega) only [jx_bI_s, jx_bL_s, jx_bV_s, eq_self, true_or, or_true, jx_if_t, jx_if_f, jq_b0, jq_b1, jq_bb, jq_b01, jx_if_in, jx_if_lt, jx_if_nlt, jx_if_le, jx_if_nle, jq_eqp, jq_eqn, nI_clamp, nI_add, pk_sub, pk_mul, jn_and, jn_or, jn_xor, jq_andn, jq_shl1, jq_bit, jq_mn, jq_mx, cond_true, cond_false, jq_jt, jq_jf, jq_e1, jq_e2, jq_e3, jq_e4, Bool.not_true, Bool.not_false, jq_0, jq_1, jq_2, jq_3, jq_4, jq_5, jq_6, jq_8, jq_12, jq_16, jq_20, jq_21, jq_24, jq_30, jq_32, jq_60, jq_84, jq_1000, jq_2436, jq_20001, dm_inN, hTi, m1, m2, hf, hs, hy, e145_110, Nat.or_zero]
            exact tail Y hY
          · have k1 : jb_r1 N W T i Y = Y ||| 2 ^ jb_s N i := by simp [jb_r1, hy, ok]
            rw [k1] at hY1
            rw [k1]
            simp (disch := omega) only [jx_bI_s, jx_bL_s, jx_bV_s, eq_self, true_or, or_true, jx_if_t, jx_if_f, jq_b0, jq_b1, jq_bb, jq_b01, jx_if_in, jx_if_lt, jx_if_nlt, jx_if_le, jx_if_nle, jq_eqp, jq_eqn, nI_clamp, nI_add, pk_sub, pk_mul, jn_and, jn_or, jn_xor, jq_andn, jq_shl1, jq_bit, jq_mn, jq_mx, cond_true, cond_false, jq_jt, jq_jf, jq_e1, jq_e2, jq_e3, jq_e4, Bool.not_true, Bool.not_false, jq_0, jq_1, jq_2, jq_3, jq_4, jq_5, jq_6, jq_8, jq_12, jq_16, jq_20, jq_21, jq_24, jq_30, jq_32, jq_60, jq_84, jq_1000, jq_2436, jq_20001, dm_inN, hTi, m1, m2, hf, hs, hy, e145_110]
            exact tail _ hY1
        · have k1 : jb_r1 N W T i Y = Y := by simp [jb_r1, jb_ok, hs]
          have k2 : jb_r2 N W T i Y = Y := by simp [jb_r2, jb_ok, hs]
          rw [k1, k2]
          simp (disch := omega) only [jx_bI_s, jx_bL_s, jx_bV_s, eq_self, true_or, or_true, jx_if_t, jx_if_f, jq_b0, jq_b1, jq_bb, jq_b01, jx_if_in, jx_if_lt, jx_if_nlt, jx_if_le, jx_if_nle, jq_eqp, jq_eqn, nI_clamp, nI_add, pk_sub, pk_mul, jn_and, jn_or, jn_xor, jq_andn, jq_shl1, jq_bit, jq_mn, jq_mx, cond_true, cond_false, jq_jt, jq_jf, jq_e1, jq_e2, jq_e3, jq_e4, Bool.not_true, Bool.not_false, jq_0, jq_1, jq_2, jq_3, jq_4, jq_5, jq_6, jq_8, jq_12, jq_16, jq_20, jq_21, jq_24, jq_30, jq_32, jq_60, jq_84, jq_1000, jq_2436, jq_20001, dm_inN, hTi, m1, m2, hf, hs, e145_153]
      · have k1 : jb_r1 N W T i Y = Y := by simp [jb_r1, jb_ok, hf]
        have k2 : jb_r2 N W T i Y = Y := by simp [jb_r2, jb_ok, hf]
        rw [k1, k2]
        simp (disch := omega) only [jx_bI_s, jx_bL_s, jx_bV_s, eq_self, true_or, or_true, jx_if_t, jx_if_f, jq_b0, jq_b1, jq_bb, jq_b01, jx_if_in, jx_if_lt, jx_if_nlt, jx_if_le, jx_if_nle, jq_eqp, jq_eqn, nI_clamp, nI_add, pk_sub, pk_mul, jn_and, jn_or, jn_xor, jq_andn, jq_shl1, jq_bit, jq_mn, jq_mx, cond_true, cond_false, jq_jt, jq_jf, jq_e1, jq_e2, jq_e3, jq_e4, Bool.not_true, Bool.not_false, jq_0, jq_1, jq_2, jq_3, jq_4, jq_5, jq_6, jq_8, jq_12, jq_16, jq_20, jq_21, jq_24, jq_30, jq_32, jq_60, jq_84, jq_1000, jq_2436, jq_20001, dm_inN, hTi, m1, m2, hf, e145_153]
  · show F145_34 _ _ _ _ _ _ _ = _
    rw [e145_34, m.2.1, jx_if_nlt (Nat.le_refl _) (by omega)]
theorem dm_reach0 (w : jb_wf N) (m : jb_M h N) (hW : W < 2 ^ 31) (hT : T < 2 ^ 31) {a : Nat} : ∀ (k S : Nat), 2 ^ jb_p N ≤ S + k → S < 2 ^ jb_p N → S.testBit a = true → (∀ x, S.testBit x = true → jb_rc N W T a x) → ∃ R, R < 2 ^ jb_p N ∧ F145_34 (DM (d + 1)) (nI W) (nI T) (nI S) (nI S) (nI 0) h = some ([vi (nI R)], h) ∧ ∀ x, R.testBit x = true ↔ jb_rc N W T a x := by
  intro k
  induction k with
  | zero => intro S h1 h2; omega
  | succ k ih =>
    intro S h1 h2 h3 h4
    have h8 := jn_pow8 w.1
    have hS' := jb_ps_lt w (W := W) (T := T) h2 (jb_n N) (Nat.le_refl _)
    rw [dm_pass w m hW hT h2, e145_20]
    by_cases e : jb_ps N W T S (jb_n N) = S
    · rw [jq_eqp e]
      refine ⟨S, h2, by rw [e], fun x => ⟨h4 x, fun hx => hx (fun x => S.testBit x = true) h3 (jb_ps_fix e)⟩⟩
    · rw [jq_eqn e (by omega) (by omega), show (0 : Int32) = nI 0 from rfl]
      have hle : S ≤ jb_ps N W T S (jb_n N) := jn_sub_le (fun x hx => jb_ps_sub hx _)
      exact ih _ (by omega) hS' (jb_ps_sub h3 _) (jb_ps_rc (jb_rc_cl N W T a) h4 _ (Nat.le_refl _))
theorem dm_reachM (w : jb_wf N) (m : jb_M h N) (hW : W < 2 ^ 31) (hT : T < 2 ^ 31) {a : Nat} (ha : a < jb_p N) (hWa : W.testBit a = false) : ∃ R, R < 2 ^ jb_p N ∧ DM (d + 2) 145 [vr 30 0, vi (nI a), vi (nI W), vi (nI T)] h = some ([vi (nI R)], h) ∧ ∀ x, R.testBit x = true ↔ jb_rc N W T a x := by
  have hp := w.1
  have h8 := jn_pow8 w.1
  have h2 : 2 ^ a < 2 ^ jb_p N := Nat.pow_lt_pow_right (by decide) ha
  have h3 : 0 < 2 ^ a := Nat.two_pow_pos a
  obtain ⟨R, r1, r2, r3⟩ := dm_reach0 (d := d) w m hW hT (a := a) (2 ^ jb_p N) (2 ^ a) (by omega) h2 (by rw [jn_2k]; simp) (fun x hx => by
    rw [jn_2k, decide_eq_true_eq] at hx
    rw [hx]
    exact jb_rc.rf)
  refine ⟨R, r1, ?_, r3⟩
  rw [d145, e145_0]
  simp (disch := omega) only [jx_bI_s, jx_bL_s, jx_bV_s, eq_self, true_or, or_true, jx_if_t, jx_if_f, jq_b0, jq_b1, jq_bb, jq_b01, jx_if_in, jx_if_lt, jx_if_nlt, jx_if_le, jx_if_nle, jq_eqp, jq_eqn, nI_clamp, nI_add, pk_sub, pk_mul, jn_and, jn_or, jn_xor, jq_andn, jq_shl1, jq_bit, jq_mn, jq_mx, cond_true, cond_false, jq_jt, jq_jf, jq_e1, jq_e2, jq_e3, jq_e4, Bool.not_true, Bool.not_false, jq_0, jq_1, jq_2, jq_3, jq_4, jq_5, jq_6, jq_8, jq_12, jq_16, jq_20, jq_21, jq_24, jq_30, jq_32, jq_60, jq_84, jq_1000, jq_2436, jq_20001, dm_inN, hWa, e145_15, e145_17, e145_20]
  exact r2
end
theorem jq_ba1 (b : Bool) : jn_b b &&& nI 1 = jn_b b := by cases b <;> rfl
theorem jq_ba0 (b : Bool) : jn_b b &&& nI 0 = jn_b false := by cases b <;> rfl
theorem jq_bo1 (b : Bool) : jn_b b ||| nI 1 = jn_b true := by cases b <;> rfl
theorem jq_bo0 (b : Bool) : jn_b b ||| nI 0 = jn_b b := by cases b <;> rfl
theorem jb_rc_out {N : jb_N} {W T a x : Nat} (h : jb_rc N W T a x) (ha : W.testBit a = false) : W.testBit x = false := h (fun x => W.testBit x = false) ha (fun r _ _ h1 h2 => ⟨fun _ => h2, fun _ _ => h1⟩)
theorem jb_rc_in {N : jb_N} (w : jb_wf N) {W T a x : Nat} (h : jb_rc N W T a x) (ha : a < jb_p N) : x < jb_p N := h (fun x => x < jb_p N) ha (fun r hr _ _ _ => ⟨fun _ => (w.2.2 r hr).2.1, fun _ _ => (w.2.2 r hr).1⟩)
/-- from each post outside W ways lead to each other one -/
def jb_hg (N : jb_N) (W T : Nat) : Prop := 0 < jb_p N ∧ ∀ q, q < jb_p N → W.testBit q = false → ∀ x, x < jb_p N → W.testBit x = false → jb_rc N W T q x
theorem jn_all_df {p W x : Nat} : (jn_df (2 ^ p - 1) W).testBit x = (decide (x < p) && !W.testBit x) := by
  rw [jn_df_t, jn_all_t]
section
variable {d W T : Nat} {h : jx_H} {N : jb_N}
theorem dm_hangsM (w : jb_wf N) (m : jb_M h N) (hW : W < 2 ^ 31) (hT : T < 2 ^ 31) : ∃ B : Bool, DM (d + 3) 148 [vr 30 0, vi (nI W), vi (nI T)] h = some ([vi (jn_b B)], h) ∧ (B = true ↔ jb_hg N W T) := by
  have hp := w.1
  have h8 := jn_pow8 w.1
  have h80 := Nat.two_pow_pos (jb_p N)
  have loop : ∀ k i : Nat, i + k = jb_p N → ∀ b : Bool, ∃ B : Bool, F148_16 (DM (d + 2)) (nI W) (nI T) (jn_b b) (nI i) h = some ([vi (jn_b B)], h) ∧ (B = true ↔ b = true ∧ ∀ q, i ≤ q → q < jb_p N → W.testBit q = false → ∀ x, x < jb_p N → W.testBit x = false → jb_rc N W T q x) := by
    intro k
    induction k with
    | zero =>
      intro i hi b
      refine ⟨b, ?_, fun hb => ⟨hb, fun q h1 h2 => by omega⟩, fun hb => hb.1⟩
      rw [e148_16, m.1]
      simp (disch := omega) only [jx_bI_s, jx_bL_s, jx_bV_s, eq_self, true_or, or_true, jx_if_t, jx_if_f, jq_b0, jq_b1, jq_bb, jq_b01, jx_if_in, jx_if_lt, jx_if_nlt, jx_if_le, jx_if_nle, jq_eqp, jq_eqn, nI_clamp, nI_add, pk_sub, pk_mul, jn_and, jn_or, jn_xor, jq_andn, jq_shl1, jq_bit, jq_mn, jq_mx, cond_true, cond_false, jq_jt, jq_jf, jq_e1, jq_e2, jq_e3, jq_e4, Bool.not_true, Bool.not_false, jq_0, jq_1, jq_2, jq_3, jq_4, jq_5, jq_6, jq_8, jq_12, jq_16, jq_20, jq_21, jq_24, jq_30, jq_32, jq_60, jq_84, jq_1000, jq_2436, jq_20001]
    | succ k ih =>
      intro i hi b
      rw [e148_16, m.1]
      cases hWi : W.testBit i
      · obtain ⟨R, r1, r2, r3⟩ := dm_reachM (d := d) w m hW hT (a := i) (by omega) hWi
        have hd : jn_df (2 ^ jb_p N - 1) W < 2 ^ jb_p N := jn_df_lt (by omega)
        by_cases e : R = jn_df (2 ^ jb_p N - 1) W
        · obtain ⟨B, b1, b2⟩ := ih (i + 1) (by omega) b
          refine ⟨B, ?_, b2.trans ⟨fun hb => ⟨hb.1, fun q h1 h2 h3 x h4 h5 => ?_⟩, fun hb => ⟨hb.1, fun q h1 => hb.2 q (by omega)⟩⟩⟩
          · simp (disch := omega) only [jx_bI_s, jx_bL_s, jx_bV_s, eq_self, true_or, or_true, jx_if_t, jx_if_f, jq_b0, jq_b1, jq_bb, jq_b01, jx_if_in, jx_if_lt, jx_if_nlt, jx_if_le, jx_if_nle, jq_eqp, jq_eqn, nI_clamp, nI_add, pk_sub, pk_mul, jn_and, jn_or, jn_xor, jq_andn, jq_shl1, jq_bit, jq_mn, jq_mx, cond_true, cond_false, jq_e1, jq_e2, jq_e3, jq_e4, Bool.not_true, Bool.not_false, jq_0, jq_1, jq_2, jq_3, jq_4, jq_5, jq_6, jq_8, jq_12, jq_16, jq_20, jq_21, jq_24, jq_30, jq_32, jq_60, jq_84, jq_1000, jq_2436, jq_20001, dm_inN, hWi, r2, dm_all (n := jb_p N) (by omega) m.1, e148_54, e148_59, e148_61, jq_ba1]
            exact b1
          · by_cases hq : q = i
            · subst hq
              rw [← r3, e, jn_all_df]
              simp [h4, h5]
            · exact hb.2 q (by omega) h2 h3 x h4 h5
        · obtain ⟨B, b1, b2⟩ := ih (i + 1) (by omega) false
          refine ⟨B, ?_, b2.trans ⟨fun hb => absurd hb.1 (by decide), fun hb => absurd ?_ e⟩⟩
          · simp (disch := omega) only [jx_bI_s, jx_bL_s, jx_bV_s, eq_self, true_or, or_true, jx_if_t, jx_if_f, jq_b0, jq_b1, jq_bb, jq_b01, jx_if_in, jx_if_lt, jx_if_nlt, jx_if_le, jx_if_nle, jq_eqp, jq_eqn, nI_clamp, nI_add, pk_sub, pk_mul, jn_and, jn_or, jn_xor, jq_andn, jq_shl1, jq_bit, jq_mn, jq_mx, cond_true, cond_false, jq_e1, jq_e2, jq_e3, jq_e4, Bool.not_true, Bool.not_false, jq_0, jq_1, jq_2, jq_3, jq_4, jq_5, jq_6, jq_8, jq_12, jq_16, jq_20, jq_21, jq_24, jq_30, jq_32, jq_60, jq_84, jq_1000, jq_2436, jq_20001, dm_inN, hWi, r2, dm_all (n := jb_p N) (by omega) m.1, e148_54, e148_59, e148_61, jq_ba0]
            exact b1
          · refine jn_ext r1 hd (fun x hx => ?_)
            have k1 := r3 x
            have k2 := hb.2 i (Nat.le_refl _) (by omega) hWi x hx
            rw [jn_all_df]
            cases hR : R.testBit x with
            | true =>
              have := jb_rc_out ((r3 x).1 hR) hWi
              simp [hx, this]
            | false =>
              cases hWx : W.testBit x with
              | true => simp
              | false =>
                have := (r3 x).2 (k2 hWx)
                rw [hR] at this
                cases this
      · obtain ⟨B, b1, b2⟩ := ih (i + 1) (by omega) b
        refine ⟨B, ?_, b2.trans ⟨fun hb => ⟨hb.1, fun q h1 h2 h3 x h4 h5 => ?_⟩, fun hb => ⟨hb.1, fun q h1 => hb.2 q (by omega)⟩⟩⟩
        · simp (disch := omega) only [jx_bI_s, jx_bL_s, jx_bV_s, eq_self, true_or, or_true, jx_if_t, jx_if_f, jq_b0, jq_b1, jq_bb, jq_b01, jx_if_in, jx_if_lt, jx_if_nlt, jx_if_le, jx_if_nle, jq_eqp, jq_eqn, nI_clamp, nI_add, pk_sub, pk_mul, jn_and, jn_or, jn_xor, jq_andn, jq_shl1, jq_bit, jq_mn, jq_mx, cond_true, cond_false, jq_e1, jq_e2, jq_e3, jq_e4, Bool.not_true, Bool.not_false, jq_0, jq_1, jq_2, jq_3, jq_4, jq_5, jq_6, jq_8, jq_12, jq_16, jq_20, jq_21, jq_24, jq_30, jq_32, jq_60, jq_84, jq_1000, jq_2436, jq_20001, dm_inN, hWi, e148_54, e148_59, e148_61, jq_ba1]
          exact b1
        · by_cases hq : q = i
          · subst hq
            rw [hWi] at h3
            cases h3
          · exact hb.2 q (by omega) h2 h3 x h4 h5
  rw [d148, e148_0, m.1]
  by_cases h0 : 0 < jb_p N
  · obtain ⟨B, b1, b2⟩ := loop (jb_p N) 0 (by omega) true
    refine ⟨B, ?_, b2.trans ⟨fun hb => ⟨h0, fun q h1 => hb.2 q (by omega) h1⟩, fun hb => ⟨rfl, fun q _ h1 => hb.2 q h1⟩⟩⟩
    simp (disch := omega) only [jx_bI_s, jx_bL_s, jx_bV_s, eq_self, true_or, or_true, jx_if_t, jx_if_f, jq_b0, jq_b1, jq_bb, jq_b01, jx_if_in, jx_if_lt, jx_if_nlt, jx_if_le, jx_if_nle, jq_eqp, jq_eqn, nI_clamp, nI_add, pk_sub, pk_mul, jn_and, jn_or, jn_xor, jq_andn, jq_shl1, jq_bit, jq_mn, jq_mx, cond_true, cond_false, jq_jt, jq_jf, jq_e1, jq_e2, jq_e3, jq_e4, Bool.not_true, Bool.not_false, jq_0, jq_1, jq_2, jq_3, jq_4, jq_5, jq_6, jq_8, jq_12, jq_16, jq_20, jq_21, jq_24, jq_30, jq_32, jq_60, jq_84, jq_1000, jq_2436, jq_20001, e148_12]
    exact b1
  · obtain ⟨B, b1, b2⟩ := loop (jb_p N) 0 (by omega) false
    refine ⟨B, ?_, b2.trans ⟨fun hb => absurd hb.1 (by decide), fun hb => absurd hb.1 h0⟩⟩
    simp (disch := omega) only [jx_bI_s, jx_bL_s, jx_bV_s, eq_self, true_or, or_true, jx_if_t, jx_if_f, jq_b0, jq_b1, jq_bb, jq_b01, jx_if_in, jx_if_lt, jx_if_nlt, jx_if_le, jx_if_nle, jq_eqp, jq_eqn, nI_clamp, nI_add, pk_sub, pk_mul, jn_and, jn_or, jn_xor, jq_andn, jq_shl1, jq_bit, jq_mn, jq_mx, cond_true, cond_false, jq_jt, jq_jf, jq_e1, jq_e2, jq_e3, jq_e4, Bool.not_true, Bool.not_false, jq_0, jq_1, jq_2, jq_3, jq_4, jq_5, jq_6, jq_8, jq_12, jq_16, jq_20, jq_21, jq_24, jq_30, jq_32, jq_60, jq_84, jq_1000, jq_2436, jq_20001, e148_12]
    exact b1
end
