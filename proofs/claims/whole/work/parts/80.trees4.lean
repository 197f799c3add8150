/-! ===== layer 2: trees of the class, all sets ===== -/
section
variable {d : Nat} {N : jb_N}
theorem jr_bit_lt {S p a : Nat} (hS : S < 2 ^ p) (h : S.testBit a = true) : a < p := by
  apply Classical.byContradiction
  intro c
  rw [Nat.testBit_lt_two_pow (Nat.lt_of_lt_of_le hS (Nat.pow_le_pow_right (by decide) (by omega)))] at h
  cases h
theorem jr_sub_lt {X S a : Nat} (h : jn_sb X S) (h1 : S.testBit a = true) (h2 : X.testBit a = false) : X < S := by
  have := jn_sb_le h
  have ne : X ≠ S := fun e => by rw [e, h1] at h2; cases h2
  omega
theorem jr_pos_bit {X a : Nat} (h : X.testBit a = true) : 0 < X := by
  apply Classical.byContradiction
  intro c
  rw [show X = 0 by omega, Nat.zero_testBit] at h
  cases h
theorem dm_81w {h : jx_H} (w : jb_wf N) (P : jp_P h N) (ht : jb_t N = false) {S : Nat} (h0 : 0 < S) (hS : S < 2 ^ jb_p N) (tab : ∀ X, 0 < X → X < S → h.2 24 0 X = lN (jr_tm N X)) : DM (d + 3) 81 [vr 22 0, vr 14 0, vi (nI S)] h = some ([vl (lN (jr_tm N S))], h) := by
  have h8 := jn_pow8 w.1
  obtain ⟨a, q, e⟩ := jn_low h0
  have la := jn_lowI e (by omega)
  have Sa := (jn_low_has e).1
  have ha := jr_bit_lt hS Sa
  have hO : S ^^^ 2 ^ a < 2 ^ jb_p N := jn_xor_lt hS (Nat.pow_lt_pow_right (by decide) ha)
  have Ot : ∀ x, (S ^^^ 2 ^ a).testBit x = (S.testBit x && decide (x ≠ a)) := fun x => by
    rw [Nat.testBit_xor, jn_2k]
    by_cases c : a = x
    · rw [← c, Sa]
      simp
    · simp [c, Ne.symm c]
  rw [d81, e81_0, la, e81_5, jn_xor, e81_10]
  by_cases c0 : S ^^^ 2 ^ a = 0
  · have eS : S = 2 ^ a := by
      refine Nat.eq_of_testBit_eq (fun x => ?_)
      have k := Ot x
      rw [c0, Nat.zero_testBit] at k
      rw [jn_2k]
      by_cases c : a = x
      · rw [← c, Sa]
        simp
      · cases c2 : S.testBit x with
        | false => simp [c]
        | true =>
          rw [c2] at k
          simp [Ne.symm c] at k
    rw [c0, jx_ifp (show nI 0 = 0 from rfl), eS, jr_tm_one w ha]
    rfl
  · obtain ⟨b, q2, e2⟩ := jn_low (show 0 < S ^^^ 2 ^ a by omega)
    have lb := jn_lowI e2 (by omega)
    have Ob := (jn_low_has e2).1
    have hb2 := Ob
    rw [Ot] at hb2
    simp only [Bool.and_eq_true, decide_eq_true_eq] at hb2
    have hb := jr_bit_lt hS hb2.1
    have Ft : ∀ x, (S ^^^ 2 ^ a ^^^ 2 ^ b).testBit x = true ↔ S.testBit x = true ∧ x ≠ a ∧ x ≠ b := fun x => by
      rw [Nat.testBit_xor, Ot, jn_2k]
      by_cases c : b = x
      · rw [← c, hb2.1]
        simp [hb2.2]
      · simp [c, Ne.symm c]
    have hF : S ^^^ 2 ^ a ^^^ 2 ^ b < 2 ^ jb_p N := jn_xor_lt hO (Nat.pow_lt_pow_right (by decide) hb)
    have tb : ∀ x, jn_sb x (S ^^^ 2 ^ a ^^^ 2 ^ b) → h.2 24 0 (2 ^ b ||| x) = lN (jr_tm N (2 ^ b ||| x)) ∧ h.2 24 0 (S ^^^ (2 ^ b ||| x)) = lN (jr_tm N (S ^^^ (2 ^ b ||| x))) := fun x hx => by
      have f1 : ∀ y, (2 ^ b ||| x).testBit y = (decide (b = y) || x.testBit y) := fun y => by rw [Nat.testBit_or, jn_2k]
      have xa : x.testBit a = false := by
        cases c : x.testBit a with
        | false => rfl
        | true => exact absurd rfl ((Ft a).1 (hx a c)).2.1
      have s1 : jn_sb (2 ^ b ||| x) S := fun y hy => by
        rw [f1] at hy
        by_cases c : b = y
        · rw [← c]
          exact hb2.1
        · exact ((Ft y).1 (hx y (by simpa [c] using hy))).1
      have k1 : (2 ^ b ||| x).testBit a = false := by
        rw [f1, xa]
        simp [hb2.2]
      have k2 : (2 ^ b ||| x).testBit b = true := by
        rw [f1]
        simp
      have s2 : jn_sb (S ^^^ (2 ^ b ||| x)) S := fun y hy => by
        rw [Nat.testBit_xor] at hy
        cases c : S.testBit y with
        | true => rfl
        | false =>
          rw [c] at hy
          have := s1 y (by simpa using hy)
          rw [c] at this
          cases this
      exact ⟨tab _ (jr_pos_bit k2) (jr_sub_lt s1 Sa k1), tab _ (jr_pos_bit (a := a) (by rw [Nat.testBit_xor, Sa, k1]; rfl)) (jr_sub_lt (a := b) s2 hb2.1 (by rw [Nat.testBit_xor, hb2.1, k2]; rfl))⟩
    have t0 := tb 0 (fun i hi => by rw [Nat.zero_testBit] at hi; cases hi)
    rw [Nat.or_zero] at t0
    have c2 := dm_82 (d := d) w P ha (Nat.pow_lt_pow_right (by decide) hb) hS t0.1 t0.2
    have lp := dm_81 (d := d) w P ha hS hF hb tb _ (S ^^^ 2 ^ a ^^^ 2 ^ b) (lN (jr_q N a S (2 ^ b))) (Nat.le_refl _) (fun i hi => hi)
    rw [show (0 : Int32) = nI 0 from rfl, jq_eqn c0 (by omega) (by omega), lb, e81_25, jn_xor, e81_32, c2, jx_bL_s, lp, lN_add, ← jr_tm_rec w ht hS Sa hb2.1 (Ne.symm hb2.2) Ft hF]
end
