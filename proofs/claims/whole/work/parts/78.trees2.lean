/-! ===== layer 2: trees of the class ===== -/
noncomputable def jr_tm (N : jb_N) (S : Nat) : Nat := jr_tw N (fun x => S.testBit x)
noncomputable def jr_q (N : jb_N) (a S B : Nat) : Nat := jn_pc (jp_bt N (2 ^ a) B) * jr_tm N B * jr_tm N (S ^^^ B)
def jr_L (g : Nat → Nat) (Fm : Nat) (x : Nat) : Nat := jn_sm (fun y => if (y + 1) &&& Fm = y + 1 then g (y + 1) else 0) x
theorem jr_sm_cut {f : Nat → Nat} {a : Nat} : ∀ b, (∀ i, a ≤ i → i < a + b → f i = 0) → jn_sm f (a + b) = jn_sm f a := by
  intro b
  induction b with
  | zero => intro _; rfl
  | succ b ih =>
    intro h
    show jn_sm f (a + b) + f (a + b) = _
    rw [ih (fun i h1 h2 => h i h1 (by omega)), h (a + b) (by omega) (by omega), Nat.add_zero]
theorem jr_sb_iff {y Fm : Nat} : y &&& Fm = y ↔ jn_sb y Fm := by
  constructor
  · intro e i hi
    rw [← e, Nat.testBit_and, Bool.and_eq_true] at hi
    exact hi.2
  · intro h
    refine Nat.eq_of_testBit_eq (fun i => ?_)
    rw [Nat.testBit_and]
    cases c : y.testBit i with
    | false => rfl
    | true => rw [h i c]; rfl
theorem jr_L_step {g : Nat → Nat} {Fm x : Nat} (h0 : 0 < x) (hx : jn_sb x Fm) : jr_L g Fm x = g x + jr_L g Fm ((x - 1) &&& Fm) := by
  have hl := jn_sb_nx (S := Fm) h0
  have e : jr_L g Fm x = jr_L g Fm (x - 1) + g x := by
    obtain ⟨k, rfl⟩ : ∃ k, x = k + 1 := ⟨x - 1, by omega⟩
    show jn_sm _ k + (if (k + 1) &&& Fm = k + 1 then g (k + 1) else 0) = _
    rw [if_pos (jr_sb_iff.2 hx)]
    rfl
  have e2 : jr_L g Fm (x - 1) = jr_L g Fm ((x - 1) &&& Fm) := by
    have k := jr_sm_cut (f := fun y => if (y + 1) &&& Fm = y + 1 then g (y + 1) else 0) (a := (x - 1) &&& Fm) (x - 1 - ((x - 1) &&& Fm)) (fun i h1 h2 => by
      refine if_neg (fun c => ?_)
      have := jn_subs (m := x) (R := Fm) (s := i + 1) hx (jr_sb_iff.1 c) (by omega)
      omega)
    rw [show ((x - 1) &&& Fm) + (x - 1 - ((x - 1) &&& Fm)) = x - 1 by omega] at k
    exact k
  rw [e, e2, Nat.add_comm]
section
variable {d : Nat} {N : jb_N}
theorem dm_82 {h : jx_H} (w : jb_wf N) (P : jp_P h N) {a B S : Nat} (ha : a < jb_p N) (hB : B < 2 ^ jb_p N) (hS : S < 2 ^ jb_p N) (tB : h.2 24 0 B = lN (jr_tm N B)) (tC : h.2 24 0 (S ^^^ B) = lN (jr_tm N (S ^^^ B))) : DM (d + 2) 82 [vr 22 0, vr 14 0, vi (nI (2 ^ a)), vi (nI B), vi (nI S)] h = some ([vl (lN (jr_q N a S B))], h) := by
  have hn := w.2.1
  have h8 := jn_pow8 w.1
  have h20 := jn_pow20 hn
  have ba : 2 ^ a < 2 ^ jb_p N := Nat.pow_lt_pow_right (by decide) ha
  have bX : S ^^^ B < 2 ^ jb_p N := jn_xor_lt hS hB
  have bb : jp_bt N (2 ^ a) B < 2 ^ jb_n N := jn_mk_lt _ _
  have pl := jn_pc_le (jp_bt N (2 ^ a) B)
  rw [d82, e82_0, dm_bt w P ba hB, jx_bI_s, dm_bc (by omega), jx_bI_s, nI_l (by omega)]
  simp (disch := omega) only [jx_bI_s, jx_bL_s, jx_bV_s, eq_self, true_or, or_true, jx_if_t, jx_if_f, jq_b0, jq_b1, jq_bb, jq_b01, jx_if_in, jx_if_lt, jx_if_nlt, jx_if_le, jx_if_nle, jq_eqp, jq_eqn, nI_clamp, nI_add, pk_sub, pk_mul, jn_and, jn_or, jn_xor, jq_andn, jq_shl1, jq_bit, jq_mn, jq_mx, cond_true, cond_false, jq_jt, jq_jf, jq_e1, jq_e2, jq_e3, jq_e4, Bool.not_true, Bool.not_false, jq_0, jq_1, jq_2, jq_3, jq_4, jq_5, jq_6, jq_8, jq_12, jq_16, jq_20, jq_21, jq_24, jq_30, jq_32, jq_60, jq_84, jq_1000, jq_2436, jq_20001, tB, tC, lN_mul]
  rfl
theorem dm_81 {h : jx_H} (w : jb_wf N) (P : jp_P h N) {a b S Fm : Nat} (ha : a < jb_p N) (hS : S < 2 ^ jb_p N) (hF : Fm < 2 ^ jb_p N) (hb : b < jb_p N) (tab : ∀ x, jn_sb x Fm → h.2 24 0 (2 ^ b ||| x) = lN (jr_tm N (2 ^ b ||| x)) ∧ h.2 24 0 (S ^^^ (2 ^ b ||| x)) = lN (jr_tm N (S ^^^ (2 ^ b ||| x)))) : ∀ k x (c : Int64), x ≤ k → jn_sb x Fm → F81_47 (DM (d + 2)) (nI S) (nI (2 ^ a)) (nI (2 ^ b)) (nI Fm) c (nI x) h = some ([vl (c + lN (jr_L (fun y => jr_q N a S (2 ^ b ||| y)) Fm x))], h) := by
  have h8 := jn_pow8 w.1
  intro k
  induction k with
  | zero =>
    intro x c hx hs
    have e : x = 0 := by omega
    have z : c + lN 0 = c := Int64.add_zero c
    have z2 : jr_L (fun y => jr_q N a S (2 ^ b ||| y)) Fm 0 = 0 := rfl
    rw [e, e81_47, z2, z]
    simp (disch := omega) only [jx_bI_s, jx_bL_s, jx_bV_s, eq_self, true_or, or_true, jx_if_t, jx_if_f, jq_b0, jq_b1, jq_bb, jq_b01, jx_if_in, jx_if_lt, jx_if_nlt, jx_if_le, jx_if_nle, jq_eqp, jq_eqn, nI_clamp, nI_add, pk_sub, pk_mul, jn_and, jn_or, jn_xor, jq_andn, jq_shl1, jq_bit, jq_mn, jq_mx, cond_true, cond_false, jq_jt, jq_jf, jq_e1, jq_e2, jq_e3, jq_e4, Bool.not_true, Bool.not_false, jq_0, jq_1, jq_2, jq_3, jq_4, jq_5, jq_6, jq_8, jq_12, jq_16, jq_20, jq_21, jq_24, jq_30, jq_32, jq_60, jq_84, jq_1000, jq_2436, jq_20001]
  | succ k ih =>
    intro x c hx hs
    by_cases h0 : x = 0
    · exact ih x c (by omega) hs
    · have xl := jn_sb_le hs
      have hl := jn_sb_nx (m := x) (S := Fm) (by omega)
      have bo : 2 ^ b ||| x < 2 ^ jb_p N := jn_or_lt (Nat.pow_lt_pow_right (by decide) hb) (by omega)
      have c2 := dm_82 (d := d) w P ha bo hS (tab x hs).1 (tab x hs).2
      rw [jr_L_step (by omega) hs, ← lN_add, ← Int64.add_assoc, ← ih ((x - 1) &&& Fm) _ (by omega) (jn_sb_and _ _), e81_47]
      simp (disch := omega) only [jx_bI_s, jx_bL_s, jx_bV_s, eq_self, true_or, or_true, jx_if_t, jx_if_f, jq_b0, jq_b1, jq_bb, jq_b01, jx_if_in, jx_if_lt, jx_if_nlt, jx_if_le, jx_if_nle, jq_eqp, jq_eqn, nI_clamp, nI_add, pk_sub, pk_mul, jn_and, jn_or, jn_xor, jq_andn, jq_shl1, jq_bit, jq_mn, jq_mx, cond_true, cond_false, jq_jt, jq_jf, jq_e1, jq_e2, jq_e3, jq_e4, Bool.not_true, Bool.not_false, jq_0, jq_1, jq_2, jq_3, jq_4, jq_5, jq_6, jq_8, jq_12, jq_16, jq_20, jq_21, jq_24, jq_30, jq_32, jq_60, jq_84, jq_1000, jq_2436, jq_20001, c2, e81_69, e81_78]
end
