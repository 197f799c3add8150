/-! ===== layer 2: trees of the class, one set of posts ===== -/
section
variable {d : Nat} {N : jb_N}
theorem jr_tm_one (w : jb_wf N) {a : Nat} (ha : a < jb_p N) : jr_tm N (2 ^ a) = 1 := by
  have e : jr_tm N (2 ^ a) = jr_i (jr_T N (fun x => (2 ^ a).testBit x) (fun r => (0 : Nat).testBit r)) := jr_W_none _ (fun r hr => by
    unfold jr_iS
    have ne := (w.2.2 r hr).2.2.1
    cases c : (2 ^ a).testBit (jb_f N r) && (2 ^ a).testBit (jb_s N r) with
    | false => rfl
    | true =>
      rw [jn_2k, jn_2k] at c
      simp only [Bool.and_eq_true, decide_eq_true_eq] at c
      exact absurd (c.1.symm.trans c.2) ne)
  rw [e]
  refine jr_i_t ⟨?_, ?_⟩
  · have e1 : jn_ct (fun x => (2 ^ a).testBit x) (jb_p N) = 1 := jn_ct_one ha (fun i _ => by
      rw [jn_2k, decide_eq_true_eq]
      exact eq_comm)
    have e2 : jr_k N (fun r => (0 : Nat).testBit r) (jr_iS N (fun x => (2 ^ a).testBit x)) = 0 := jn_ct_zero _ (fun r _ => by
      show ((0 : Nat).testBit r && _) = false
      rw [Nat.zero_testBit, Bool.false_and])
    rw [e1, e2]
  · intro x y hx hy C c _
    have hx : (2 ^ a).testBit x = true := hx
    have hy : (2 ^ a).testBit y = true := hy
    rw [jn_2k, decide_eq_true_eq] at hx hy
    rw [← hy, hx]
    exact c
theorem jr_tm_rec (w : jb_wf N) (ht : jb_t N = false) {a b S Fm : Nat} (hS : S < 2 ^ jb_p N) (ha : S.testBit a = true) (hb : S.testBit b = true) (hab : a ≠ b) (hF : ∀ x, Fm.testBit x = true ↔ S.testBit x = true ∧ x ≠ a ∧ x ≠ b) (hFl : Fm < 2 ^ jb_p N) : jr_tm N S = jr_q N a S (2 ^ b) + jr_L (fun y => jr_q N a S (2 ^ b ||| y)) Fm Fm := by
  have hn := w.2.1
  have p0 := Nat.two_pow_pos (jb_p N)
  have sp : ∀ x, S.testBit x = true → x < jb_p N := fun x hx => by
    apply Classical.byContradiction
    intro c
    rw [Nat.testBit_lt_two_pow (Nat.lt_of_lt_of_le hS (Nat.pow_le_pow_right (by decide) (by omega)))] at hx
    cases hx
  have tq : ∀ m, jn_sb m Fm → jr_tw N (fun x => (2 ^ b ||| m).testBit x) * (jr_tw N (jr_wo (fun x => S.testBit x) (fun x => (2 ^ b ||| m).testBit x)) * jn_ct (jr_bx N (fun x => (2 ^ b ||| m).testBit x) a) (jb_n N)) = jr_q N a S (2 ^ b ||| m) := fun m hm => by
    have e1 : jr_wo (fun x => S.testBit x) (fun x => (2 ^ b ||| m).testBit x) = (fun x => (S ^^^ (2 ^ b ||| m)).testBit x) := funext (fun x => by
      show (S.testBit x && !(2 ^ b ||| m).testBit x) = (S ^^^ (2 ^ b ||| m)).testBit x
      rw [Nat.testBit_xor, Nat.testBit_or, jn_2k]
      by_cases c : b = x
      · rw [← c, hb]
        simp
      · cases c2 : m.testBit x with
        | false => simp [c]
        | true =>
          rw [((hF x).1 (hm x c2)).1]
          simp)
    have e2 : jn_ct (jr_bx N (fun x => (2 ^ b ||| m).testBit x) a) (jb_n N) = jn_pc (jp_bt N (2 ^ a) (2 ^ b ||| m)) := by
      unfold jp_bt
      rw [jn_pc_mk _ (by omega)]
      refine jn_ct_congr _ (fun r _ => ?_)
      unfold jr_bx jp_btb
      rw [ht, jn_2k, jn_2k, decide_eq_decide.2 (show jb_s N r = a ↔ a = jb_s N r from eq_comm), decide_eq_decide.2 (show jb_f N r = a ↔ a = jb_f N r from eq_comm)]
      show ((2 ^ b ||| m).testBit (jb_f N r) && decide (a = jb_s N r) || (2 ^ b ||| m).testBit (jb_s N r) && decide (a = jb_f N r)) = _
      cases (2 ^ b ||| m).testBit (jb_f N r) <;> cases (2 ^ b ||| m).testBit (jb_s N r) <;> cases decide (a = jb_f N r) <;> cases decide (a = jb_s N r) <;> rfl
    rw [e1, e2]
    unfold jr_q jr_tm
    rw [← Nat.mul_assoc, Nat.mul_comm, Nat.mul_assoc]
  have r0 := jr_rec (N := N) (S := fun x => S.testBit x) (Fm := Fm) sp ha hb hab rfl hF
  rw [jr_W_sm] at r0
  show jr_tw N _ = _
  rw [r0]
  have split : ∀ f : Nat → Nat, jn_sm f (2 ^ jb_p N) = f 0 + jn_sm (fun y => f (1 + y)) (2 ^ jb_p N - 1) := fun f => by
    have := jr_sm_app (f := f) 1 (2 ^ jb_p N - 1)
    rw [show 1 + (2 ^ jb_p N - 1) = 2 ^ jb_p N by omega] at this
    rw [this]
    show (0 + f 0) + _ = _
    rw [Nat.zero_add]
  rw [split]
  congr 1
  · rw [Nat.zero_and, if_pos rfl, tq 0 (fun i hi => by rw [Nat.zero_testBit] at hi; cases hi), Nat.or_zero]
  · have cut := jr_sm_cut (f := fun y => if (y + 1) &&& Fm = y + 1 then jr_q N a S (2 ^ b ||| (y + 1)) else 0) (a := Fm) (2 ^ jb_p N - 1 - Fm) (fun i h1 _ => if_neg (fun c => by
      have := jn_sb_le (jr_sb_iff.1 c)
      omega))
    rw [show Fm + (2 ^ jb_p N - 1 - Fm) = 2 ^ jb_p N - 1 by omega] at cut
    unfold jr_L
    rw [← cut]
    refine jn_sm_congr _ (fun y _ => ?_)
    rw [Nat.add_comm 1 y]
    by_cases c : (y + 1) &&& Fm = y + 1
    · rw [if_pos c, if_pos c, tq _ (jr_sb_iff.1 c)]
    · rw [if_neg c, if_neg c]
end
