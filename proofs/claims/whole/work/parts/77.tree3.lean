/-! ===== layer 2: the number of trees, by the branch of one post ===== -/
noncomputable def jr_i (P : Prop) : Nat := @ite _ P (Classical.propDecidable _) 1 0
theorem jr_i_t {P : Prop} (h : P) : jr_i P = 1 := by unfold jr_i; rw [if_pos h]
theorem jr_i_f {P : Prop} (h : ¬ P) : jr_i P = 0 := by unfold jr_i; rw [if_neg h]
theorem jr_i_congr {P Q : Prop} (h : P ↔ Q) : jr_i P = jr_i Q := by rw [propext h]
theorem jr_i_and {P Q : Prop} : jr_i (P ∧ Q) = jr_i P * jr_i Q := by
  by_cases p : P
  · by_cases q : Q
    · rw [jr_i_t ⟨p, q⟩, jr_i_t p, jr_i_t q]
    · rw [jr_i_f (fun h => q h.2), jr_i_f q, Nat.mul_zero]
  · rw [jr_i_f (fun h => p h.1), jr_i_f p, Nat.zero_mul]
/-- trees on S -/
noncomputable def jr_tw (N : jb_N) (S : Nat → Bool) : Nat := jr_W (jr_iS N S) (jb_n N) (fun E => jr_i (jr_T N S (fun r => E.testBit r)))
section
variable {N : jb_N} {S B : Nat → Bool} {a b : Nat}
theorem jr_k_loc {E E' U : Nat → Bool} (h : ∀ r, U r = true → E r = E' r) : jr_k N E U = jr_k N E' U := jn_ct_congr _ (fun r _ => by
  cases c : U r with
  | true => rw [h r c]
  | false => rw [Bool.and_false, Bool.and_false])
theorem jr_J_loc {E E' : Nat → Bool} (h : ∀ r, jr_iS N S r = true → E r = E' r) (j : jr_J N S E) : jr_J N S E' := fun x y hx hy C c k => j x y hx hy C c (fun r hr he h1 h2 => k r hr (by
  rw [← h r (by unfold jr_iS; rw [h1, h2]; rfl)]
  exact he) h1 h2)
theorem jr_T_loc {E E' : Nat → Bool} (h : ∀ r, jr_iS N S r = true → E r = E' r) : jr_T N S E ↔ jr_T N S E' := by
  unfold jr_T
  rw [jr_k_loc h]
  exact ⟨fun t => ⟨t.1, jr_J_loc h t.2⟩, fun t => ⟨t.1, jr_J_loc (fun r hr => (h r hr).symm) t.2⟩⟩
theorem jr_out {U V : Nat → Bool} {n E : Nat} (h : jr_in V n E) (hd : ∀ r, V r = true → U r = false) {r : Nat} (hr : U r = true) : E.testBit r = false := by
  cases c : E.testBit r with
  | false => rfl
  | true =>
    have := hd r (h r c).2
    rw [this] at hr
    cases hr
theorem jr_fac (ha : S a = true) (ba : B a = false) (bS : ∀ x, B x = true → S x = true) : jr_W (jr_iS N S) (jb_n N) (fun E => jr_i (jr_Q N S (fun r => E.testBit r) B a)) = jr_tw N B * (jr_tw N (jr_wo S B) * jn_ct (jr_bx N B a) (jb_n N)) := by
  have dj := jr_disj (N := N) ha ba bS
  have o : ∀ {x y : Bool}, (x || y) = false → x = false ∧ y = false := fun {x y} => by cases x <;> cases y <;> decide
  have d12 : ∀ r, jr_iS N B r = true → jr_iS N (jr_wo S B) r = false := fun r h => (o ((dj r).1 h)).1
  have d13 : ∀ r, jr_iS N B r = true → jr_bx N B a r = false := fun r h => (o (o ((dj r).1 h)).2).1
  have d14 : ∀ r, jr_iS N B r = true → jr_cx N S B a r = false := fun r h => (o (o ((dj r).1 h)).2).2
  have d23 : ∀ r, jr_iS N (jr_wo S B) r = true → jr_bx N B a r = false := fun r h => (o ((dj r).2.1 h)).1
  have d24 : ∀ r, jr_iS N (jr_wo S B) r = true → jr_cx N S B a r = false := fun r h => (o ((dj r).2.1 h)).2
  have d34 : ∀ r, jr_bx N B a r = true → jr_cx N S B a r = false := fun r h => (dj r).2.2 h
  have sw : ∀ {U V : Nat → Bool}, (∀ r, U r = true → V r = false) → ∀ r, V r = true → U r = false := fun {U V} h r hv => by
    cases c : U r with
    | false => rfl
    | true =>
      rw [h r c] at hv
      cases hv
  rw [jr_W_set (V := fun r => jr_iS N B r || (jr_iS N (jr_wo S B) r || (jr_bx N B a r || jr_cx N S B a r))) _ (fun r _ => jr_split ha ba bS r), jr_W_or (U := jr_iS N B) (V := fun r => jr_iS N (jr_wo S B) r || (jr_bx N B a r || jr_cx N S B a r)) (fun r => (dj r).1)]
  have step : ∀ E1, jr_in (jr_iS N B) (jb_n N) E1 → jr_W (fun r => jr_iS N (jr_wo S B) r || (jr_bx N B a r || jr_cx N S B a r)) (jb_n N) (fun F => jr_i (jr_Q N S (fun r => (E1 ||| F).testBit r) B a)) = (jr_tw N (jr_wo S B) * jn_ct (jr_bx N B a) (jb_n N)) * jr_i (jr_T N B (fun r => E1.testBit r)) := fun E1 h1 => by
    rw [jr_W_or (U := jr_iS N (jr_wo S B)) (V := fun r => jr_bx N B a r || jr_cx N S B a r) (fun r => (dj r).2.1)]
    have step2 : ∀ E2, jr_in (jr_iS N (jr_wo S B)) (jb_n N) E2 → jr_W (fun r => jr_bx N B a r || jr_cx N S B a r) (jb_n N) (fun F => jr_i (jr_Q N S (fun r => (E1 ||| (E2 ||| F)).testBit r) B a)) = (jn_ct (jr_bx N B a) (jb_n N) * jr_i (jr_T N B (fun r => E1.testBit r))) * jr_i (jr_T N (jr_wo S B) (fun r => E2.testBit r)) := fun E2 h2 => by
      rw [jr_W_or (U := jr_bx N B a) (V := jr_cx N S B a) (fun r => (dj r).2.2)]
      have step3 : ∀ E3, jr_in (jr_bx N B a) (jb_n N) E3 → jr_W (jr_cx N S B a) (jb_n N) (fun F => jr_i (jr_Q N S (fun r => (E1 ||| (E2 ||| (E3 ||| F))).testBit r) B a)) = (jr_i (jr_T N B (fun r => E1.testBit r)) * jr_i (jr_T N (jr_wo S B) (fun r => E2.testBit r))) * (if jn_ct (fun r => E3.testBit r) (jb_n N) = 1 then 1 else 0) := fun E3 h3 => by
        have val : ∀ E4, jr_in (jr_cx N S B a) (jb_n N) E4 → jr_i (jr_Q N S (fun r => (E1 ||| (E2 ||| (E3 ||| E4))).testBit r) B a) = ((jr_i (jr_T N B (fun r => E1.testBit r)) * jr_i (jr_T N (jr_wo S B) (fun r => E2.testBit r))) * (if jn_ct (fun r => E3.testBit r) (jb_n N) = 1 then 1 else 0)) * jr_i (E4 = 0) := fun E4 h4 => by
          have q1 := jr_T_loc (N := N) (S := B) (E := fun r => (E1 ||| (E2 ||| (E3 ||| E4))).testBit r) (E' := fun r => E1.testBit r) (fun r hr => by
            simp only [Nat.testBit_or, jr_out h2 (sw d12) hr, jr_out h3 (sw d13) hr, jr_out h4 (sw d14) hr, Bool.or_false])
          have q2 := jr_T_loc (N := N) (S := jr_wo S B) (E := fun r => (E1 ||| (E2 ||| (E3 ||| E4))).testBit r) (E' := fun r => E2.testBit r) (fun r hr => by
            simp only [Nat.testBit_or, jr_out h1 d12 hr, jr_out h3 (sw d23) hr, jr_out h4 (sw d24) hr, Bool.or_false, Bool.false_or])
          have q3 := jr_k_loc (N := N) (U := jr_bx N B a) (E := fun r => (E1 ||| (E2 ||| (E3 ||| E4))).testBit r) (E' := fun r => E3.testBit r) (fun r hr => by
            simp only [Nat.testBit_or, jr_out h1 d13 hr, jr_out h2 d23 hr, jr_out h4 (sw d34) hr, Bool.or_false, Bool.false_or])
          have q4 := jr_k_loc (N := N) (U := jr_cx N S B a) (E := fun r => (E1 ||| (E2 ||| (E3 ||| E4))).testBit r) (E' := fun r => E4.testBit r) (fun r hr => by
            simp only [Nat.testBit_or, jr_out h1 d14 hr, jr_out h2 d24 hr, jr_out h3 d34 hr, Bool.false_or])
          have full : ∀ {U : Nat → Bool} {F : Nat}, jr_in U (jb_n N) F → jr_k N (fun r => F.testBit r) U = jn_ct (fun r => F.testBit r) (jb_n N) := fun {U F} h => jn_ct_congr _ (fun r _ => by
            show (F.testBit r && U r) = F.testBit r
            cases c : F.testBit r with
            | false => rfl
            | true => rw [(h r c).2]; rfl)
          have q5 : (jr_k N (fun r => E4.testBit r) (jr_cx N S B a) = 0) ↔ E4 = 0 := by
            rw [full h4]
            exact ⟨fun h => jr_in_z h4 (Nat.le_refl _) h, fun h => by rw [h]; exact jr_ct0 _⟩
          have q6 : (if jn_ct (fun r => E3.testBit r) (jb_n N) = 1 then 1 else 0) = jr_i (jn_ct (fun r => E3.testBit r) (jb_n N) = 1) := by
            by_cases c : jn_ct (fun r => E3.testBit r) (jb_n N) = 1
            · rw [if_pos c, jr_i_t c]
            · rw [if_neg c, jr_i_f c]
          unfold jr_Q
          rw [q3, q4, full h3, jr_i_and, jr_i_and, jr_i_and, jr_i_congr q1, jr_i_congr q2, jr_i_congr q5, q6]
          simp only [Nat.mul_assoc]
        rw [jr_W_one _ (E0 := 0) (jr_in0 _ _) (fun E4 h4 hne => by rw [val E4 h4, jr_i_f hne, Nat.mul_zero]), val 0 (jr_in0 _ _), jr_i_t rfl, Nat.mul_one]
      rw [jr_W_congr _ step3, jr_W_mul, jr_W_ct1 _ (Nat.le_refl _), Nat.mul_comm, ← Nat.mul_assoc]
    rw [jr_W_congr _ step2, jr_W_mul]
    show _ * jr_tw N (jr_wo S B) = _
    rw [Nat.mul_comm, ← Nat.mul_assoc]
  rw [jr_W_congr _ step, jr_W_mul]
  show _ * jr_tw N B = _
  rw [Nat.mul_comm]
theorem jr_rec {M Fm : Nat} (hS : ∀ x, S x = true → x < jb_p N) (ha : S a = true) (hb : S b = true) (hab : a ≠ b) (hM : M = 2 ^ b) (hF : ∀ x, Fm.testBit x = true ↔ S x = true ∧ x ≠ a ∧ x ≠ b) : jr_tw N S = jr_W (fun i => Fm.testBit i) (jb_p N) (fun m => jr_tw N (fun x => (M ||| m).testBit x) * (jr_tw N (jr_wo S (fun x => (M ||| m).testBit x)) * jn_ct (jr_bx N (fun x => (M ||| m).testBit x) a) (jb_n N))) := by
  have ok : ∀ m, jr_in (fun i => Fm.testBit i) (jb_p N) m → (M ||| m).testBit b = true ∧ (M ||| m).testBit a = false ∧ ∀ x, (M ||| m).testBit x = true → S x = true := fun m hm => by
    have f1 : ∀ x, (M ||| m).testBit x = (decide (b = x) || m.testBit x) := fun x => by rw [Nat.testBit_or, hM, jn_2k]
    refine ⟨by rw [f1]; simp, ?_, fun x hx => ?_⟩
    · rw [f1]
      cases c : m.testBit a with
      | true => exact absurd rfl ((hF a).1 (hm a c).2).2.1
      | false => simp [Ne.symm hab]
    · rw [f1] at hx
      by_cases c : b = x
      · rw [← c]
        exact hb
      · exact ((hF x).1 (hm x (by simpa [c] using hx)).2).1
  have one : ∀ E : Nat, jr_i (jr_T N S (fun r => E.testBit r)) = jr_W (fun i => Fm.testBit i) (jb_p N) (fun m => jr_i (jr_Q N S (fun r => E.testBit r) (fun x => (M ||| m).testBit x) a)) := fun E => by
    by_cases t : jr_T N S (fun r => E.testBit r)
    · obtain ⟨B, b1, b2, b3, q⟩ := jr_T_to hS ha hb hab t
      have m0 : ∀ x, (jn_mk (fun x => B x && decide (x ≠ b)) (jb_p N)).testBit x = (decide (x < jb_p N) && (B x && decide (x ≠ b))) := fun x => jn_mk_t _ _ _
      have in0 : jr_in (fun i => Fm.testBit i) (jb_p N) (jn_mk (fun x => B x && decide (x ≠ b)) (jb_p N)) := fun x hx => by
        rw [m0] at hx
        simp only [Bool.and_eq_true, decide_eq_true_eq] at hx
        refine ⟨hx.1, (hF x).2 ⟨b3 x hx.2.1, fun e => ?_, hx.2.2⟩⟩
        rw [e, b2] at hx
        cases hx.2.1
      have e0 : (fun x => (M ||| jn_mk (fun x => B x && decide (x ≠ b)) (jb_p N)).testBit x) = B := funext (fun x => by
        rw [Nat.testBit_or, m0, hM, jn_2k]
        by_cases c : b = x
        · rw [← c, b1]
          simp
        · cases d : B x with
          | false => simp [c]
          | true => simp [c, hS x (b3 x d), Ne.symm c])
      rw [jr_i_t t, jr_W_one _ in0 (fun m hm hne => jr_i_f (fun q' => hne (by
        obtain ⟨k1, k2, k3⟩ := ok m hm
        have u := jr_Q_uni (B := B) (B' := fun x => (M ||| m).testBit x) b1 k1 b2 k2 b3 k3 q q'
        refine Nat.eq_of_testBit_eq (fun x => ?_)
        have ux := u x
        simp only [Nat.testBit_or, hM, jn_2k] at ux
        rw [m0, ux]
        cases d : m.testBit x with
        | false =>
          by_cases c : b = x
          · simp [c]
          · simp [c]
        | true =>
          have h1 := hm x d
          have h2 := (hF x).1 h1.2
          simp [h1.1, h2.2.2]))), e0, jr_i_t q]
    · rw [jr_i_f t, jr_W_congr _ (g := fun _ => 0) (fun m hm => jr_i_f (fun q => t (jr_T_of ha (ok m hm).2.1 (ok m hm).2.2 q))), jr_W_zero]
  have e1 : jr_tw N S = jr_W (jr_iS N S) (jb_n N) (fun E => jr_W (fun i => Fm.testBit i) (jb_p N) (fun m => jr_i (jr_Q N S (fun r => E.testBit r) (fun x => (M ||| m).testBit x) a))) := jr_W_congr _ (fun E _ => one E)
  rw [e1, jr_W_swap]
  exact jr_W_congr _ (fun m hm => jr_fac ha (ok m hm).2.1 (ok m hm).2.2)
end
