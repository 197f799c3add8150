/-! ===== layer 2: sums over masks ===== -/
def jr_W (U : Nat → Bool) : Nat → (Nat → Nat) → Nat
  | 0, f => f 0
  | n + 1, f => jr_W U n f + (if U n = true then jr_W U n (fun E => f (E ||| 2 ^ n)) else 0)
theorem jr_W1 {U : Nat → Bool} {n : Nat} {f : Nat → Nat} (h : U n = true) : jr_W U (n + 1) f = jr_W U n f + jr_W U n (fun E => f (E ||| 2 ^ n)) := by
  show _ + (if U n = true then _ else 0) = _
  rw [if_pos h]
theorem jr_W0 {U : Nat → Bool} {n : Nat} {f : Nat → Nat} (h : U n = false) : jr_W U (n + 1) f = jr_W U n f := by
  show _ + (if U n = true then _ else 0) = _
  rw [if_neg (by rw [h]; decide)]
  rfl
/-- E lies inside U, below n -/
def jr_in (U : Nat → Bool) (n E : Nat) : Prop := ∀ i, E.testBit i = true → i < n ∧ U i = true
theorem jr_in_up {U : Nat → Bool} {n E : Nat} (h : jr_in U n E) : jr_in U (n + 1) E := fun i hi => ⟨by have := (h i hi).1; omega, (h i hi).2⟩
theorem jr_in_or {U : Nat → Bool} {n E : Nat} (h : jr_in U n E) (hu : U n = true) : jr_in U (n + 1) (E ||| 2 ^ n) := fun i hi => by
  rw [Nat.testBit_or, jn_2k] at hi
  by_cases c : n = i
  · exact ⟨by omega, c ▸ hu⟩
  · exact jr_in_up h i (by simpa [c] using hi)
theorem jr_in0 (U : Nat → Bool) (n : Nat) : jr_in U n 0 := fun i hi => by
  rw [Nat.zero_testBit] at hi
  cases hi
theorem jr_W_congr {U : Nat → Bool} : ∀ n {f g : Nat → Nat}, (∀ E, jr_in U n E → f E = g E) → jr_W U n f = jr_W U n g := by
  intro n
  induction n with
  | zero => intro f g h; exact h 0 (jr_in0 U 0)
  | succ n ih =>
    intro f g h
    cases hu : U n with
    | false =>
      rw [jr_W0 hu, jr_W0 hu]
      exact ih (fun E hE => h E (jr_in_up hE))
    | true =>
      rw [jr_W1 hu, jr_W1 hu, ih (fun E hE => h E (jr_in_up hE)), ih (fun E hE => h _ (jr_in_or hE hu))]
theorem jr_W_set {U V : Nat → Bool} : ∀ n {f : Nat → Nat}, (∀ i, i < n → U i = V i) → jr_W U n f = jr_W V n f := by
  intro n
  induction n with
  | zero => intro f h; rfl
  | succ n ih =>
    intro f h
    have e := h n (by omega)
    have h' : ∀ i, i < n → U i = V i := fun i hi => h i (by omega)
    cases hu : U n with
    | false => rw [jr_W0 hu, jr_W0 (e ▸ hu), ih h']
    | true => rw [jr_W1 hu, jr_W1 (e ▸ hu), ih h', ih h']
theorem jr_W_zero (U : Nat → Bool) : ∀ n, jr_W U n (fun _ => 0) = 0 := by
  intro n
  induction n with
  | zero => rfl
  | succ n ih =>
    cases hu : U n with
    | false => rw [jr_W0 hu, ih]
    | true => rw [jr_W1 hu, ih]
theorem jr_W_add {U : Nat → Bool} : ∀ n {f g : Nat → Nat}, jr_W U n (fun E => f E + g E) = jr_W U n f + jr_W U n g := by
  intro n
  induction n with
  | zero => intro f g; rfl
  | succ n ih =>
    intro f g
    cases hu : U n with
    | false => rw [jr_W0 hu, jr_W0 hu, jr_W0 hu, ih]
    | true =>
      rw [jr_W1 hu, jr_W1 hu, jr_W1 hu, ih, ih]
      omega
theorem jr_W_mul {U : Nat → Bool} (a : Nat) : ∀ n {f : Nat → Nat}, jr_W U n (fun E => a * f E) = a * jr_W U n f := by
  intro n
  induction n with
  | zero => intro f; rfl
  | succ n ih =>
    intro f
    cases hu : U n with
    | false => rw [jr_W0 hu, jr_W0 hu, ih]
    | true => rw [jr_W1 hu, jr_W1 hu, ih, ih, Nat.mul_add]
theorem jr_W_swap {U V : Nat → Bool} {p : Nat} : ∀ n {f : Nat → Nat → Nat}, jr_W U n (fun E => jr_W V p (fun B => f E B)) = jr_W V p (fun B => jr_W U n (fun E => f E B)) := by
  intro n
  induction n with
  | zero => intro f; rfl
  | succ n ih =>
    intro f
    cases hu : U n with
    | false =>
      rw [jr_W0 hu, ih]
      exact jr_W_congr p (fun B _ => (jr_W0 hu).symm)
    | true =>
      rw [jr_W1 hu, ih, ih, ← jr_W_add]
      exact jr_W_congr p (fun B _ => (jr_W1 hu).symm)
theorem jr_W_or {U V : Nat → Bool} (hd : ∀ i, U i = true → V i = false) : ∀ n {H : Nat → Nat}, jr_W (fun i => U i || V i) n H = jr_W U n (fun E => jr_W V n (fun F => H (E ||| F))) := by
  intro n
  induction n with
  | zero => intro H; rfl
  | succ n ih =>
    intro H
    cases hu : U n with
    | true =>
      have hv := hd n hu
      rw [jr_W1 (by rw [hu]; rfl), ih, ih, jr_W1 hu]
      congr 1
      · exact jr_W_congr n (fun E _ => (jr_W0 hv).symm)
      · refine jr_W_congr n (fun E _ => ?_)
        rw [jr_W0 hv]
        refine jr_W_congr n (fun F _ => ?_)
        rw [Nat.or_assoc, Nat.or_comm F, ← Nat.or_assoc]
    | false =>
      cases hv : V n with
      | false =>
        rw [jr_W0 (by rw [hu, hv]; rfl), ih, jr_W0 hu]
        exact jr_W_congr n (fun E _ => (jr_W0 hv).symm)
      | true =>
        rw [jr_W1 (by rw [hu, hv]; rfl), ih, ih, jr_W0 hu, ← jr_W_add]
        refine jr_W_congr n (fun E _ => ?_)
        rw [jr_W1 hv]
        congr 1
        exact jr_W_congr n (fun F _ => by rw [Nat.or_assoc])
/-- one mask only -/
theorem jr_W_one {U : Nat → Bool} : ∀ n {f : Nat → Nat} {E0 : Nat}, jr_in U n E0 → (∀ E, jr_in U n E → E ≠ E0 → f E = 0) → jr_W U n f = f E0 := by
  intro n
  induction n with
  | zero =>
    intro f E0 h _
    have : E0 = 0 := Nat.eq_of_testBit_eq (fun i => by
      rw [Nat.zero_testBit]
      cases c : E0.testBit i with
      | false => rfl
      | true => exact absurd (h i c).1 (Nat.not_lt_zero i))
    rw [this]
    rfl
  | succ n ih =>
    intro f E0 h hz
    have low : E0.testBit n = false → jr_in U n E0 := fun c i hi => ⟨by
      have h1 := (h i hi).1
      have h2 : i ≠ n := fun e => by rw [e, c] at hi; cases hi
      omega, (h i hi).2⟩
    have nb : ∀ {E}, jr_in U n E → E.testBit n = false := fun {E} hE => by
      cases c : E.testBit n with
      | false => rfl
      | true => exact absurd (hE n c).1 (Nat.lt_irrefl n)
    cases hu : U n with
    | false =>
      rw [jr_W0 hu]
      refine ih (low ?_) (fun E hE hne => hz E (jr_in_up hE) hne)
      cases c : E0.testBit n with
      | false => rfl
      | true => exact absurd (h n c).2 (by rw [hu]; decide)
    | true =>
      rw [jr_W1 hu]
      cases c : E0.testBit n with
      | false =>
        rw [ih (low c) (fun E hE hne => hz E (jr_in_up hE) hne)]
        have e : jr_W U n (fun E => f (E ||| 2 ^ n)) = jr_W U n (fun _ => 0) := jr_W_congr n (fun E hE => hz _ (jr_in_or hE hu) (fun e => by
          rw [← e, Nat.testBit_or, jn_2k] at c
          simp at c))
        rw [e, jr_W_zero]
        rfl
      | true =>
        have e : jr_W U n f = jr_W U n (fun _ => 0) := jr_W_congr n (fun E hE => hz _ (jr_in_up hE) (fun e => by
          rw [← e, nb hE] at c
          cases c))
        have e2 : jn_df E0 (2 ^ n) ||| 2 ^ n = E0 := Nat.eq_of_testBit_eq (fun i => by
          rw [Nat.testBit_or, jn_df_t, jn_2k]
          by_cases c2 : n = i
          · rw [← c2, c]
            simp
          · simp [c2])
        have k : jr_in U n (jn_df E0 (2 ^ n)) := fun i hi => by
          rw [jn_df_t, jn_2k] at hi
          by_cases c2 : n = i
          · rw [← c2] at hi
            simp at hi
          · have h1 := h i (by simpa [c2] using hi)
            exact ⟨by omega, h1.2⟩
        rw [e, jr_W_zero, ih k (fun E hE hne => hz _ (jr_in_or hE hu) (fun e3 => hne (by
          rw [← e3]
          refine Nat.eq_of_testBit_eq (fun i => ?_)
          rw [jn_df_t, Nat.testBit_or, jn_2k]
          by_cases c2 : n = i
          · rw [← c2, nb hE]
            simp
          · simp [c2]))), e2, Nat.zero_add]
