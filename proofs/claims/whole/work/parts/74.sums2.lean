/-! ===== layer 2: sums over masks, counted ===== -/
theorem jr_ct2 {f u v : Nat → Bool} : ∀ n, (∀ i, i < n → f i = (u i || v i)) → (∀ i, i < n → u i = true → v i = false) → jn_ct f n = jn_ct u n + jn_ct v n := by
  intro n
  induction n with
  | zero => intro _ _; rfl
  | succ n ih =>
    intro h hd
    have h1 := ih (fun i hi => h i (by omega)) (fun i hi => hd i (by omega))
    have e := h n (by omega)
    cases hu : u n with
    | true =>
      have hv := hd n (by omega) hu
      rw [hu] at e
      have a1 := jn_ct_p (f := f) (i := n) (by rw [e]; rfl)
      have a2 := jn_ct_p (f := u) (i := n) hu
      have a3 := jn_ct_z (f := v) (i := n) hv
      omega
    | false =>
      rw [hu, Bool.false_or] at e
      have a2 := jn_ct_z (f := u) (i := n) hu
      cases hv : v n with
      | true =>
        have a1 := jn_ct_p (f := f) (i := n) (by rw [e, hv])
        have a3 := jn_ct_p (f := v) (i := n) hv
        omega
      | false =>
        have a1 := jn_ct_z (f := f) (i := n) (by rw [e, hv])
        have a3 := jn_ct_z (f := v) (i := n) hv
        omega
theorem jr_ct_or {E i n : Nat} (hi : i < n) (h : E.testBit i = false) : jn_ct (fun r => (E ||| 2 ^ i).testBit r) n = jn_ct (fun r => E.testBit r) n + 1 := by
  rw [jr_ct2 (u := fun r => E.testBit r) (v := fun r => decide (i = r)) n (fun r _ => by
    show (E ||| 2 ^ i).testBit r = _
    rw [Nat.testBit_or, jn_2k]) (fun r _ hr => by
    show decide (i = r) = false
    by_cases c : i = r
    · rw [← c, h] at hr
      cases hr
    · simp [c])]
  congr 1
  exact jn_ct_one hi (fun r _ => by
    simp only [decide_eq_true_eq]
    exact eq_comm)
theorem jr_ct0 (n : Nat) : jn_ct (fun r => (0 : Nat).testBit r) n = 0 := jn_ct_zero n (fun r _ => Nat.zero_testBit r)
theorem jr_W_none {U : Nat → Bool} : ∀ n {f : Nat → Nat}, (∀ i, i < n → U i = false) → jr_W U n f = f 0 := by
  intro n
  induction n with
  | zero => intro f _; rfl
  | succ n ih =>
    intro f h
    rw [jr_W0 (h n (by omega)), ih (fun i hi => h i (by omega))]
theorem jr_W_single {i : Nat} : ∀ n {f : Nat → Nat}, i < n → jr_W (fun r => decide (r = i)) n f = f 0 + f (2 ^ i) := by
  intro n
  induction n with
  | zero => intro f h; omega
  | succ n ih =>
    intro f h
    by_cases c : n = i
    · have no : ∀ {g : Nat → Nat}, jr_W (fun r => decide (r = i)) n g = g 0 := fun {g} => jr_W_none n (fun r hr => by
        have : r ≠ i := by omega
        simp [this])
      rw [jr_W1 (by simp [c]), no, no, Nat.zero_or, c]
    · rw [jr_W0 (by simp [c]), ih (by omega)]
theorem jr_W_from {i n : Nat} (hi : i < n) {f : Nat → Nat} : jr_W (fun r => decide (i ≤ r)) n f = jr_W (fun r => decide (i + 1 ≤ r)) n f + jr_W (fun r => decide (i + 1 ≤ r)) n (fun F => f (2 ^ i ||| F)) := by
  have e : jr_W (fun r => decide (i ≤ r)) n f = jr_W (fun r => decide (r = i) || decide (i + 1 ≤ r)) n f := jr_W_set n (fun r _ => by
    by_cases c : r = i
    · simp [c]
    · by_cases c2 : i ≤ r
      · simp [c2, show i + 1 ≤ r by omega]
      · simp [c, c2, show ¬ i + 1 ≤ r by omega])
  rw [e, jr_W_or (U := fun r => decide (r = i)) (V := fun r => decide (i + 1 ≤ r)) (fun r hr => by
    simp only [decide_eq_true_eq] at hr
    simp [hr]), jr_W_single n hi]
  simp only [Nat.zero_or]
theorem jr_c_W (G : Nat → Nat) (n : Nat) : ∀ m k i E, i + m = n → jr_c G n m k E = jr_W (fun r => decide (i ≤ r)) n (fun F => if jn_ct (fun r => F.testBit r) n = k then G (E ||| F) else 0) := by
  intro m
  induction m with
  | zero =>
    intro k i E hi
    rw [jr_W_none n (fun r hr => by simp [show ¬ i ≤ r by omega]), jr_ct0, Nat.or_zero]
    cases k with
    | zero => rfl
    | succ k => rfl
  | succ m ih =>
    intro k i E hi
    have nb : ∀ F, jr_in (fun r => decide (i + 1 ≤ r)) n F → jn_ct (fun r => (2 ^ i ||| F).testBit r) n = jn_ct (fun r => F.testBit r) n + 1 := fun F hF => by
      rw [Nat.or_comm]
      refine jr_ct_or (by omega) ?_
      cases c : F.testBit i with
      | false => rfl
      | true =>
        have := (hF i c).2
        simp only [decide_eq_true_eq] at this
        omega
    rw [jr_W_from (by omega)]
    cases k with
    | zero =>
      rw [jr_c0, ← ih 0 (i + 1) E (by omega), jr_c0]
      have z : jr_W (fun r => decide (i + 1 ≤ r)) n (fun F => if jn_ct (fun r => (2 ^ i ||| F).testBit r) n = 0 then G (E ||| (2 ^ i ||| F)) else 0) = jr_W (fun r => decide (i + 1 ≤ r)) n (fun _ => 0) := jr_W_congr n (fun F hF => by
        rw [nb F hF, if_neg (by omega)])
      rw [z, jr_W_zero, Nat.add_zero]
    | succ k =>
      have e1 : jr_c G n (m + 1) (k + 1) E = jr_c G n m k (E ||| 2 ^ (n - (m + 1))) + jr_c G n m (k + 1) E := rfl
      rw [e1, show n - (m + 1) = i by omega, ih k (i + 1) _ (by omega), ih (k + 1) (i + 1) E (by omega), Nat.add_comm]
      congr 1
      refine jr_W_congr n (fun F hF => ?_)
      rw [nb F hF, Nat.or_assoc]
      by_cases c : jn_ct (fun r => F.testBit r) n = k
      · rw [if_pos c, if_pos (by omega)]
      · rw [if_neg c, if_neg (by omega)]
theorem jr_in_z {U : Nat → Bool} {n E N : Nat} (h : jr_in U n E) (hn : n ≤ N) (hz : jn_ct (fun r => E.testBit r) N = 0) : E = 0 := by
  refine Nat.eq_of_testBit_eq (fun i => ?_)
  rw [Nat.zero_testBit]
  cases c : E.testBit i with
  | false => rfl
  | true =>
    have h1 := (h i c).1
    have : 0 < jn_ct (fun r => E.testBit r) N := jn_ct_pos.2 ⟨i, by omega, c⟩
    omega
theorem jr_W_ct1 {U : Nat → Bool} {N : Nat} : ∀ n, n ≤ N → jr_W U n (fun E => if jn_ct (fun r => E.testBit r) N = 1 then 1 else 0) = jn_ct U n := by
  intro n
  induction n with
  | zero =>
    intro _
    show (if jn_ct (fun r => (0 : Nat).testBit r) N = 1 then 1 else 0) = _
    rw [jr_ct0]
    rfl
  | succ n ih =>
    intro hn
    cases hu : U n with
    | false =>
      rw [jr_W0 hu, ih (by omega)]
      have := jn_ct_z (f := U) (i := n) hu
      omega
    | true =>
      have e : jr_W U n (fun E => if jn_ct (fun r => (E ||| 2 ^ n).testBit r) N = 1 then 1 else 0) = jr_W U n (fun E => if jn_ct (fun r => E.testBit r) N = 0 then 1 else 0) := jr_W_congr n (fun E hE => by
        rw [jr_ct_or (by omega) (by
          cases c : E.testBit n with
          | false => rfl
          | true => exact absurd (hE n c).1 (Nat.lt_irrefl n))]
        by_cases c : jn_ct (fun r => E.testBit r) N = 0
        · rw [if_pos c, if_pos (by omega)]
        · rw [if_neg c, if_neg (by omega)])
      rw [jr_W1 hu, ih (by omega), e, jr_W_one n (E0 := 0) (jr_in0 U n) (fun E hE hne => if_neg (fun hz => hne (jr_in_z hE (by omega) hz))), jr_ct0, if_pos rfl]
      exact jn_ct_p hu
theorem jr_sm_app {f : Nat → Nat} (a : Nat) : ∀ b, jn_sm f (a + b) = jn_sm f a + jn_sm (fun y => f (a + y)) b := by
  intro b
  induction b with
  | zero => rfl
  | succ b ih =>
    show jn_sm f (a + b) + f (a + b) = jn_sm f a + (jn_sm (fun y => f (a + y)) b + f (a + b))
    omega
theorem jr_W_sm {S : Nat} : ∀ n {f : Nat → Nat}, jr_W (fun i => S.testBit i) n f = jn_sm (fun y => if y &&& S = y then f y else 0) (2 ^ n) := by
  intro n
  induction n with
  | zero =>
    intro f
    show f 0 = 0 + (if 0 &&& S = 0 then f 0 else 0)
    rw [Nat.zero_and, if_pos rfl, Nat.zero_add]
  | succ n ih =>
    intro f
    rw [Nat.pow_succ, Nat.mul_two, jr_sm_app, ← ih]
    have nb : ∀ y, y < 2 ^ n → 2 ^ n + y = y ||| 2 ^ n := fun y hy => by
      rw [jn_or_add y (2 ^ n) (fun i hi => by
        rw [jn_2k]
        by_cases c : n = i
        · rw [← c, Nat.testBit_lt_two_pow hy] at hi
          cases hi
        · simp [c]), Nat.add_comm]
    cases hu : S.testBit n with
    | false =>
      rw [jr_W0 hu]
      have z : jn_sm (fun y => if (2 ^ n + y) &&& S = 2 ^ n + y then f (2 ^ n + y) else 0) (2 ^ n) = jn_sm (fun _ => 0) (2 ^ n) := jn_sm_congr _ (fun y hy => by
        rw [nb y hy]
        refine if_neg (fun e => ?_)
        have := congrArg (fun x => x.testBit n) e
        simp only [Nat.testBit_and, Nat.testBit_or, jn_2k, hu] at this
        simp at this)
      have z0 : ∀ k, jn_sm (fun _ => 0) k = 0 := fun k => by
        induction k with
        | zero => rfl
        | succ k ihk => exact ihk
      rw [z, z0]
      rfl
    | true =>
      rw [jr_W1 hu]
      congr 1
      rw [ih]
      refine jn_sm_congr _ (fun y hy => ?_)
      rw [nb y hy]
      have q : ((y ||| 2 ^ n) &&& S = y ||| 2 ^ n) ↔ (y &&& S = y) := by
        constructor
        · intro e
          refine Nat.eq_of_testBit_eq (fun i => ?_)
          have := congrArg (fun x => x.testBit i) e
          simp only [Nat.testBit_and, Nat.testBit_or, jn_2k] at this
          rw [Nat.testBit_and]
          by_cases c : n = i
          · rw [← c, Nat.testBit_lt_two_pow hy]
            rfl
          · simpa [c] using this
        · intro e
          refine Nat.eq_of_testBit_eq (fun i => ?_)
          have := congrArg (fun x => x.testBit i) e
          simp only [Nat.testBit_and] at this
          simp only [Nat.testBit_and, Nat.testBit_or, jn_2k]
          by_cases c : n = i
          · rw [← c, hu]
            simp
          · simpa [c] using this
      by_cases c : y &&& S = y
      · rw [if_pos c, if_pos (q.2 c)]
      · rw [if_neg c, if_neg (fun e => c (q.1 e))]
