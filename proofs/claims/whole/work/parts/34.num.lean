/-! ===== layer 2: the stepping rules ===== -/
theorem jq_0 : (0 : Int32) = nI 0 := rfl
theorem jq_1 : (1 : Int32) = nI 1 := rfl
theorem jq_2 : (2 : Int32) = nI 2 := rfl
theorem jq_3 : (3 : Int32) = nI 3 := rfl
theorem jq_4 : (4 : Int32) = nI 4 := rfl
theorem jq_5 : (5 : Int32) = nI 5 := rfl
theorem jq_6 : (6 : Int32) = nI 6 := rfl
theorem jq_8 : (8 : Int32) = nI 8 := rfl
theorem jq_12 : (12 : Int32) = nI 12 := rfl
theorem jq_16 : (16 : Int32) = nI 16 := rfl
theorem jq_20 : (20 : Int32) = nI 20 := rfl
theorem jq_21 : (21 : Int32) = nI 21 := rfl
theorem jq_24 : (24 : Int32) = nI 24 := rfl
theorem jq_30 : (30 : Int32) = nI 30 := rfl
theorem jq_32 : (32 : Int32) = nI 32 := rfl
theorem jq_60 : (60 : Int32) = nI 60 := rfl
theorem jq_84 : (84 : Int32) = nI 84 := rfl
theorem jq_1000 : (1000 : Int32) = nI 1000 := rfl
theorem jq_2436 : (2436 : Int32) = nI 2436 := rfl
theorem jq_20001 : (20001 : Int32) = nI 20001 := rfl
theorem jq_b0 (c : Bool) {a b : Option jx_R} : jx_if (jn_b c = nI 0) a b = bif c then b else a := jx_if_b c
theorem jq_b1 (c : Bool) {a b : Option jx_R} : jx_if (jn_b c = nI 1) a b = bif c then a else b := by
  cases c
  · exact jx_ifn (by decide)
  · exact jx_ifp rfl
theorem jq_bb (c e : Bool) {a b : Option jx_R} : jx_if (jn_b c = jn_b e) a b = bif (c == e) then a else b := by
  cases c <;> cases e
  · exact jx_ifp rfl
  · exact jx_ifn (by decide)
  · exact jx_ifn (by decide)
  · exact jx_ifp rfl
theorem jq_e1 : (true == true) = true := rfl
theorem jq_e2 : (true == false) = false := rfl
theorem jq_e3 : (false == true) = false := rfl
theorem jq_e4 : (false == false) = true := rfl
theorem jq_jt : jn_b true = nI 1 := rfl
theorem jq_jf : jn_b false = nI 0 := rfl
theorem jq_b01 (c : Bool) {a b : Option jx_R} : jx_if (jn_b c = nI 0 ∨ jn_b c = nI 1) a b = a := jx_ifp (jn_b01 c)
theorem jq_eqp {x y : Nat} (h : x = y) {a b : Option jx_R} : jx_if (nI x = nI y) a b = a := jx_ifp (by rw [h])
theorem jq_eqn {x y : Nat} (h : x ≠ y) (hx : x < 2 ^ 31) (hy : y < 2 ^ 31) {a b : Option jx_R} : jx_if (nI x = nI y) a b = b := jx_ifn (fun e => h ((nI_eq hx hy).1 e))
theorem jq_andn (a b : Nat) : nI a &&& (nI b ^^^ (-nI 1)) = nI (jn_df a b) := jn_andn a b
theorem jq_shl1 {k : Nat} (h : k < 31) : nI 1 <<< (nI k &&& 31) = nI (2 ^ k) := jn_shl1 k h
theorem jq_bit {s k : Nat} (hs : s < 2 ^ 31) (hk : k < 32) : (nI s >>> (nI k &&& 31)) &&& nI 1 = jn_b (s.testBit k) := jn_bit hs hk
theorem jq_mn {a b : Nat} (ha : a < 2 ^ 31) (hb : b < 2 ^ 31) : jx_mn (nI a) (nI b) = nI (min a b) := by
  unfold jx_mn
  by_cases h : b < a
  · rw [if_pos (nI_lt h ha), Nat.min_eq_right (by omega)]
  · rw [if_neg (nI_nlt (by omega) hb), Nat.min_eq_left (by omega)]
theorem jq_mx {a b : Nat} (ha : a < 2 ^ 31) (hb : b < 2 ^ 31) : jx_mx (nI a) (nI b) = nI (max a b) := by
  unfold jx_mx
  by_cases h : a < b
  · rw [if_pos (nI_lt h hb), Nat.max_eq_right (by omega)]
  · rw [if_neg (nI_nlt (by omega) ha), Nat.max_eq_left (by omega)]
theorem jq_inj {a b : Nat} (ha : a < 2 ^ 31) (hb : b < 2 ^ 31) (e : nI a = nI b) : a = b := (nI_eq ha hb).1 e
/-- the mask of those below n -/
def jn_mk (f : Nat → Bool) : Nat → Nat
  | 0 => 0
  | n + 1 => jn_mk f n + (if f n = true then 2 ^ n else 0)
theorem jn_mk_lt (f : Nat → Bool) : ∀ n, jn_mk f n < 2 ^ n := by
  intro n
  induction n with
  | zero => exact Nat.one_pos
  | succ n ih =>
    unfold jn_mk
    rw [Nat.pow_succ]
    split <;> omega
theorem jn_mk_t (f : Nat → Bool) (i : Nat) : ∀ n, (jn_mk f n).testBit i = (decide (i < n) && f i) := by
  intro n
  induction n with
  | zero => simp [jn_mk]
  | succ n ih =>
    have hl := jn_mk_lt f n
    have e : jn_mk f (n + 1) = 2 ^ n * (if f n = true then 1 else 0) + jn_mk f n := by
      show jn_mk f n + (if f n = true then 2 ^ n else 0) = _
      split <;> omega
    rw [e, Nat.testBit_two_pow_mul_add _ hl]
    by_cases h : i < n
    · rw [if_pos h, ih]
      simp [h, Nat.lt_succ_of_lt h]
    · rw [if_neg h]
      by_cases h2 : i = n
      · subst h2
        cases hf : f i <;> simp
      · have h3 : ¬ i < n + 1 := by omega
        have h4 : i - n ≠ 0 := by omega
        simp only [h3, decide_false, Bool.false_and]
        split
        · cases hb : Nat.testBit 1 (i - n) with
          | false => rfl
          | true => exact absurd (Nat.testBit_one_eq_true_iff_self_eq_zero.1 hb) h4
        · exact Nat.zero_testBit _
theorem jn_ext {n a b : Nat} (ha : a < 2 ^ n) (hb : b < 2 ^ n) (h : ∀ i, i < n → a.testBit i = b.testBit i) : a = b := by
  apply Nat.eq_of_testBit_eq
  intro i
  by_cases hi : i < n
  · exact h i hi
  · have h2 : 2 ^ n ≤ 2 ^ i := Nat.pow_le_pow_right (by decide) (by omega)
    rw [Nat.testBit_lt_two_pow (by omega), Nat.testBit_lt_two_pow (by omega)]
theorem jn_hi {n a i : Nat} (ha : a < 2 ^ n) (h : a.testBit i = true) : i < n := by
  by_cases hi : i < n
  · exact hi
  · have h2 : 2 ^ n ≤ 2 ^ i := Nat.pow_le_pow_right (by decide) (by omega)
    rw [Nat.testBit_lt_two_pow (by omega)] at h
    cases h
theorem jn_mk_self {n a : Nat} (ha : a < 2 ^ n) : jn_mk (fun i => a.testBit i) n = a := by
  refine jn_ext (jn_mk_lt _ n) ha (fun i hi => ?_)
  rw [jn_mk_t]
  simp [hi]
theorem jn_mk_congr {f g : Nat → Bool} {n : Nat} (h : ∀ i, i < n → f i = g i) : jn_mk f n = jn_mk g n := by
  refine jn_ext (jn_mk_lt _ n) (jn_mk_lt _ n) (fun i hi => ?_)
  rw [jn_mk_t, jn_mk_t, h i hi]
theorem jn_mk_0 {f : Nat → Bool} {n : Nat} (h : ∀ i, i < n → f i = false) : jn_mk f n = 0 := by
  refine jn_ext (jn_mk_lt _ n) (Nat.two_pow_pos n) (fun i hi => ?_)
  rw [jn_mk_t, h i hi, Nat.zero_testBit]
  simp
theorem jn_mk_eq0 {f : Nat → Bool} {n : Nat} : jn_mk f n = 0 ↔ ∀ i, i < n → f i = false := by
  refine ⟨fun h i hi => ?_, jn_mk_0⟩
  have := jn_mk_t f i n
  rw [h, Nat.zero_testBit] at this
  simpa [hi] using this.symm
theorem jn_all_t (n i : Nat) : (2 ^ n - 1).testBit i = decide (i < n) := Nat.testBit_two_pow_sub_one n i
/-- how many ones -/
def jn_pc (x : Nat) : Nat := jn_ct (fun i => x.testBit i) 32
theorem jn_ct_cut {f : Nat → Bool} {n m : Nat} (h : n ≤ m) (h0 : ∀ i, n ≤ i → f i = false) : jn_ct f m = jn_ct f n := by
  obtain ⟨k, rfl⟩ := Nat.le.dest h
  rw [jn_ct_app, jn_ct_zero k (fun i _ => h0 _ (by omega))]
  omega
theorem jn_pc_n {x n : Nat} (hx : x < 2 ^ n) (hn : n ≤ 32) : jn_pc x = jn_ct (fun i => x.testBit i) n := by
  refine jn_ct_cut hn (fun i hi => ?_)
  have h2 : 2 ^ n ≤ 2 ^ i := Nat.pow_le_pow_right (by decide) hi
  exact Nat.testBit_lt_two_pow (by omega)
theorem jn_pc_mk (f : Nat → Bool) {n : Nat} (hn : n ≤ 32) : jn_pc (jn_mk f n) = jn_ct f n := by
  rw [jn_pc_n (jn_mk_lt f n) hn]
  refine jn_ct_congr n (fun i hi => ?_)
  rw [jn_mk_t]
  simp [hi]
theorem jn_pc_le (x : Nat) : jn_pc x ≤ 32 := jn_ct_le _ 32
theorem jn_pc_len {x n : Nat} (hx : x < 2 ^ n) (hn : n ≤ 32) : jn_pc x ≤ n := by
  rw [jn_pc_n hx hn]
  exact jn_ct_le _ n
theorem jn_ct_mono {f g : Nat → Bool} : ∀ n, (∀ i, i < n → f i = true → g i = true) → jn_ct f n ≤ jn_ct g n := by
  intro n
  induction n with
  | zero => intro _; exact Nat.le_refl 0
  | succ n ih =>
    intro h
    have a := ih (fun i hi => h i (by omega))
    have b := h n (by omega)
    unfold jn_ct
    split
    · rename_i hf
      rw [if_pos (b hf)]
      omega
    · omega
theorem jn_ct_mlt {f g : Nat → Bool} : ∀ n, (∀ i, i < n → f i = true → g i = true) → (∃ i, i < n ∧ f i = false ∧ g i = true) → jn_ct f n < jn_ct g n := by
  intro n
  induction n with
  | zero => rintro _ ⟨i, hi, _⟩; omega
  | succ n ih =>
    rintro h ⟨i, hi, h1, h2⟩
    have a := jn_ct_mono n (fun i hi => h i (by omega))
    have b := h n (by omega)
    by_cases e : i = n
    · subst e
      simp only [jn_ct, h1, h2]
      simp
      omega
    · have c := ih (fun i hi => h i (by omega)) ⟨i, by omega, h1, h2⟩
      simp only [jn_ct]
      split
      · rename_i hf
        rw [if_pos (b hf)]
        omega
      · omega
theorem jn_pc_mono {x y : Nat} (h : ∀ i, x.testBit i = true → y.testBit i = true) : jn_pc x ≤ jn_pc y := jn_ct_mono 32 (fun i _ => h i)
theorem jn_ct_pos {f : Nat → Bool} {n : Nat} : 0 < jn_ct f n ↔ ∃ i, i < n ∧ f i = true := by
  constructor
  · intro h
    apply Classical.byContradiction
    intro hn
    rw [jn_ct_zero n (fun i hi => by
      cases hf : f i with
      | false => rfl
      | true => exact absurd ⟨i, hi, hf⟩ hn)] at h
    omega
  · rintro ⟨i, hi, hf⟩
    have := jn_ct_mlt (f := fun _ => false) (g := f) n (fun _ _ h => by cases h) ⟨i, hi, rfl, hf⟩
    omega
theorem dm_bc {d x : Nat} (hx : x < 2 ^ 31) (h : jx_H) : DM (d + 1) 1 [vi (nI x)] h = some ([vi (nI (jn_pc x))], h) := jn_bitCount d x (by omega) h
theorem jn_and_lt {a b n : Nat} (h : a < 2 ^ n) : a &&& b < 2 ^ n := Nat.lt_of_le_of_lt Nat.and_le_left h
theorem jn_and_lt' {a b n : Nat} (h : b < 2 ^ n) : a &&& b < 2 ^ n := Nat.lt_of_le_of_lt Nat.and_le_right h
theorem jn_or_lt {a b n : Nat} (ha : a < 2 ^ n) (hb : b < 2 ^ n) : a ||| b < 2 ^ n := Nat.or_lt_two_pow ha hb
theorem jn_xor_lt {a b n : Nat} (ha : a < 2 ^ n) (hb : b < 2 ^ n) : a ^^^ b < 2 ^ n := Nat.xor_lt_two_pow ha hb
theorem jn_df_lt {a b n : Nat} (ha : a < 2 ^ n) : jn_df a b < 2 ^ n := jn_xor_lt ha (jn_and_lt ha)
theorem jn_p8 {p x : Nat} (hp : p ≤ 8) (hx : x < 2 ^ p) : x < 256 := Nat.lt_of_lt_of_le hx (Nat.pow_le_pow_right (by decide) hp : 2 ^ p ≤ 2 ^ 8)
theorem jn_p20 {p x : Nat} (hp : p ≤ 20) (hx : x < 2 ^ p) : x < 1048576 := Nat.lt_of_lt_of_le hx (Nat.pow_le_pow_right (by decide) hp : 2 ^ p ≤ 2 ^ 20)
theorem jn_pow8 {p : Nat} (hp : p ≤ 8) : 2 ^ p ≤ 256 := (Nat.pow_le_pow_right (by decide) hp : 2 ^ p ≤ 2 ^ 8)
theorem jn_pow20 {p : Nat} (hp : p ≤ 20) : 2 ^ p ≤ 1048576 := (Nat.pow_le_pow_right (by decide) hp : 2 ^ p ≤ 2 ^ 20)
theorem jn_2k {k i : Nat} : (2 ^ k).testBit i = decide (k = i) := Nat.testBit_two_pow
/-- least -/
def jn_mn (ok : Nat → Bool) (c : Nat → Nat) (v : Nat) : Nat → Nat
  | 0 => v
  | n + 1 => if ok n = true then min (jn_mn ok c v n) (c n) else jn_mn ok c v n
theorem jn_mn_le {ok : Nat → Bool} {c : Nat → Nat} {v : Nat} : ∀ {n : Nat} {j : Nat}, j < n → ok j = true → jn_mn ok c v n ≤ c j := by
  intro n
  induction n with
  | zero => intro j hj; omega
  | succ n ih =>
    intro j hj ho
    unfold jn_mn
    by_cases e : j = n
    · subst e
      rw [if_pos ho]
      exact Nat.min_le_right _ _
    · have := ih (j := j) (by omega) ho
      split
      · exact Nat.le_trans (Nat.min_le_left _ _) this
      · exact this
theorem jn_mn_le0 {ok : Nat → Bool} {c : Nat → Nat} {v : Nat} : ∀ (n : Nat), jn_mn ok c v n ≤ v := by
  intro n
  induction n with
  | zero => exact Nat.le_refl _
  | succ n ih =>
    unfold jn_mn
    split
    · exact Nat.le_trans (Nat.min_le_left _ _) ih
    · exact ih
theorem jn_mn_at {ok : Nat → Bool} {c : Nat → Nat} {v : Nat} : ∀ (n : Nat), jn_mn ok c v n = v ∨ ∃ j, j < n ∧ ok j = true ∧ jn_mn ok c v n = c j := by
  intro n
  induction n with
  | zero => exact Or.inl rfl
  | succ n ih =>
    by_cases ho : ok n = true
    · have e : jn_mn ok c v (n + 1) = min (jn_mn ok c v n) (c n) := if_pos ho
      rw [e]
      by_cases hl : jn_mn ok c v n ≤ c n
      · rw [Nat.min_eq_left hl]
        rcases ih with h | ⟨j, h1, h2, h3⟩
        · exact Or.inl h
        · exact Or.inr ⟨j, by omega, h2, h3⟩
      · rw [Nat.min_eq_right (by omega)]
        exact Or.inr ⟨n, by omega, ho, rfl⟩
    · have e : jn_mn ok c v (n + 1) = jn_mn ok c v n := if_neg ho
      rw [e]
      rcases ih with h | ⟨j, h1, h2, h3⟩
      · exact Or.inl h
      · exact Or.inr ⟨j, by omega, h2, h3⟩
theorem jn_mn_att {ok : Nat → Bool} {c : Nat → Nat} {v n : Nat} (hv : ∃ j, j < n ∧ ok j = true ∧ c j ≤ v) : ∃ j, j < n ∧ ok j = true ∧ jn_mn ok c v n = c j := by
  rcases jn_mn_at (ok := ok) (c := c) (v := v) n with h | h
  · obtain ⟨j, h1, h2, h3⟩ := hv
    have := jn_mn_le (c := c) (v := v) h1 h2
    exact ⟨j, h1, h2, by omega⟩
  · exact h
theorem jn_mn_same {ok ok' : Nat → Bool} {c c' : Nat → Nat} {v v' n n' : Nat} (h1 : ∀ j, j < n → ok j = true → ∃ k, k < n' ∧ ok' k = true ∧ c' k ≤ c j) (h2 : ∀ k, k < n' → ok' k = true → ∃ j, j < n ∧ ok j = true ∧ c j ≤ c' k) (hv : ∃ j, j < n ∧ ok j = true ∧ c j ≤ v) (hv' : ∃ j, j < n' ∧ ok' j = true ∧ c' j ≤ v') : jn_mn ok c v n = jn_mn ok' c' v' n' := by
  obtain ⟨j, a1, a2, a3⟩ := jn_mn_att hv
  obtain ⟨k, b1, b2, b3⟩ := jn_mn_att hv'
  obtain ⟨k', p1, p2, p3⟩ := h1 j a1 a2
  obtain ⟨j', q1, q2, q3⟩ := h2 k b1 b2
  have := jn_mn_le (c := c') (v := v') p1 p2
  have := jn_mn_le (c := c) (v := v) q1 q2
  omega
theorem jn_mn_t {ok : Nat → Bool} {c : Nat → Nat} {v n : Nat} (h : ok n = true) : jn_mn ok c v (n + 1) = min (jn_mn ok c v n) (c n) := if_pos h
theorem jn_mn_f {ok : Nat → Bool} {c : Nat → Nat} {v n : Nat} (h : ok n = false) : jn_mn ok c v (n + 1) = jn_mn ok c v n := if_neg (by rw [h]; decide)
theorem jn_if_lt {a b : Nat} : (if b < a then b else a) = min a b := by
  by_cases h : b < a
  · rw [if_pos h, Nat.min_eq_right (by omega)]
  · rw [if_neg h, Nat.min_eq_left (by omega)]
