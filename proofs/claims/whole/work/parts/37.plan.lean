/-! ===== layer 2: the class's plan ===== -/
theorem jn_2inj {a b : Nat} (h : 2 ^ a = 2 ^ b) : a = b := by
  have h1 : (2 ^ a).testBit b = true := by rw [h, jn_2k]; simp
  rw [jn_2k] at h1
  simpa using h1
theorem jn_2lt {a p : Nat} (h : a < p) : 2 ^ a < 2 ^ p := Nat.pow_lt_pow_right (by decide) h
theorem jn_mk_or {f : Nat → Bool} {i : Nat} (h : f i = true) : jn_mk f i ||| 2 ^ i = jn_mk f (i + 1) := by
  apply Nat.eq_of_testBit_eq
  intro j
  rw [Nat.testBit_or, jn_mk_t, jn_mk_t, jn_2k]
  by_cases hj : j = i
  · subst hj
    simp [h]
  · have e1 : decide (i = j) = false := by simp; omega
    have e2 : decide (j < i + 1) = decide (j < i) := by
      by_cases k : j < i
      · simp [k]; omega
      · simp [k]; omega
    rw [e1, e2, Bool.or_false]
theorem jn_mk_no {f : Nat → Bool} {i : Nat} (h : f i = false) : jn_mk f (i + 1) = jn_mk f i := by
  simp [jn_mk, h]
theorem jn_mk_orr (f g : Nat → Bool) (n : Nat) : jn_mk f n ||| jn_mk g n = jn_mk (fun i => f i || g i) n := by
  apply Nat.eq_of_testBit_eq
  intro j
  rw [Nat.testBit_or, jn_mk_t, jn_mk_t, jn_mk_t]
  cases decide (j < n) <;> rfl
theorem jn_mk_and (f g : Nat → Bool) (n : Nat) : jn_mk f n &&& jn_mk g n = jn_mk (fun i => f i && g i) n := by
  apply Nat.eq_of_testBit_eq
  intro j
  rw [Nat.testBit_and, jn_mk_t, jn_mk_t, jn_mk_t]
  cases decide (j < n) <;> rfl
theorem jn_mk_xor (f g : Nat → Bool) (n : Nat) : jn_mk f n ^^^ jn_mk g n = jn_mk (fun i => f i != g i) n := by
  apply Nat.eq_of_testBit_eq
  intro j
  rw [Nat.testBit_xor, jn_mk_t, jn_mk_t, jn_mk_t]
  cases decide (j < n) <;> cases f j <;> cases g j <;> rfl
theorem jn_mk_df (f g : Nat → Bool) (n : Nat) : jn_df (jn_mk f n) (jn_mk g n) = jn_mk (fun i => f i && !g i) n := by
  apply Nat.eq_of_testBit_eq
  intro j
  rw [jn_df_t, jn_mk_t, jn_mk_t, jn_mk_t]
  cases decide (j < n) <;> simp
theorem jn_mk_set (f : Nat → Bool) {b p : Nat} (hb : b < p) : jn_mk f p ||| 2 ^ b = jn_mk (fun y => f y || decide (b = y)) p := by
  apply Nat.eq_of_testBit_eq
  intro j
  rw [Nat.testBit_or, jn_mk_t, jn_mk_t, jn_2k]
  by_cases hj : b = j
  · subst hj
    simp [hb]
  · simp [hj]
def jn_ex (f : Nat → Bool) : Nat → Bool
  | 0 => false
  | n + 1 => jn_ex f n || f n
theorem jn_ex_t {f : Nat → Bool} : ∀ {n : Nat}, jn_ex f n = true ↔ ∃ i, i < n ∧ f i = true := by
  intro n
  induction n with
  | zero => simp [jn_ex]
  | succ n ih =>
    simp only [jn_ex, Bool.or_eq_true, ih]
    constructor
    · rintro (⟨i, h1, h2⟩ | h)
      · exact ⟨i, by omega, h2⟩
      · exact ⟨n, by omega, h⟩
    · rintro ⟨i, h1, h2⟩
      by_cases e : i = n
      · subst e
        exact Or.inr h2
      · exact Or.inl ⟨i, by omega, h2⟩
/-- the lowest of a set -/
theorem jn_low {x : Nat} : 0 < x → ∃ k q, x = 2 ^ (k + 1) * q + 2 ^ k := by
  induction x using Nat.strongRecOn with
  | ind x ih =>
    intro h
    by_cases e : x % 2 = 1
    · exact ⟨0, x / 2, by omega⟩
    · obtain ⟨k, q, hk⟩ := ih (x / 2) (by omega) (by omega)
      refine ⟨k + 1, q, ?_⟩
      have e1 : 2 ^ (k + 1) * q = 2 * (2 ^ k * q) := by rw [Nat.pow_succ, Nat.mul_comm (2 ^ k) 2, Nat.mul_assoc]
      have e2 : 2 ^ (k + 1 + 1) * q = 2 * (2 ^ (k + 1) * q) := by rw [Nat.pow_succ, Nat.mul_comm (2 ^ (k + 1)) 2, Nat.mul_assoc]
      have e3 : 2 ^ (k + 1) = 2 * 2 ^ k := by rw [Nat.pow_succ, Nat.mul_comm]
      omega
theorem jn_low_t {k q : Nat} (i : Nat) : (2 ^ (k + 1) * q + 2 ^ k).testBit i = if i < k + 1 then decide (k = i) else q.testBit (i - (k + 1)) := by
  rw [Nat.testBit_two_pow_mul_add q (Nat.pow_lt_pow_right (by decide) (by omega)), jn_2k]
theorem jn_low_p {k q : Nat} (i : Nat) : (2 ^ (k + 1) * q + 2 ^ k - 1).testBit i = if i < k + 1 then decide (i < k) else q.testBit (i - (k + 1)) := by
  have h0 := Nat.two_pow_pos k
  have h1 : 2 ^ k < 2 ^ (k + 1) := Nat.pow_lt_pow_right (by decide) (by omega)
  rw [Nat.add_sub_assoc (by omega), Nat.testBit_two_pow_mul_add q (by omega), jn_all_t]
theorem jn_neg {x : Nat} (h0 : 0 < x) (hx : x < 2 ^ 31) : -nI x = nI (x - 1) ^^^ (-1) := by
  apply Int32.toBitVec_inj.1
  show -(BitVec.ofNat 32 x) = BitVec.ofNat 32 (x - 1) ^^^ (-1 : Int32).toBitVec
  have e : (-1 : Int32).toBitVec = BitVec.allOnes 32 := by decide
  rw [e, BitVec.xor_allOnes]
  apply BitVec.eq_of_toNat_eq
  rw [BitVec.toNat_neg, BitVec.toNat_not, BitVec.toNat_ofNat, BitVec.toNat_ofNat]
  omega
theorem jn_lowI {x k q : Nat} (e : x = 2 ^ (k + 1) * q + 2 ^ k) (hx : x < 2 ^ 31) : nI x &&& (-nI x) = nI (2 ^ k) := by
  have h0 : 0 < x := by
    have := Nat.two_pow_pos k
    omega
  rw [jn_neg h0 hx, jn_andn]
  congr 1
  apply Nat.eq_of_testBit_eq
  intro i
  rw [jn_df_t, e, jn_low_t, jn_low_p, jn_2k]
  by_cases h : i < k + 1
  · rw [if_pos h, if_pos h]
    by_cases h2 : k = i
    · simp [h2]
    · simp [h2]
  · have h2 : k ≠ i := by omega
    rw [if_neg h, if_neg h]
    simp [h2]
theorem jn_low_x {x k q : Nat} (e : x = 2 ^ (k + 1) * q + 2 ^ k) : x ^^^ 2 ^ k = 2 ^ (k + 1) * q := by
  apply Nat.eq_of_testBit_eq
  intro i
  have h2 : (2 ^ (k + 1) * q).testBit i = if i < k + 1 then (0 : Nat).testBit i else q.testBit (i - (k + 1)) := by
    have := Nat.testBit_two_pow_mul_add q (Nat.two_pow_pos (k + 1)) i
    simpa using this
  rw [Nat.testBit_xor, e, jn_low_t, jn_2k, h2]
  by_cases h : i < k + 1
  · rw [if_pos h, if_pos h]
    simp
  · have h2 : k ≠ i := by omega
    rw [if_neg h, if_neg h]
    simp [h2]
theorem jn_low_has {x k q : Nat} (e : x = 2 ^ (k + 1) * q + 2 ^ k) : x.testBit k = true ∧ ∀ i, i < k → x.testBit i = false := by
  refine ⟨by rw [e, jn_low_t, if_pos (by omega)]; simp, fun i hi => ?_⟩
  rw [e, jn_low_t, if_pos (by omega)]
  simp
  omega
theorem jn_split {x k : Nat} (h : x.testBit k = true) (i : Nat) : x.testBit i = ((2 ^ k).testBit i || (x ^^^ 2 ^ k).testBit i) := by
  rw [Nat.testBit_xor, jn_2k]
  by_cases e : k = i
  · subst e
    simp [h]
  · simp [e]
/-- what the plan holds of a net -/
def jp_st (N : jb_N) (X : Nat) : Nat := jn_mk (fun r => X.testBit (jb_f N r)) (jb_n N)
def jp_en (N : jb_N) (X : Nat) : Nat := jn_mk (fun r => X.testBit (jb_s N r)) (jb_n N)
def jp_g (N : jb_N) (X y r : Nat) : Bool := (X.testBit (jb_f N r) && decide (jb_s N r = y)) || (!jb_t N && (X.testBit (jb_s N r) && decide (jb_f N r = y)))
def jp_nb (N : jb_N) (X y : Nat) : Bool := jn_ex (jp_g N X y) (jb_n N)
def jp_nr (N : jb_N) (X : Nat) : Nat := jn_mk (fun y => jp_nb N X y) (jb_p N)
def jp_cu (N : jb_N) (X : Nat) : Nat := jn_mk (fun r => jb_cb N X r) (jb_n N)
def jp_sd (N : jb_N) : Nat := bif jb_t N then 2 ^ jb_p N - 1 else 2 ^ jb_p N / 2
def jp_sh (N : jb_N) : Nat := bif jb_t N then 0 else 1
def jp_H (h : jx_H) (N : jb_N) : Prop := h.1 14 0 0 = nI (jb_p N) ∧ h.1 14 0 1 = nI (jb_n N) ∧ h.1 14 0 2 = jn_b (jb_t N) ∧ h.1 14 0 3 = nI (2 ^ jb_p N - 1) ∧ h.1 14 0 4 = nI (2 ^ jb_n N - 1) ∧ h.1 14 0 5 = nI (jp_sd N) ∧ h.1 14 0 6 = nI (jp_sh N)
def jp_T (h : jx_H) (N : jb_N) (X : Nat) : Prop := h.1 15 0 X = nI (jp_st N X) ∧ h.1 16 0 X = nI (jp_en N X) ∧ h.1 17 0 X = nI (jp_nr N X)
def jp_P (h : jx_H) (N : jb_N) : Prop := jp_H h N ∧ ∀ X, X < 2 ^ jb_p N → jp_T h N X ∧ h.1 18 0 X = nI (jp_cu N X)
theorem jp_st_or {N : jb_N} {X k : Nat} (h : X.testBit k = true) : jp_st N (2 ^ k) ||| jp_st N (X ^^^ 2 ^ k) = jp_st N X := by
  unfold jp_st
  rw [jn_mk_orr]
  exact jn_mk_congr (fun i _ => (jn_split h _).symm)
theorem jp_en_or {N : jb_N} {X k : Nat} (h : X.testBit k = true) : jp_en N (2 ^ k) ||| jp_en N (X ^^^ 2 ^ k) = jp_en N X := by
  unfold jp_en
  rw [jn_mk_orr]
  exact jn_mk_congr (fun i _ => (jn_split h _).symm)
theorem jn_ex_or {f g e : Nat → Bool} : ∀ n, (∀ i, i < n → e i = (f i || g i)) → (jn_ex f n || jn_ex g n) = jn_ex e n := by
  intro n
  induction n with
  | zero => intro _; rfl
  | succ n ih =>
    intro h
    simp only [jn_ex]
    rw [← ih (fun i hi => h i (by omega)), h n (by omega)]
    cases jn_ex f n <;> cases jn_ex g n <;> cases f n <;> cases g n <;> rfl
theorem jp_nr_or {N : jb_N} {X k : Nat} (h : X.testBit k = true) : jp_nr N (2 ^ k) ||| jp_nr N (X ^^^ 2 ^ k) = jp_nr N X := by
  unfold jp_nr
  rw [jn_mk_orr]
  refine jn_mk_congr (fun y _ => jn_ex_or _ (fun r _ => ?_))
  unfold jp_g
  rw [jn_split h (jb_f N r), jn_split h (jb_s N r)]
  cases (2 ^ k).testBit (jb_f N r) <;> cases (X ^^^ 2 ^ k).testBit (jb_f N r) <;> cases (2 ^ k).testBit (jb_s N r) <;> cases (X ^^^ 2 ^ k).testBit (jb_s N r) <;> cases decide (jb_s N r = y) <;> cases decide (jb_f N r = y) <;> cases jb_t N <;> rfl
theorem jp_cu_t {N : jb_N} {X : Nat} (h : jb_t N = true) : jn_df (jp_st N X) (jp_en N X) = jp_cu N X := by
  unfold jp_st jp_en jp_cu
  rw [jn_mk_df]
  refine jn_mk_congr (fun r _ => ?_)
  unfold jb_cb
  rw [h]
  cases X.testBit (jb_f N r) <;> cases X.testBit (jb_s N r) <;> rfl
theorem jp_cu_f {N : jb_N} {X : Nat} (h : jb_t N = false) : jp_st N X ^^^ jp_en N X = jp_cu N X := by
  unfold jp_st jp_en jp_cu
  rw [jn_mk_xor]
  refine jn_mk_congr (fun r _ => ?_)
  unfold jb_cb
  rw [h]
  cases X.testBit (jb_f N r) <;> cases X.testBit (jb_s N r) <;> rfl
theorem jp_st0 (N : jb_N) : jp_st N 0 = 0 := jn_mk_0 (fun i _ => Nat.zero_testBit _)
theorem jp_en0 (N : jb_N) : jp_en N 0 = 0 := jn_mk_0 (fun i _ => Nat.zero_testBit _)
theorem jp_nr0 (N : jb_N) : jp_nr N 0 = 0 := by
  refine jn_mk_0 (fun y _ => ?_)
  cases e : jp_nb N 0 y with
  | false => rfl
  | true =>
    obtain ⟨r, _, h⟩ := jn_ex_t.1 e
    unfold jp_g at h
    rw [Nat.zero_testBit, Nat.zero_testBit] at h
    simp at h
theorem jp_cu0 (N : jb_N) : jp_cu N 0 = 0 := by
  refine jn_mk_0 (fun r _ => ?_)
  unfold jb_cb
  rw [Nat.zero_testBit, Nat.zero_testBit]
  rfl
/-- the plan's rows have changed, nothing else; place 0 is 0 -/
def jp_fr (h0 h : jx_H) : Prop := (∀ c, ¬ (14 ≤ c ∧ c ≤ 18) → h.1 c = h0.1 c) ∧ (∀ c, 15 ≤ c → c ≤ 18 → h.1 c 0 0 = 0)
theorem jp_fr.set {h0 h : jx_H} (f : jp_fr h0 h) {c p : Nat} {v : Int32} (hc : 14 ≤ c ∧ c ≤ 18) (hp : c = 14 ∨ p ≠ 0) : jp_fr h0 (jx_sI h c 0 p v) := by
  refine ⟨fun a ha => ?_, fun a h1 h2 => ?_⟩
  · rw [jx_sk (by omega)]
    exact f.1 a ha
  · by_cases e : a = c
    · rw [jx_sp (by omega)]
      exact f.2 a h1 h2
    · rw [jx_sk e]
      exact f.2 a h1 h2
theorem jp_H.set {h : jx_H} {N : jb_N} (f : jp_H h N) {c i p : Nat} {v : Int32} (hc : c ≠ 14) : jp_H (jx_sI h c i p v) N := by
  unfold jp_H at *
  rw [jx_sk (Ne.symm hc)]
  exact f
/-- the rows of single posts, after i roads -/
def jp_Q (h : jx_H) (N : jb_N) (i : Nat) : Prop := ∀ q, q < jb_p N → h.1 15 0 (2 ^ q) = nI (jn_mk (fun r => (2 ^ q).testBit (jb_f N r)) i) ∧ h.1 16 0 (2 ^ q) = nI (jn_mk (fun r => (2 ^ q).testBit (jb_s N r)) i) ∧ h.1 17 0 (2 ^ q) = nI (jn_mk (fun y => jn_ex (jp_g N (2 ^ q) y) i) (jb_p N))
theorem jx_sv {h : jx_H} {c i p : Nat} {v : Int32} {q : Nat} : (jx_sI h c i p v).1 c i q = if q = p then v else h.1 c i q := by
  by_cases e : q = p
  · rw [if_pos e, e]
    exact jx_ss
  · rw [if_neg e]
    exact jx_sp e
theorem jp_Q_step {h : jx_H} {N : jb_N} (w : jb_wf N) {i : Nat} (hi : i < jb_n N) (Q : jp_Q h N i) : jp_Q (bif jb_t N then (jx_sI (jx_sI (jx_sI h 15 0 (2 ^ jb_f N i) (h.1 15 0 (2 ^ jb_f N i) ||| nI (2 ^ i))) 16 0 (2 ^ jb_s N i) (h.1 16 0 (2 ^ jb_s N i) ||| nI (2 ^ i))) 17 0 (2 ^ jb_f N i) (h.1 17 0 (2 ^ jb_f N i) ||| nI (2 ^ jb_s N i))) else jx_sI (jx_sI (jx_sI (jx_sI h 15 0 (2 ^ jb_f N i) (h.1 15 0 (2 ^ jb_f N i) ||| nI (2 ^ i))) 16 0 (2 ^ jb_s N i) (h.1 16 0 (2 ^ jb_s N i) ||| nI (2 ^ i))) 17 0 (2 ^ jb_f N i) (h.1 17 0 (2 ^ jb_f N i) ||| nI (2 ^ jb_s N i))) 17 0 (2 ^ jb_s N i) (h.1 17 0 (2 ^ jb_s N i) ||| nI (2 ^ jb_f N i))) N (i + 1) := by
  obtain ⟨w1, w2, w3, _⟩ := w.2.2 i hi
  have ne : 2 ^ jb_s N i ≠ 2 ^ jb_f N i := fun e => w3 (jn_2inj e).symm
  intro q hq
  obtain ⟨q1, q2, q3⟩ := Q q hq
  have n1 : (2 ^ q = 2 ^ jb_f N i) ↔ q = jb_f N i := ⟨jn_2inj, fun e => by rw [e]⟩
  have n2 : (2 ^ q = 2 ^ jb_s N i) ↔ q = jb_s N i := ⟨jn_2inj, fun e => by rw [e]⟩
  have g15 : jn_mk (fun r => (2 ^ q).testBit (jb_f N r)) (i + 1) = if q = jb_f N i then jn_mk (fun r => (2 ^ q).testBit (jb_f N r)) i ||| 2 ^ i else jn_mk (fun r => (2 ^ q).testBit (jb_f N r)) i := by
    by_cases e : q = jb_f N i
    · rw [if_pos e, jn_mk_or (by rw [jn_2k]; simp [e])]
    · rw [if_neg e, jn_mk_no (by rw [jn_2k]; simp [e])]
  have g16 : jn_mk (fun r => (2 ^ q).testBit (jb_s N r)) (i + 1) = if q = jb_s N i then jn_mk (fun r => (2 ^ q).testBit (jb_s N r)) i ||| 2 ^ i else jn_mk (fun r => (2 ^ q).testBit (jb_s N r)) i := by
    by_cases e : q = jb_s N i
    · rw [if_pos e, jn_mk_or (by rw [jn_2k]; simp [e])]
    · rw [if_neg e, jn_mk_no (by rw [jn_2k]; simp [e])]
  have gi : ∀ y, jp_g N (2 ^ q) y i = ((decide (q = jb_f N i) && decide (jb_s N i = y)) || (!jb_t N && (decide (q = jb_s N i) && decide (jb_f N i = y)))) := fun y => by
    unfold jp_g
    rw [jn_2k, jn_2k]
  have g17 : jn_mk (fun y => jn_ex (jp_g N (2 ^ q) y) (i + 1)) (jb_p N) = if q = jb_f N i then jn_mk (fun y => jn_ex (jp_g N (2 ^ q) y) i) (jb_p N) ||| 2 ^ jb_s N i else if jb_t N = false ∧ q = jb_s N i then jn_mk (fun y => jn_ex (jp_g N (2 ^ q) y) i) (jb_p N) ||| 2 ^ jb_f N i else jn_mk (fun y => jn_ex (jp_g N (2 ^ q) y) i) (jb_p N) := by
    by_cases e : q = jb_f N i
    · rw [if_pos e, jn_mk_set _ w2]
      refine jn_mk_congr (fun y _ => ?_)
      show (jn_ex _ i || jp_g N (2 ^ q) y i) = _
      rw [gi]
      have : q ≠ jb_s N i := fun k => w3 (by rw [← e, ← k])
      simp [e, w3]
    · rw [if_neg e]
      by_cases e2 : jb_t N = false ∧ q = jb_s N i
      · rw [if_pos e2, jn_mk_set _ w1]
        refine jn_mk_congr (fun y _ => ?_)
        show (jn_ex _ i || jp_g N (2 ^ q) y i) = _
        rw [gi, e2.1]
        simp [e, e2.2, Ne.symm w3]
      · rw [if_neg e2]
        refine jn_mk_congr (fun y _ => ?_)
        show (jn_ex _ i || jp_g N (2 ^ q) y i) = _
        rw [gi]
        cases ht : jb_t N
        · have : q ≠ jb_s N i := fun k => e2 ⟨ht, k⟩
          simp [e, this]
        · simp [e]
  rw [g15, g16, g17]
  cases ht : jb_t N
  · simp only [cond_false]
    refine ⟨?_, ?_, ?_⟩
    · rw [jx_sk (by decide), jx_sk (by decide), jx_sk (by decide), jx_sv]
      by_cases e : q = jb_f N i
      · rw [if_pos (n1.2 e), if_pos e, ← e, q1, jn_or]
      · rw [if_neg (fun k => e (n1.1 k)), if_neg e, q1]
    · rw [jx_sk (by decide), jx_sk (by decide), jx_sv, jx_sk (by decide)]
      by_cases e : q = jb_s N i
      · rw [if_pos (n2.2 e), if_pos e, ← e, q2, jn_or]
      · rw [if_neg (fun k => e (n2.1 k)), if_neg e, q2]
    · rw [jx_sv, jx_sv, jx_sk (by decide), jx_sk (by decide)]
      by_cases e : q = jb_f N i
      · have e2 : q ≠ jb_s N i := fun k => w3 (by rw [← e, ← k])
        rw [if_neg (fun k => e2 (n2.1 k)), if_pos (n1.2 e), if_pos e, ← e, q3, jn_or]
      · rw [if_neg (c := q = jb_f N i) e]
        by_cases e2 : q = jb_s N i
        · rw [if_pos (n2.2 e2), if_pos ⟨trivial, e2⟩, ← e2, q3, jn_or]
        · rw [if_neg (fun k => e2 (n2.1 k)), if_neg (fun k => e (n1.1 k)), if_neg (fun k => e2 k.2), q3]
  · simp only [cond_true]
    refine ⟨?_, ?_, ?_⟩
    · rw [jx_sk (by decide), jx_sk (by decide), jx_sv]
      by_cases e : q = jb_f N i
      · rw [if_pos (n1.2 e), if_pos e, ← e, q1, jn_or]
      · rw [if_neg (fun k => e (n1.1 k)), if_neg e, q1]
    · rw [jx_sk (by decide), jx_sv, jx_sk (by decide)]
      by_cases e : q = jb_s N i
      · rw [if_pos (n2.2 e), if_pos e, ← e, q2, jn_or]
      · rw [if_neg (fun k => e (n2.1 k)), if_neg e, q2]
    · rw [jx_sv, jx_sk (by decide), jx_sk (by decide)]
      by_cases e : q = jb_f N i
      · rw [if_pos (n1.2 e), if_pos e, ← e, q3, jn_or]
      · rw [if_neg (fun k => e (n1.1 k)), if_neg e, if_neg (fun k => absurd k.1 (by decide)), q3]
