/-! ===== layer 2: numbers ===== -/
theorem jn_in {a n : Nat} (h : a < n) (hn : n < 2 ^ 31) : jx_in (nI a) n := by
  have := nI_toInt (n := a) (by omega)
  exact ⟨by omega, by omega⟩
theorem jn_and (a b : Nat) : nI a &&& nI b = nI (a &&& b) := by
  apply Int32.toBitVec_inj.1
  show BitVec.ofNat 32 a &&& BitVec.ofNat 32 b = BitVec.ofNat 32 (a &&& b)
  apply BitVec.eq_of_getLsbD_eq
  intro i hi
  simp [hi]
theorem jn_or (a b : Nat) : nI a ||| nI b = nI (a ||| b) := by
  apply Int32.toBitVec_inj.1
  show BitVec.ofNat 32 a ||| BitVec.ofNat 32 b = BitVec.ofNat 32 (a ||| b)
  apply BitVec.eq_of_getLsbD_eq
  intro i hi
  simp [hi]
theorem jn_xor (a b : Nat) : nI a ^^^ nI b = nI (a ^^^ b) := by
  apply Int32.toBitVec_inj.1
  show BitVec.ofNat 32 a ^^^ BitVec.ofNat 32 b = BitVec.ofNat 32 (a ^^^ b)
  apply BitVec.eq_of_getLsbD_eq
  intro i hi
  simp [hi]
theorem jn_shl1 : ∀ k, k < 31 → (1 : Int32) <<< (nI k &&& 31) = nI (2 ^ k) := by decide +kernel
theorem jn_s31 : ∀ n, n < 32 → ((nI n &&& 31).toBitVec.smod 32).toNat = n := by decide +kernel
theorem jn_shr {x k : Nat} (hx : x < 2 ^ 31) (hk : k < 32) : nI x >>> (nI k &&& 31) = nI (x / 2 ^ k) := pk_shrN hx _ k (jn_s31 k hk)
theorem jn_shl {x k : Nat} (hk : k < 32) (hx : x * 2 ^ k < 2 ^ 32) : nI x <<< (nI k &&& 31) = nI (x * 2 ^ k) := pk_shlN _ k (jn_s31 k hk) hx
theorem jn_u31 : ∀ n, n < 32 → (((nI n).toUInt32 &&& Int32.toUInt32 31).toBitVec % 32).toNat = n := by decide +kernel
theorem jn_ush {x k : Nat} (hx : x < 2 ^ 32) (hk : k < 32) : ((nI x).toUInt32 >>> ((nI k).toUInt32 &&& Int32.toUInt32 31)).toInt32 = nI (x / 2 ^ k) := pk_ushrN hx _ k (jn_u31 k hk)
/-- a and not b -/
def jn_df (a b : Nat) : Nat := a ^^^ (a &&& b)
theorem jn_df_t (a b i : Nat) : (jn_df a b).testBit i = (a.testBit i && !b.testBit i) := by
  unfold jn_df
  rw [Nat.testBit_xor, Nat.testBit_and]
  cases a.testBit i <;> cases b.testBit i <;> rfl
theorem jn_andn (a b : Nat) : nI a &&& (nI b ^^^ (-1)) = nI (jn_df a b) := by
  apply Int32.toBitVec_inj.1
  show BitVec.ofNat 32 a &&& (BitVec.ofNat 32 b ^^^ (-1 : Int32).toBitVec) = BitVec.ofNat 32 (jn_df a b)
  apply BitVec.eq_of_getLsbD_eq
  intro i hi
  have e : (-1 : Int32).toBitVec = BitVec.allOnes 32 := by decide
  rw [e]
  simp [hi, jn_df_t]
/-- how many of the first n -/
def jn_ct (f : Nat → Bool) : Nat → Nat
  | 0 => 0
  | n + 1 => jn_ct f n + (if f n = true then 1 else 0)
theorem jn_ct_le (f : Nat → Bool) : ∀ n, jn_ct f n ≤ n := by
  intro n
  induction n with
  | zero => exact Nat.le_refl 0
  | succ n ih =>
    unfold jn_ct
    split <;> omega
theorem jn_ct_congr {f g : Nat → Bool} : ∀ n, (∀ i, i < n → f i = g i) → jn_ct f n = jn_ct g n := by
  intro n
  induction n with
  | zero => intro _; rfl
  | succ n ih =>
    intro h
    unfold jn_ct
    rw [ih (fun i hi => h i (by omega)), h n (by omega)]
theorem jn_ct_app {f : Nat → Bool} (m : Nat) : ∀ n, jn_ct f (m + n) = jn_ct f m + jn_ct (fun i => f (m + i)) n := by
  intro n
  induction n with
  | zero => rfl
  | succ n ih =>
    rw [show m + (n + 1) = (m + n) + 1 from rfl]
    simp only [jn_ct]
    rw [ih]
    omega
theorem jn_ct_zero {f : Nat → Bool} : ∀ n, (∀ i, i < n → f i = false) → jn_ct f n = 0 := by
  intro n
  induction n with
  | zero => intro _; rfl
  | succ n ih =>
    intro h
    unfold jn_ct
    rw [ih (fun i hi => h i (by omega)), h n (by omega)]
    rfl
/-- ones of a number, four bits at a time -/
theorem jn_land16 {d m : Nat} (y M : Nat) (hd : d < 16) (hm : m < 16) : (d + 16 * y) &&& (m + 16 * M) = (d &&& m) + 16 * (y &&& M) := by
  have e : ∀ {a : Nat} (b : Nat), a < 16 → ∀ i, (a + 16 * b).testBit i = if i < 4 then a.testBit i else b.testBit (i - 4) := by
    intro a b ha i
    rw [show a + 16 * b = 2 ^ 4 * b + a by omega]
    exact Nat.testBit_two_pow_mul_add b (by omega) i
  apply Nat.eq_of_testBit_eq
  intro i
  rw [Nat.testBit_and, e y hd, e M hm, e (y &&& M) (Nat.lt_of_le_of_lt Nat.and_le_left hd)]
  by_cases h : i < 4
  · simp only [if_pos h, Nat.testBit_and]
  · simp only [if_neg h, Nat.testBit_and]
def jn_m5 : Nat → Nat
  | 0 => 0
  | n + 1 => 5 + 16 * jn_m5 n
def jn_m3 : Nat → Nat
  | 0 => 0
  | n + 1 => 3 + 16 * jn_m3 n
def jn_p4 (d : Nat) : Nat := jn_ct (fun i => d.testBit i) 4
/-- the sums of ones by four bits, each in its four bits -/
def jn_h : Nat → Nat → Nat
  | 0, _ => 0
  | n + 1, x => jn_p4 (x % 16) + 16 * jn_h n (x / 16)
theorem jn_s1 : ∀ (n x : Nat), x < 16 ^ n → ((x - ((x / 2) &&& jn_m5 n)) &&& jn_m3 n) + (((x - ((x / 2) &&& jn_m5 n)) / 4) &&& jn_m3 n) = jn_h n x := by
  intro n
  induction n with
  | zero =>
    intro x hx
    have : x = 0 := by simpa using hx
    subst this
    rfl
  | succ n ih =>
    intro x hx
    have hy : x / 16 < 16 ^ n := by
      rw [Nat.pow_succ] at hx
      omega
    have ih := ih (x / 16) hy
    have hd : x % 16 < 16 := Nat.mod_lt _ (by decide)
    generalize hdd : x % 16 = d at hd
    generalize hyy : x / 16 = y at ih hy
    have ex : x = d + 16 * y := by omega
    subst ex
    have e1 : (d + 16 * y) / 2 = (d / 2 + 8 * (y % 2)) + 16 * (y / 2) := by omega
    have f1 : ((d + 16 * y) / 2) &&& jn_m5 (n + 1) = ((d / 2) &&& 5) + 16 * ((y / 2) &&& jn_m5 n) := by
      rw [e1]
      show _ &&& (5 + 16 * jn_m5 n) = _
      rw [jn_land16 _ _ (by omega) (by omega)]
      have : (d / 2 + 8 * (y % 2)) &&& 5 = (d / 2) &&& 5 := by
        have h2 : y % 2 < 2 := Nat.mod_lt _ (by decide)
        generalize y % 2 = z at h2
        revert h2
        revert z
        revert hd
        revert d
        decide +kernel
      rw [this]
    have g1 : (y / 2) &&& jn_m5 n ≤ y := Nat.le_trans Nat.and_le_left (Nat.div_le_self _ _)
    have g2 : (d / 2) &&& 5 ≤ d := Nat.le_trans Nat.and_le_left (Nat.div_le_self _ _)
    rw [f1]
    have e2 : d + 16 * y - ((d / 2 &&& 5) + 16 * (y / 2 &&& jn_m5 n)) = (d - (d / 2 &&& 5)) + 16 * (y - (y / 2 &&& jn_m5 n)) := by omega
    rw [e2]
    generalize hE : d - (d / 2 &&& 5) = E
    have hE16 : E < 16 := by omega
    generalize y - (y / 2 &&& jn_m5 n) = Y at ih
    show ((E + 16 * Y) &&& (3 + 16 * jn_m3 n)) + (((E + 16 * Y) / 4) &&& (3 + 16 * jn_m3 n)) = _
    have e3 : (E + 16 * Y) / 4 = (E / 4 + 4 * (Y % 4)) + 16 * (Y / 4) := by omega
    rw [e3, jn_land16 _ _ hE16 (by decide), jn_land16 _ _ (by omega) (by decide)]
    have e4 : (E / 4 + 4 * (Y % 4)) &&& 3 = E / 4 &&& 3 := by
      have h4 : Y % 4 < 4 := Nat.mod_lt _ (by decide)
      generalize Y % 4 = z at h4
      revert h4
      revert z
      revert hE16
      clear hE
      revert E
      decide +kernel
    rw [e4]
    have e5 : (E &&& 3) + (E / 4 &&& 3) = jn_p4 d := by
      rw [← hE]
      revert hd
      clear hE hE16 e4 e3 e2 g2 f1 e1 hx hdd hyy
      revert d
      decide +kernel
    show _ = jn_p4 ((d + 16 * y) % 16) + 16 * jn_h n ((d + 16 * y) / 16)
    rw [show (d + 16 * y) % 16 = d by omega, show (d + 16 * y) / 16 = y by omega, ← ih, ← e5]
    omega
