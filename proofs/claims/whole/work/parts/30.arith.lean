/-! ===== layer 2: numbers ===== -/
theorem jn_in {a n : Nat} (h : a < n) (hn : n < 2 ^ 31) : jx_in (nI a) n := by
  have := nI_toInt (n := a) (by omega)
  exact ⟨by omega, by omega⟩
theorem jn_and (a b : Nat) : nI a &&& nI b = nI (a &&& b) := by
  apply Int32.toBitVec_inj.1
  show BitVec.ofNat 32 a &&& BitVec.ofNat 32 b = BitVec.ofNat 32 (a &&& b)
  apply BitVec.eq_of_getLsbD_eq
  intro i hi
  simp [hi]
theorem jn_or (a b : Nat) : nI a ||| nI b = nI (a ||| b) := by
  apply Int32.toBitVec_inj.1
  show BitVec.ofNat 32 a ||| BitVec.ofNat 32 b = BitVec.ofNat 32 (a ||| b)
  apply BitVec.eq_of_getLsbD_eq
  intro i hi
  simp [hi]
theorem jn_xor (a b : Nat) : nI a ^^^ nI b = nI (a ^^^ b) := by
  apply Int32.toBitVec_inj.1
  show BitVec.ofNat 32 a ^^^ BitVec.ofNat 32 b = BitVec.ofNat 32 (a ^^^ b)
  apply BitVec.eq_of_getLsbD_eq
  intro i hi
  simp [hi]
theorem jn_shl1 : ∀ k, k < 31 → (1 : Int32) <<< (nI k &&& 31) = nI (2 ^ k) := by decide +kernel
theorem jn_s31 : ∀ n, n < 32 → ((nI n &&& 31).toBitVec.smod 32).toNat = n := by decide +kernel
theorem jn_shr {x k : Nat} (hx : x < 2 ^ 31) (hk : k < 32) : nI x >>> (nI k &&& 31) = nI (x / 2 ^ k) := pk_shrN hx _ k (jn_s31 k hk)
theorem jn_shl {x k : Nat} (hk : k < 32) (hx : x * 2 ^ k < 2 ^ 32) : nI x <<< (nI k &&& 31) = nI (x * 2 ^ k) := pk_shlN _ k (jn_s31 k hk) hx
theorem jn_u31 : ∀ n, n < 32 → (((nI n).toUInt32 &&& Int32.toUInt32 31).toBitVec % 32).toNat = n := by decide +kernel
theorem jn_ush {x k : Nat} (hx : x < 2 ^ 32) (hk : k < 32) : ((nI x).toUInt32 >>> ((nI k).toUInt32 &&& Int32.toUInt32 31)).toInt32 = nI (x / 2 ^ k) := pk_ushrN hx _ k (jn_u31 k hk)
/-- a and not b -/
def jn_df (a b : Nat) : Nat := a ^^^ (a &&& b)
theorem jn_df_t (a b i : Nat) : (jn_df a b).testBit i = (a.testBit i && !b.testBit i) := by
  unfold jn_df
  rw [Nat.testBit_xor, Nat.testBit_and]
  cases a.testBit i <;> cases b.testBit i <;> rfl
theorem jn_andn (a b : Nat) : nI a &&& (nI b ^^^ (-1)) = nI (jn_df a b) := by
  apply Int32.toBitVec_inj.1
  show BitVec.ofNat 32 a &&& (BitVec.ofNat 32 b ^^^ (-1 : Int32).toBitVec) = BitVec.ofNat 32 (jn_df a b)
  apply BitVec.eq_of_getLsbD_eq
  intro i hi
  have e : (-1 : Int32).toBitVec = BitVec.allOnes 32 := by decide
  rw [e, BitVec.getLsbD_and, BitVec.getLsbD_xor, BitVec.getLsbD_ofNat, BitVec.getLsbD_ofNat, BitVec.getLsbD_ofNat, BitVec.getLsbD_allOnes, jn_df_t]
  simp [hi]
/-- how many of the first n -/
def jn_ct (f : Nat → Bool) : Nat → Nat
  | 0 => 0
  | n + 1 => jn_ct f n + (if f n = true then 1 else 0)
theorem jn_ct_le (f : Nat → Bool) : ∀ n, jn_ct f n ≤ n := by
  intro n
  induction n with
  | zero => exact Nat.le_refl 0
  | succ n ih =>
    unfold jn_ct
    split <;> omega
theorem jn_ct_congr {f g : Nat → Bool} : ∀ n, (∀ i, i < n → f i = g i) → jn_ct f n = jn_ct g n := by
  intro n
  induction n with
  | zero => intro _; rfl
  | succ n ih =>
    intro h
    unfold jn_ct
    rw [ih (fun i hi => h i (by omega)), h n (by omega)]
theorem jn_ct_app {f : Nat → Bool} (m : Nat) : ∀ n, jn_ct f (m + n) = jn_ct f m + jn_ct (fun i => f (m + i)) n := by
  intro n
  induction n with
  | zero => rfl
  | succ n ih =>
    rw [show m + (n + 1) = (m + n) + 1 from rfl]
    simp only [jn_ct]
    rw [ih]
    omega
theorem jn_ct_zero {f : Nat → Bool} : ∀ n, (∀ i, i < n → f i = false) → jn_ct f n = 0 := by
  intro n
  induction n with
  | zero => intro _; rfl
  | succ n ih =>
    intro h
    unfold jn_ct
    rw [ih (fun i hi => h i (by omega)), h n (by omega)]
    rfl
/-- ones of a number, four bits at a time -/
theorem jn_land16 {d m : Nat} (y M : Nat) (hd : d < 16) (hm : m < 16) : (d + 16 * y) &&& (m + 16 * M) = (d &&& m) + 16 * (y &&& M) := by
  have e : ∀ {a : Nat} (b : Nat), a < 16 → ∀ i, (a + 16 * b).testBit i = if i < 4 then a.testBit i else b.testBit (i - 4) := by
    intro a b ha i
    rw [show a + 16 * b = 2 ^ 4 * b + a by omega]
    exact Nat.testBit_two_pow_mul_add b (by omega) i
  apply Nat.eq_of_testBit_eq
  intro i
  rw [Nat.testBit_and, e y hd, e M hm, e (y &&& M) (Nat.lt_of_le_of_lt Nat.and_le_left hd)]
  by_cases h : i < 4
  · simp only [if_pos h, Nat.testBit_and]
  · simp only [if_neg h, Nat.testBit_and]
theorem jn_dA : ∀ d, d < 16 → ∀ z, z < 2 → (d / 2 + 8 * z) &&& 5 = (d / 2) &&& 5 := by decide +kernel
theorem jn_dB : ∀ d, d < 16 → ∀ z, z < 4 → (d / 4 + 4 * z) &&& 3 = (d / 4) &&& 3 := by decide +kernel
def jn_m5 : Nat → Nat
  | 0 => 0
  | n + 1 => 5 + 16 * jn_m5 n
def jn_m3 : Nat → Nat
  | 0 => 0
  | n + 1 => 3 + 16 * jn_m3 n
def jn_p4 (d : Nat) : Nat := jn_ct (fun i => d.testBit i) 4
theorem jn_dC : ∀ d, d < 16 → ((d - (d / 2 &&& 5)) &&& 3) + ((d - (d / 2 &&& 5)) / 4 &&& 3) = jn_p4 d := by decide +kernel
/-- the sums of ones by four bits, each in its four bits -/
def jn_h : Nat → Nat → Nat
  | 0, _ => 0
  | n + 1, x => jn_p4 (x % 16) + 16 * jn_h n (x / 16)
theorem jn_s1 : ∀ (n x : Nat), x < 16 ^ n → ((x - ((x / 2) &&& jn_m5 n)) &&& jn_m3 n) + (((x - ((x / 2) &&& jn_m5 n)) / 4) &&& jn_m3 n) = jn_h n x := by
  intro n
  induction n with
  | zero =>
    intro x hx
    have : x = 0 := by simpa using hx
    subst this
    rfl
  | succ n ih =>
    intro x hx
    have hy : x / 16 < 16 ^ n := by
      rw [Nat.pow_succ] at hx
      omega
    have ih := ih (x / 16) hy
    have hd : x % 16 < 16 := Nat.mod_lt _ (by decide)
    generalize hdd : x % 16 = d at hd
    generalize hyy : x / 16 = y at ih hy
    have ex : x = d + 16 * y := by omega
    subst ex
    have e1 : (d + 16 * y) / 2 = (d / 2 + 8 * (y % 2)) + 16 * (y / 2) := by omega
    have f1 : ((d + 16 * y) / 2) &&& jn_m5 (n + 1) = ((d / 2) &&& 5) + 16 * ((y / 2) &&& jn_m5 n) := by
      rw [e1]
      show _ &&& (5 + 16 * jn_m5 n) = _
      rw [jn_land16 _ _ (by omega) (by omega)]
      rw [jn_dA d hd _ (Nat.mod_lt _ (by decide))]
    have g1 : (y / 2) &&& jn_m5 n ≤ y := Nat.le_trans Nat.and_le_left (Nat.div_le_self _ _)
    have g2 : (d / 2) &&& 5 ≤ d := Nat.le_trans Nat.and_le_left (Nat.div_le_self _ _)
    rw [f1]
    have e2 : d + 16 * y - ((d / 2 &&& 5) + 16 * (y / 2 &&& jn_m5 n)) = (d - (d / 2 &&& 5)) + 16 * (y - (y / 2 &&& jn_m5 n)) := by omega
    rw [e2]
    generalize hE : d - (d / 2 &&& 5) = E
    have hE16 : E < 16 := by omega
    generalize y - (y / 2 &&& jn_m5 n) = Y at ih
    show ((E + 16 * Y) &&& (3 + 16 * jn_m3 n)) + (((E + 16 * Y) / 4) &&& (3 + 16 * jn_m3 n)) = _
    have e3 : (E + 16 * Y) / 4 = (E / 4 + 4 * (Y % 4)) + 16 * (Y / 4) := by omega
    rw [e3, jn_land16 _ _ hE16 (by decide), jn_land16 _ _ (by omega) (by decide)]
    have e4 : (E / 4 + 4 * (Y % 4)) &&& 3 = E / 4 &&& 3 := jn_dB E hE16 _ (Nat.mod_lt _ (by decide))
    rw [e4]
    have e5 : (E &&& 3) + (E / 4 &&& 3) = jn_p4 d := by
      rw [← hE]
      exact jn_dC d hd
    show _ = jn_p4 ((d + 16 * y) % 16) + 16 * jn_h n ((d + 16 * y) / 16)
    rw [show (d + 16 * y) % 16 = d by omega, show (d + 16 * y) / 16 = y by omega, ← ih, ← e5]
    omega
/-- eight groups of four -/
theorem jn_p4_le (d : Nat) : jn_p4 d ≤ 4 := jn_ct_le _ 4
theorem jn_ct4 (x : Nat) : ∀ n, jn_ct (fun i => x.testBit i) (4 * (n + 1)) = jn_p4 (x % 16) + jn_ct (fun i => (x / 16).testBit i) (4 * n) := by
  intro n
  rw [show 4 * (n + 1) = 4 + 4 * n by omega, jn_ct_app]
  congr 1
  · refine jn_ct_congr 4 (fun i hi => ?_)
    rw [show (16 : Nat) = 2 ^ 4 from rfl, Nat.testBit_mod_two_pow]
    simp [hi]
  · refine jn_ct_congr _ (fun i _ => ?_)
    rw [show (16 : Nat) = 2 ^ 4 from rfl, Nat.testBit_div_two_pow, Nat.add_comm]
theorem jn_byte {a b c d e f g h : Nat} (ha : a < 16) (hb : b < 16) (hc : c < 16) (hd : d < 16) (he : e < 16) (hf : f < 16) (hg : g < 16) (hh : h < 16) : (a + 16 * (b + 16 * (c + 16 * (d + 16 * (e + 16 * (f + 16 * (g + 16 * h))))))) &&& 252645135 = a + 256 * (c + 256 * (e + 256 * g)) := by
  have e0 : (252645135 : Nat) = 15 + 16 * (0 + 16 * (15 + 16 * (0 + 16 * (15 + 16 * (0 + 16 * (15 + 16 * 0)))))) := by decide
  have f15 : ∀ x, x < 16 → x &&& 15 = x := by decide +kernel
  rw [e0, jn_land16 _ _ ha (by decide), jn_land16 _ _ hb (by decide), jn_land16 _ _ hc (by decide), jn_land16 _ _ hd (by decide), jn_land16 _ _ he (by decide), jn_land16 _ _ hf (by decide), jn_land16 _ _ hg (by decide), Nat.and_zero, Nat.and_zero, Nat.and_zero, Nat.and_zero, f15 a ha, f15 c hc, f15 e he, f15 g hg]
  omega
/-- Integer.bitCount -/
theorem jn_bitCount (d x : Nat) (hx : x < 2 ^ 32) (h : jx_H) : DM (d + 1) 1 [vi (nI x)] h = some ([vi (nI (jn_ct (fun i => x.testBit i) 32))], h) := by
  have hx8 : x < 16 ^ 8 := hx
  rw [d1, e1_0, show (1 : Int32) = nI 1 from rfl, jn_ush hx (by decide), show (1431655765 : Int32) = nI (jn_m5 8) from rfl, jn_and]
  have l1 : (x / 2 ^ 1) &&& jn_m5 8 ≤ x := Nat.le_trans Nat.and_le_left (Nat.div_le_self _ _)
  rw [pk_sub l1, e1_10, show (2 : Int32) = nI 2 from rfl, jn_ush (by omega) (by decide), show (858993459 : Int32) = nI (jn_m3 8) from rfl, jn_and, jn_and, nI_add]
  rw [show (2 : Nat) ^ 1 = 2 from rfl, show (2 : Nat) ^ 2 = 4 from rfl, jn_s1 8 x hx8]
  have hc : jn_ct (fun i => x.testBit i) 32 = jn_p4 (x % 16) + (jn_p4 (x / 16 % 16) + (jn_p4 (x / 16 / 16 % 16) + (jn_p4 (x / 16 / 16 / 16 % 16) + (jn_p4 (x / 16 / 16 / 16 / 16 % 16) + (jn_p4 (x / 16 / 16 / 16 / 16 / 16 % 16) + (jn_p4 (x / 16 / 16 / 16 / 16 / 16 / 16 % 16) + (jn_p4 (x / 16 / 16 / 16 / 16 / 16 / 16 / 16 % 16) + 0))))))) := by
    rw [show (32 : Nat) = 4 * (7 + 1) from rfl, jn_ct4, show 4 * 7 = 4 * (6 + 1) from rfl, jn_ct4, show 4 * 6 = 4 * (5 + 1) from rfl, jn_ct4, show 4 * 5 = 4 * (4 + 1) from rfl, jn_ct4, show 4 * 4 = 4 * (3 + 1) from rfl, jn_ct4, show 4 * 3 = 4 * (2 + 1) from rfl, jn_ct4, show 4 * 2 = 4 * (1 + 1) from rfl, jn_ct4, show 4 * 1 = 4 * (0 + 1) from rfl, jn_ct4]
    rfl
  have hh : jn_h 8 x = jn_p4 (x % 16) + 16 * (jn_p4 (x / 16 % 16) + 16 * (jn_p4 (x / 16 / 16 % 16) + 16 * (jn_p4 (x / 16 / 16 / 16 % 16) + 16 * (jn_p4 (x / 16 / 16 / 16 / 16 % 16) + 16 * (jn_p4 (x / 16 / 16 / 16 / 16 / 16 % 16) + 16 * (jn_p4 (x / 16 / 16 / 16 / 16 / 16 / 16 % 16) + 16 * (jn_p4 (x / 16 / 16 / 16 / 16 / 16 / 16 / 16 % 16) + 16 * 0))))))) := rfl
  rw [hc, hh]
  have b0 := jn_p4_le (x % 16)
  have b1 := jn_p4_le (x / 16 % 16)
  have b2 := jn_p4_le (x / 16 / 16 % 16)
  have b3 := jn_p4_le (x / 16 / 16 / 16 % 16)
  have b4 := jn_p4_le (x / 16 / 16 / 16 / 16 % 16)
  have b5 := jn_p4_le (x / 16 / 16 / 16 / 16 / 16 % 16)
  have b6 := jn_p4_le (x / 16 / 16 / 16 / 16 / 16 / 16 % 16)
  have b7 := jn_p4_le (x / 16 / 16 / 16 / 16 / 16 / 16 / 16 % 16)
  generalize jn_p4 (x % 16) = p0 at *
  generalize jn_p4 (x / 16 % 16) = p1 at *
  generalize jn_p4 (x / 16 / 16 % 16) = p2 at *
  generalize jn_p4 (x / 16 / 16 / 16 % 16) = p3 at *
  generalize jn_p4 (x / 16 / 16 / 16 / 16 % 16) = p4 at *
  generalize jn_p4 (x / 16 / 16 / 16 / 16 / 16 % 16) = p5 at *
  generalize jn_p4 (x / 16 / 16 / 16 / 16 / 16 / 16 % 16) = p6 at *
  generalize jn_p4 (x / 16 / 16 / 16 / 16 / 16 / 16 / 16 % 16) = p7 at *
  clear hc hh l1 hx8 hx
  rw [e1_24, show (4 : Int32) = nI 4 from rfl, jn_ush (by omega) (by decide), nI_add, show (252645135 : Int32) = nI 252645135 from rfl, jn_and]
  have e1 : p0 + 16 * (p1 + 16 * (p2 + 16 * (p3 + 16 * (p4 + 16 * (p5 + 16 * (p6 + 16 * (p7 + 16 * 0))))))) + (p0 + 16 * (p1 + 16 * (p2 + 16 * (p3 + 16 * (p4 + 16 * (p5 + 16 * (p6 + 16 * (p7 + 16 * 0)))))))) / 2 ^ 4 = (p0 + p1) + 16 * ((p1 + p2) + 16 * ((p2 + p3) + 16 * ((p3 + p4) + 16 * ((p4 + p5) + 16 * ((p5 + p6) + 16 * ((p6 + p7) + 16 * p7)))))) := by omega
  rw [e1, jn_byte (by omega) (by omega) (by omega) (by omega) (by omega) (by omega) (by omega) (by omega)]
  rw [e1_34, show (8 : Int32) = nI 8 from rfl, jn_ush (by omega) (by decide), nI_add, e1_41, show (16 : Int32) = nI 16 from rfl, jn_ush (by omega) (by decide), nI_add, e1_48, show (63 : Int32) = nI 63 from rfl, jn_and, show (63 : Nat) = 2 ^ 6 - 1 from rfl, Nat.and_two_pow_sub_one_eq_mod]
  refine congrArg (fun z => some ([vi (nI z)], h)) ?_
  clear e1
  have hq : ∀ q0 q1 q2 q3 : Nat, q0 ≤ 8 → q1 ≤ 8 → q2 ≤ 8 → q3 ≤ 8 → (q0 + 256 * (q1 + 256 * (q2 + 256 * q3)) + (q0 + 256 * (q1 + 256 * (q2 + 256 * q3))) / 2 ^ 8 + (q0 + 256 * (q1 + 256 * (q2 + 256 * q3)) + (q0 + 256 * (q1 + 256 * (q2 + 256 * q3))) / 2 ^ 8) / 2 ^ 16) % 2 ^ 6 = q0 + q1 + q2 + q3 := by
    intro q0 q1 q2 q3 h0 h1 h2 h3
    have k1 : (q0 + 256 * (q1 + 256 * (q2 + 256 * q3))) / 2 ^ 8 = q1 + 256 * (q2 + 256 * q3) := by omega
    rw [k1]
    have k2 : (q0 + 256 * (q1 + 256 * (q2 + 256 * q3)) + (q1 + 256 * (q2 + 256 * q3))) / 2 ^ 16 = q2 + q3 + 256 * q3 := by omega
    rw [k2]
    omega
  rw [hq _ _ _ _ (by omega) (by omega) (by omega) (by omega)]
  omega
