/-! ===== layer 2: small methods ===== -/
def jn_b (b : Bool) : Int32 := if b = true then 1 else 0
theorem jn_b01 (b : Bool) : jn_b b = 0 ∨ jn_b b = 1 := by cases b <;> simp [jn_b]
theorem jn_b_0 {b : Bool} : jn_b b = 0 ↔ b = false := by cases b <;> simp [jn_b]
theorem jn_b_1 {b : Bool} : jn_b b = 1 ↔ b = true := by cases b <;> simp [jn_b]
theorem jn_b_inj {a b : Bool} : jn_b a = jn_b b ↔ a = b := by cases a <;> cases b <;> simp [jn_b]
theorem jn_bit {s k : Nat} (hs : s < 2 ^ 31) (hk : k < 32) : (nI s >>> (nI k &&& 31)) &&& 1 = jn_b (s.testBit k) := by
  rw [jn_shr hs hk, show (1 : Int32) = nI 1 from rfl, jn_and, show (1 : Nat) = 2 ^ 1 - 1 from rfl, Nat.and_two_pow_sub_one_eq_mod]
  unfold jn_b
  rw [Nat.testBit_eq_decide_div_mod_eq]
  have h2 : s / 2 ^ k % 2 < 2 := Nat.mod_lt _ (by decide)
  rcases (show s / 2 ^ k % 2 = 0 ∨ s / 2 ^ k % 2 = 1 by omega) with h | h
  · simp [h]
    rfl
  · simp [h]
    rfl
theorem jn_any (x k : Int32) : ∃ b : Bool, (x >>> (k &&& 31)) &&& 1 = jn_b b := by
  obtain ⟨j, hj, e⟩ := pk_andE (x >>> (k &&& 31)) (m := 1) 1 (by decide)
  rcases (show j = 0 ∨ j = 1 by omega) with rfl | rfl
  · exact ⟨false, by rw [e]; rfl⟩
  · exact ⟨true, by rw [e]; rfl⟩
theorem dm_has {d : Nat} {x k : Int32} {b : Bool} (e : (x >>> (k &&& 31)) &&& 1 = jn_b b) (h : jx_H) : DM (d + 1) 19 [vi x, vi k] h = some ([vi (jn_b b)], h) := by
  rw [d19, e19_0, e]
  cases b with
  | true => rw [jx_ifn (by simp [jn_b]), e19_13, jx_ifp (by simp)]; rfl
  | false => rw [jx_ifp (by simp [jn_b]), e19_13, jx_ifp (by simp)]; rfl
theorem dm_in {d : Nat} {x k : Int32} {b : Bool} (e : (x >>> (k &&& 31)) &&& 1 = jn_b b) (h : jx_H) : DM (d + 1) 136 [vi x, vi k] h = some ([vi (jn_b b)], h) := by
  rw [d136, e136_0, e]
  cases b with
  | true => rw [jx_ifp (by simp [jn_b]), e136_14, jx_ifp (by simp)]; rfl
  | false => rw [jx_ifn (by simp [jn_b]), e136_14, jx_ifp (by simp)]; rfl
theorem dm_hasN {d s k : Nat} (hs : s < 2 ^ 31) (hk : k < 32) (h : jx_H) : DM (d + 1) 19 [vi (nI s), vi (nI k)] h = some ([vi (jn_b (s.testBit k))], h) := dm_has (jn_bit hs hk) h
theorem dm_inN {d s k : Nat} (hs : s < 2 ^ 31) (hk : k < 32) (h : jx_H) : DM (d + 1) 136 [vi (nI s), vi (nI k)] h = some ([vi (jn_b (s.testBit k))], h) := dm_in (jn_bit hs hk) h
theorem jn_first {n : Nat} (hn : n < 31) : ((1 : Int32) <<< (nI n &&& 31)) - 1 = nI (2 ^ n - 1) := by
  rw [jn_shl1 n hn, show (1 : Int32) = nI 1 from rfl, pk_sub (Nat.one_le_two_pow)]
theorem dm_first {d n : Nat} (hn : n < 31) (h : jx_H) : DM (d + 1) 17 [vi (nI n)] h = some ([vi (nI (2 ^ n - 1))], h) := by
  rw [d17, e17_0, jn_first hn]
theorem dm_all {d n : Nat} (hn : n < 31) {h : jx_H} (hp : h.1 30 0 0 = nI n) : DM (d + 1) 135 [vr 30 0] h = some ([vi (nI (2 ^ n - 1))], h) := by
  rw [d135, e135_0, hp, jn_first hn]
theorem dm_allR {d n : Nat} (hn : n < 31) {h : jx_H} (hp : h.1 30 0 1 = nI n) : DM (d + 1) 137 [vr 30 0] h = some ([vi (nI (2 ^ n - 1))], h) := by
  rw [d137, e137_0, hp, jn_first hn]
