/-! ===== layer 2: how many roads a tree has ===== -/
def jr_iS (N : jb_N) (S : Nat → Bool) (r : Nat) : Bool := S (jb_f N r) && S (jb_s N r)
def jr_bx (N : jb_N) (B : Nat → Bool) (a r : Nat) : Bool := (B (jb_f N r) && decide (jb_s N r = a)) || (B (jb_s N r) && decide (jb_f N r = a))
def jr_cx (N : jb_N) (S B : Nat → Bool) (a r : Nat) : Bool := (B (jb_f N r) && (S (jb_s N r) && (!B (jb_s N r) && !decide (jb_s N r = a)))) || (B (jb_s N r) && (S (jb_f N r) && (!B (jb_f N r) && !decide (jb_f N r = a))))
def jr_k (N : jb_N) (E U : Nat → Bool) : Nat := jn_ct (fun r => E r && U r) (jb_n N)
theorem jr_b1 : ∀ x y u v z w : Bool, (x = true → u = true) → (y = true → v = true) → (z = true → u = true ∧ x = false) → (w = true → v = true ∧ y = false) → (u && v) = ((x && y) || (((u && !x) && (v && !y)) || (((x && w) || (y && z)) || ((x && (v && (!y && !w))) || (y && (u && (!x && !z))))))) := by decide
theorem jr_b2 : ∀ x y u v z w : Bool, (x = true → u = true) → (y = true → v = true) → (z = true → u = true ∧ x = false) → (w = true → v = true ∧ y = false) → ((x && y) = true → (((u && !x) && (v && !y)) || (((x && w) || (y && z)) || ((x && (v && (!y && !w))) || (y && (u && (!x && !z)))))) = false) ∧ (((u && !x) && (v && !y)) = true → (((x && w) || (y && z)) || ((x && (v && (!y && !w))) || (y && (u && (!x && !z))))) = false) ∧ (((x && w) || (y && z)) = true → ((x && (v && (!y && !w))) || (y && (u && (!x && !z)))) = false) := by decide
section
variable {N : jb_N} {S E B : Nat → Bool} {a b : Nat}
theorem jr_split (ha : S a = true) (ba : B a = false) (bS : ∀ x, B x = true → S x = true) (r : Nat) : jr_iS N S r = (jr_iS N B r || (jr_iS N (jr_wo S B) r || (jr_bx N B a r || jr_cx N S B a r))) := by
  refine jr_b1 (B (jb_f N r)) (B (jb_s N r)) (S (jb_f N r)) (S (jb_s N r)) (decide (jb_f N r = a)) (decide (jb_s N r = a)) (bS _) (bS _) (fun h => ?_) (fun h => ?_)
  · rw [of_decide_eq_true h]
    exact ⟨ha, ba⟩
  · rw [of_decide_eq_true h]
    exact ⟨ha, ba⟩
theorem jr_disj (ha : S a = true) (ba : B a = false) (bS : ∀ x, B x = true → S x = true) (r : Nat) : (jr_iS N B r = true → (jr_iS N (jr_wo S B) r || (jr_bx N B a r || jr_cx N S B a r)) = false) ∧ (jr_iS N (jr_wo S B) r = true → (jr_bx N B a r || jr_cx N S B a r) = false) ∧ (jr_bx N B a r = true → jr_cx N S B a r = false) := by
  refine jr_b2 (B (jb_f N r)) (B (jb_s N r)) (S (jb_f N r)) (S (jb_s N r)) (decide (jb_f N r = a)) (decide (jb_s N r = a)) (bS _) (bS _) (fun h => ?_) (fun h => ?_)
  · rw [of_decide_eq_true h]
    exact ⟨ha, ba⟩
  · rw [of_decide_eq_true h]
    exact ⟨ha, ba⟩
theorem jr_k_or {U V W : Nat → Bool} (e : ∀ r, W r = (U r || V r)) (hd : ∀ r, U r = true → V r = false) : jr_k N E W = jr_k N E U + jr_k N E V := jr_ct2 _ (fun r _ => by
  show (E r && W r) = _
  rw [e r]
  cases E r <;> rfl) (fun r _ hr => by
  rw [Bool.and_eq_true] at hr
  rw [hd r hr.2]
  cases E r <;> rfl)
theorem jr_k_split (ha : S a = true) (ba : B a = false) (bS : ∀ x, B x = true → S x = true) : jr_k N E (jr_iS N S) = jr_k N E (jr_iS N B) + (jr_k N E (jr_iS N (jr_wo S B)) + (jr_k N E (jr_bx N B a) + jr_k N E (jr_cx N S B a))) := by
  have dj := jr_disj (N := N) ha ba bS
  rw [jr_k_or (U := jr_iS N B) (V := fun r => jr_iS N (jr_wo S B) r || (jr_bx N B a r || jr_cx N S B a r)) (jr_split ha ba bS) (fun r => (dj r).1), jr_k_or (U := jr_iS N (jr_wo S B)) (V := fun r => jr_bx N B a r || jr_cx N S B a r) (fun r => rfl) (fun r => (dj r).2.1), jr_k_or (U := jr_bx N B a) (V := jr_cx N S B a) (fun r => rfl) (fun r => (dj r).2.2)]
theorem jr_size (bS : ∀ x, B x = true → S x = true) (p : Nat) : jn_ct S p = jn_ct B p + jn_ct (jr_wo S B) p := jr_ct2 _ (fun x _ => by
  unfold jr_wo
  cases c : B x with
  | true => rw [bS x c]; rfl
  | false => cases S x <;> rfl) (fun x _ hx => by
  unfold jr_wo
  rw [hx]
  cases S x <;> rfl)
theorem jr_br_k : jr_br N E B a ↔ 1 ≤ jr_k N E (jr_bx N B a) := by
  have q : 1 ≤ jr_k N E (jr_bx N B a) ↔ 0 < jn_ct (fun r => E r && jr_bx N B a r) (jb_n N) := Iff.rfl
  rw [q, jn_ct_pos]
  unfold jr_br jr_bx
  constructor
  · rintro ⟨r, h1, h2, h3⟩
    exact ⟨r, h1, by simpa [h2] using h3⟩
  · rintro ⟨r, h1, h2⟩
    rw [Bool.and_eq_true] at h2
    exact ⟨r, h1, h2.1, by simpa using h2.2⟩
theorem jr_nx_k : jr_nx N S E B a ↔ jr_k N E (jr_cx N S B a) = 0 := by
  constructor
  · intro h
    refine jn_ct_zero _ (fun r hr => ?_)
    cases he : E r with
    | false => rfl
    | true =>
      have k := h r hr he
      show (true && jr_cx N S B a r) = false
      rw [Bool.true_and]
      cases c : jr_cx N S B a r with
      | false => rfl
      | true =>
        exfalso
        unfold jr_cx at c
        simp only [Bool.or_eq_true, Bool.and_eq_true, Bool.not_eq_true', decide_eq_false_iff_not] at c
        rcases c with ⟨c1, c2, c3, c4⟩ | ⟨c1, c2, c3, c4⟩
        · exact c4 (k.1 c1 c2 c3)
        · exact c4 (k.2 c1 c2 c3)
  · intro h r hr he
    have z : jr_cx N S B a r = false := by
      cases c : jr_cx N S B a r with
      | false => rfl
      | true =>
        have : 0 < jn_ct (fun r => E r && jr_cx N S B a r) (jb_n N) := jn_ct_pos.2 ⟨r, hr, by rw [he, c]; rfl⟩
        have h' : jn_ct (fun r => E r && jr_cx N S B a r) (jb_n N) = 0 := h
        omega
    constructor
    · intro c1 c2 c3
      apply Classical.byContradiction
      intro c4
      unfold jr_cx at z
      simp [c1, c2, c3, c4] at z
    · intro c1 c2 c3
      apply Classical.byContradiction
      intro c4
      unfold jr_cx at z
      simp [c1, c2, c3, c4] at z
theorem jr_low {p : Nat} : ∀ k (S : Nat → Bool), jn_ct S p ≤ k → (∀ x, S x = true → x < p) → ∀ a, S a = true → jr_J N S E → jn_ct S p ≤ jr_k N E (jr_iS N S) + 1 := by
  intro k
  induction k with
  | zero => intro S h _ _ _ _; omega
  | succ k ih =>
    intro S h hS a ha J
    by_cases hb : ∃ b, S b = true ∧ a ≠ b
    · obtain ⟨b, hb, hab⟩ := hb
      obtain ⟨B, b1, b2, b3, b4, b5, b6, b7⟩ := jr_dec ha hb hab J
      have sz := jr_size b3 p
      have wa : jr_wo S B a = true := jr_wo_t.2 ⟨ha, b2⟩
      have p1 : 0 < jn_ct B p := jn_ct_pos.2 ⟨b, hS b hb, b1⟩
      have p2 : 0 < jn_ct (jr_wo S B) p := jn_ct_pos.2 ⟨a, hS a ha, wa⟩
      have i1 := ih B (by omega) (fun x hx => hS x (b3 x hx)) b b1 b4
      have i2 := ih (jr_wo S B) (by omega) (fun x hx => hS x (jr_wo_t.1 hx).1) a wa b5
      have sp := jr_k_split (N := N) (E := E) ha b2 b3
      have i3 := jr_br_k.1 b7
      omega
    · have : jn_ct S p = 1 := jn_ct_one (hS a ha) (fun i _ => ⟨fun h => by
        apply Classical.byContradiction
        intro c
        exact hb ⟨i, h, fun e => c e.symm⟩, fun e => by rw [e]; exact ha⟩)
      omega
/-- E, inside S, is a tree on S -/
def jr_T (N : jb_N) (S E : Nat → Bool) : Prop := jr_k N E (jr_iS N S) + 1 = jn_ct S (jb_p N) ∧ jr_J N S E
def jr_Q (N : jb_N) (S E B : Nat → Bool) (a : Nat) : Prop := jr_T N B E ∧ jr_T N (jr_wo S B) E ∧ jr_k N E (jr_bx N B a) = 1 ∧ jr_k N E (jr_cx N S B a) = 0
theorem jr_T_to (hS : ∀ x, S x = true → x < jb_p N) (ha : S a = true) (hb : S b = true) (hab : a ≠ b) (t : jr_T N S E) : ∃ B : Nat → Bool, B b = true ∧ B a = false ∧ (∀ x, B x = true → S x = true) ∧ jr_Q N S E B a := by
  obtain ⟨B, b1, b2, b3, b4, b5, b6, b7⟩ := jr_dec ha hb hab t.2
  have wa : jr_wo S B a = true := jr_wo_t.2 ⟨ha, b2⟩
  have sz := jr_size b3 (jb_p N)
  have i1 := jr_low (N := N) (E := E) (p := jb_p N) _ B (Nat.le_refl _) (fun x hx => hS x (b3 x hx)) b b1 b4
  have i2 := jr_low (N := N) (E := E) (p := jb_p N) _ (jr_wo S B) (Nat.le_refl _) (fun x hx => hS x (jr_wo_t.1 hx).1) a wa b5
  have i3 := jr_br_k.1 b7
  have i4 := jr_nx_k.1 b6
  have sp := jr_k_split (N := N) (E := E) ha b2 b3
  have t1 := t.1
  exact ⟨B, b1, b2, b3, ⟨by omega, b4⟩, ⟨by omega, b5⟩, by omega, i4⟩
theorem jr_T_of (ha : S a = true) (b2 : B a = false) (b3 : ∀ x, B x = true → S x = true) (q : jr_Q N S E B a) : jr_T N S E := by
  have sz := jr_size b3 (jb_p N)
  have sp := jr_k_split (N := N) (E := E) ha b2 b3
  obtain ⟨⟨q1, q2⟩, ⟨q3, q4⟩, q5, q6⟩ := q
  exact ⟨by omega, jr_con ha b2 b3 q2 q4 (jr_br_k.2 (by omega))⟩
theorem jr_Q_uni {B' : Nat → Bool} (bb : B b = true) (bb' : B' b = true) (ba : B a = false) (ba' : B' a = false) (bS : ∀ x, B x = true → S x = true) (bS' : ∀ x, B' x = true → S x = true) (q : jr_Q N S E B a) (q' : jr_Q N S E B' a) (x : Nat) : B x = B' x := by
  have n1 : jr_nx N S E B a := jr_nx_k.2 q.2.2.2
  have n2 : jr_nx N S E B' a := jr_nx_k.2 q'.2.2.2
  have u1 := fun h => jr_uni1 bb bb' ba bS q.1.2 n2 (x := x) h
  have u2 := fun h => jr_uni1 bb' bb ba' bS' q'.1.2 n1 (x := x) h
  cases c : B x with
  | true => exact (u1 c).symm
  | false =>
    cases c' : B' x with
    | false => rfl
    | true =>
      rw [u2 c'] at c
      cases c
end
