/-! ===== layer 2: trees inside a set of posts ===== -/
/-- C does not part the roads of E inside S -/
def jr_K (N : jb_N) (S E : Nat → Bool) (C : Nat → Prop) : Prop := ∀ r, r < jb_n N → E r = true → S (jb_f N r) = true → S (jb_s N r) = true → (C (jb_f N r) ↔ C (jb_s N r))
/-- E joins S -/
def jr_J (N : jb_N) (S E : Nat → Bool) : Prop := ∀ a b, S a = true → S b = true → ∀ C : Nat → Prop, C a → jr_K N S E C → C b
def jr_wo (S : Nat → Bool) (B : Nat → Bool) (x : Nat) : Bool := S x && !B x
theorem jr_wo_t {S B : Nat → Bool} {x : Nat} : jr_wo S B x = true ↔ S x = true ∧ B x = false := by
  unfold jr_wo
  cases S x <;> cases B x <;> decide
/-- no road of E between B and the rest of S, but to a -/
def jr_nx (N : jb_N) (S E B : Nat → Bool) (a : Nat) : Prop := ∀ r, r < jb_n N → E r = true → (B (jb_f N r) = true → S (jb_s N r) = true → B (jb_s N r) = false → jb_s N r = a) ∧ (B (jb_s N r) = true → S (jb_f N r) = true → B (jb_f N r) = false → jb_f N r = a)
/-- a road of E between B and a -/
def jr_br (N : jb_N) (E B : Nat → Bool) (a : Nat) : Prop := ∃ r, r < jb_n N ∧ E r = true ∧ ((B (jb_f N r) = true ∧ jb_s N r = a) ∨ (B (jb_s N r) = true ∧ jb_f N r = a))
section
variable {N : jb_N} {S E : Nat → Bool} {a b : Nat}
theorem jr_dec (ha : S a = true) (hb : S b = true) (hab : a ≠ b) (J : jr_J N S E) : ∃ B : Nat → Bool, B b = true ∧ B a = false ∧ (∀ x, B x = true → S x = true) ∧ jr_J N B E ∧ jr_J N (jr_wo S B) E ∧ jr_nx N S E B a ∧ jr_br N E B a := by
  let S' : Nat → Bool := fun x => S x && decide (x ≠ a)
  have s' : ∀ {x}, S' x = true ↔ S x = true ∧ x ≠ a := fun {x} => by
    show (S x && decide (x ≠ a)) = true ↔ _
    rw [Bool.and_eq_true, decide_eq_true_eq]
  let rc : Nat → Prop := fun x => S' x = true ∧ ∀ C : Nat → Prop, C b → jr_K N S' E C → C x
  let B : Nat → Bool := fun x => @decide (rc x) (Classical.propDecidable _)
  have bt : ∀ {x}, B x = true ↔ rc x := fun {x} => @decide_eq_true_iff _ (Classical.propDecidable _)
  have bs : ∀ {x}, B x = true → S' x = true := fun h => (bt.1 h).1
  have bb : B b = true := bt.2 ⟨s'.2 ⟨hb, Ne.symm hab⟩, fun C h _ => h⟩
  have ba : B a = false := by
    cases c : B a with
    | false => rfl
    | true => exact absurd rfl (s'.1 (bs c)).2
  have bK : jr_K N S' E (fun x => B x = true) := fun r hr he h1 h2 => by
    constructor
    · intro h
      exact bt.2 ⟨h2, fun C c1 c2 => (c2 r hr he h1 h2).1 ((bt.1 h).2 C c1 c2)⟩
    · intro h
      exact bt.2 ⟨h1, fun C c1 c2 => (c2 r hr he h1 h2).2 ((bt.1 h).2 C c1 c2)⟩
  have nx : jr_nx N S E B a := fun r hr he => by
    constructor
    · intro h1 h2 h3
      apply Classical.byContradiction
      intro c
      have : B (jb_s N r) = true := (bK r hr he (bs h1) (s'.2 ⟨h2, c⟩)).1 h1
      rw [h3] at this
      cases this
    · intro h1 h2 h3
      apply Classical.byContradiction
      intro c
      have : B (jb_f N r) = true := (bK r hr he (s'.2 ⟨h2, c⟩) (bs h1)).2 h1
      rw [h3] at this
      cases this
  refine ⟨B, bb, ba, fun x hx => (s'.1 (bs hx)).1, ?_, ?_, nx, ?_⟩
  · intro x y hx hy C cx ck
    have cb : C b := by
      apply Classical.byContradiction
      intro nb
      have := (bt.1 hx).2 (fun z => B z = true ∧ ¬ C z) ⟨bb, nb⟩ (fun r hr he h1 h2 => by
        have k := bK r hr he h1 h2
        constructor
        · intro h
          exact ⟨k.1 h.1, fun c => h.2 ((ck r hr he h.1 (k.1 h.1)).2 c)⟩
        · intro h
          exact ⟨k.2 h.1, fun c => h.2 ((ck r hr he (k.2 h.1) h.1).1 c)⟩)
      exact this.2 cx
    exact ((bt.1 hy).2 (fun z => B z = true ∧ C z) ⟨bb, cb⟩ (fun r hr he h1 h2 => by
      have k := bK r hr he h1 h2
      constructor
      · intro h
        exact ⟨k.1 h.1, (ck r hr he h.1 (k.1 h.1)).1 h.2⟩
      · intro h
        exact ⟨k.2 h.1, (ck r hr he (k.2 h.1) h.1).2 h.2⟩)).2
  · intro x y hx hy C cx ck
    have hx := jr_wo_t.1 hx
    have hy := jr_wo_t.1 hy
    have nt : ∀ {z}, B z = false → ¬ B z = true := fun h c => by rw [h] at c; cases c
    have := J x y hx.1 hy.1 (fun z => (B z = true → C a) ∧ (B z = false → C z)) ⟨fun c => absurd c (nt hx.2), fun _ => cx⟩ (fun r hr he h1 h2 => by
      have k := nx r hr he
      show ((B (jb_f N r) = true → C a) ∧ (B (jb_f N r) = false → C (jb_f N r))) ↔ ((B (jb_s N r) = true → C a) ∧ (B (jb_s N r) = false → C (jb_s N r)))
      cases c1 : B (jb_f N r) with
      | true =>
        cases c2 : B (jb_s N r) with
        | true => exact ⟨fun h => ⟨fun _ => h.1 rfl, fun c => absurd c (by decide)⟩, fun h => ⟨fun _ => h.1 rfl, fun c => absurd c (by decide)⟩⟩
        | false =>
          have e := k.1 c1 h2 c2
          rw [e]
          exact ⟨fun h => ⟨fun c => absurd c (by decide), fun _ => h.1 rfl⟩, fun h => ⟨fun _ => h.2 rfl, fun c => absurd c (by decide)⟩⟩
      | false =>
        cases c2 : B (jb_s N r) with
        | true =>
          have e := k.2 c2 h1 c1
          rw [e]
          exact ⟨fun h => ⟨fun _ => h.2 rfl, fun c => absurd c (by decide)⟩, fun h => ⟨fun c => absurd c (by decide), fun _ => h.1 rfl⟩⟩
        | false =>
          have e := ck r hr he (jr_wo_t.2 ⟨h1, c1⟩) (jr_wo_t.2 ⟨h2, c2⟩)
          exact ⟨fun h => ⟨fun c => absurd c (by decide), fun _ => e.1 (h.2 rfl)⟩, fun h => ⟨fun c => absurd c (by decide), fun _ => e.2 (h.2 rfl)⟩⟩)
    exact this.2 hy.2
  · apply Classical.byContradiction
    intro no
    have : B a = true := J b a hb ha (fun z => B z = true) bb (fun r hr he h1 h2 => by
      have k := nx r hr he
      constructor
      · intro h
        cases c : B (jb_s N r) with
        | true => exact c
        | false => exact absurd ⟨r, hr, he, Or.inl ⟨h, k.1 h h2 c⟩⟩ no
      · intro h
        cases c : B (jb_f N r) with
        | true => exact c
        | false => exact absurd ⟨r, hr, he, Or.inr ⟨h, k.2 h h1 c⟩⟩ no)
    rw [ba] at this
    cases this
theorem jr_con {B : Nat → Bool} (ha : S a = true) (ba : B a = false) (bS : ∀ x, B x = true → S x = true) (j1 : jr_J N B E) (j2 : jr_J N (jr_wo S B) E) (br : jr_br N E B a) : jr_J N S E := by
  intro x y hx hy C cx ck
  have k1 : jr_K N B E C := fun r hr he h1 h2 => ck r hr he (bS _ h1) (bS _ h2)
  have k2 : jr_K N (jr_wo S B) E C := fun r hr he h1 h2 => ck r hr he (jr_wo_t.1 h1).1 (jr_wo_t.1 h2).1
  have wa : jr_wo S B a = true := jr_wo_t.2 ⟨ha, ba⟩
  obtain ⟨r, hr, he, h⟩ := br
  obtain ⟨q, hq, e⟩ : ∃ q, B q = true ∧ (C q ↔ C a) := by
    rcases h with ⟨h1, h2⟩ | ⟨h1, h2⟩
    · exact ⟨_, h1, h2 ▸ ck r hr he (bS _ h1) (by rw [h2]; exact ha)⟩
    · exact ⟨_, h1, h2 ▸ (ck r hr he (by rw [h2]; exact ha) (bS _ h1)).symm⟩
  have ca : C a := by
    cases c : B x with
    | true => exact e.1 (j1 x q c hq C cx k1)
    | false => exact j2 x a (jr_wo_t.2 ⟨hx, c⟩) wa C cx k2
  cases c : B y with
  | true => exact j1 q y hq c C (e.2 ca) k1
  | false => exact j2 a y wa (jr_wo_t.2 ⟨hy, c⟩) C ca k2
theorem jr_uni1 {B B' : Nat → Bool} (bb : B b = true) (bb' : B' b = true) (ba : B a = false) (bS : ∀ x, B x = true → S x = true) (j1 : jr_J N B E) (nx : jr_nx N S E B' a) {x : Nat} (hx : B x = true) : B' x = true := by
  refine j1 b x bb hx (fun z => B' z = true) bb' (fun r hr he h1 h2 => ?_)
  have k := nx r hr he
  constructor
  · intro h
    cases c : B' (jb_s N r) with
    | true => exact c
    | false =>
      have e := k.1 h (bS _ h2) c
      rw [e, ba] at h2
      cases h2
  · intro h
    cases c : B' (jb_f N r) with
    | true => exact c
    | false =>
      have e := k.2 h (bS _ h1) c
      rw [e, ba] at h1
      cases h1
end
