/-! ===== layer 2: what both sides hold ===== -/
/-- a net: posts, roads, turned, first and second ends, prices, strengths -/
abbrev jb_N : Type := Nat × Nat × Bool × (Nat → Nat) × (Nat → Nat) × (Nat → Nat) × (Nat → Nat)
abbrev jb_p (N : jb_N) : Nat := N.1
abbrev jb_n (N : jb_N) : Nat := N.2.1
abbrev jb_t (N : jb_N) : Bool := N.2.2.1
abbrev jb_f (N : jb_N) : Nat → Nat := N.2.2.2.1
abbrev jb_s (N : jb_N) : Nat → Nat := N.2.2.2.2.1
abbrev jb_c (N : jb_N) : Nat → Nat := N.2.2.2.2.2.1
abbrev jb_g (N : jb_N) : Nat → Nat := N.2.2.2.2.2.2
def jb_wf (N : jb_N) : Prop := jb_p N ≤ 8 ∧ jb_n N ≤ 20 ∧ ∀ r, r < jb_n N → jb_f N r < jb_p N ∧ jb_s N r < jb_p N ∧ jb_f N r ≠ jb_s N r ∧ jb_c N r ≤ 1000 ∧ jb_g N r ≤ 8
/-- the class's net number i -/
def jb_X (h : jx_H) (i : Nat) (N : jb_N) : Prop := h.1 1 i 0 = nI (jb_p N) ∧ h.1 1 i 1 = nI (jb_n N) ∧ h.1 1 i 2 = jn_b (jb_t N) ∧ ∀ r, r < jb_n N → h.1 2 i r = nI (jb_f N r) ∧ h.1 3 i r = nI (jb_s N r) ∧ h.1 4 i r = nI (jb_c N r) ∧ h.1 5 i r = nI (jb_g N r)
/-- the reference's net -/
def jb_M (h : jx_H) (N : jb_N) : Prop := h.1 30 0 0 = nI (jb_p N) ∧ h.1 30 0 1 = nI (jb_n N) ∧ h.1 30 0 2 = jn_b (jb_t N) ∧ ∀ r, r < jb_n N → h.1 33 0 r = nI (jb_f N r) ∧ h.1 34 0 r = nI (jb_s N r) ∧ h.1 35 0 r = nI (jb_c N r) ∧ h.1 36 0 r = nI (jb_g N r)
/-- a net that the reference has saved in array c from place a on -/
def jb_S (h : jx_H) (c a : Nat) (N : jb_N) : Prop := h.1 c 0 a = nI (jb_p N) ∧ h.1 c 0 (a + 1) = nI (jb_n N) ∧ h.1 c 0 (a + 2) = jn_b (jb_t N) ∧ ∀ r, r < jb_n N → h.1 c 0 (a + 4 + 4 * r) = nI (jb_f N r) ∧ h.1 c 0 (a + 4 + 4 * r + 1) = nI (jb_s N r) ∧ h.1 c 0 (a + 4 + 4 * r + 2) = nI (jb_c N r) ∧ h.1 c 0 (a + 4 + 4 * r + 3) = nI (jb_g N r)
def jb_net (hx hm : jx_H) : Prop := ∃ N, jb_wf N ∧ jb_X hx 0 N ∧ jb_M hm N
/-- the ring of the class: its j-th latest lies at 1 + (x + 29 - j) % 30 -/
def jb_past (hx hm : jx_H) : Prop := ∃ x k : Nat, x < 30 ∧ k ≤ 30 ∧ hx.1 6 0 1 = nI x ∧ hx.1 6 0 2 = nI k ∧ hm.1 30 0 7 = nI k ∧ ∀ j, j < k → ∃ N, jb_wf N ∧ jb_X hx (1 + (x + 29 - j) % 30) N ∧ jb_S hm 38 (84 * (k - 1 - j)) N
def jb_slot (hx hm : jx_H) (j : Nat) : Prop := (hx.1 9 0 j = -1 ∧ hm.1 40 0 j = -1) ∨ ∃ q N, q < 4 ∧ hx.1 9 0 j = nI q ∧ hm.1 40 0 j = nI q ∧ jb_wf N ∧ jb_X hx (31 + j) N ∧ jb_S hm 39 (84 * j) N
/-- numbers of sheets: the same, or no post on either side -/
def jb_same (x y : Int32) : Prop := x = y ∨ ((x < 0 ∨ 8 ≤ x) ∧ (y < 0 ∨ 8 ≤ y))
def jb_sheet (hx hm : jx_H) (j : Nat) : Prop := ∃ z : Nat, z ≤ 24 ∧ (hx.1 11 j 0 = 0 ∨ hx.1 11 j 0 = 8 ∨ hx.1 11 j 0 = 16 ∨ hx.1 11 j 0 = 32) ∧ hm.1 41 0 j = hx.1 11 j 0 ∧ hx.1 11 j 1 = nI z ∧ hm.1 42 0 j = nI z ∧ ∀ i, i < z → jb_same (hx.1 12 j i) (hm.1 43 0 (24 * j + i))
def jb_wait (hx hm : jx_H) : Prop := ∃ k : Nat, k ≤ 60 ∧ hx.1 0 0 6 = nI k ∧ hm.1 30 0 14 = nI k ∧ ∀ i, i < k → hx.1 13 0 i = hm.1 45 0 i
def jb_zero (hx : jx_H) : Prop := hx.1 15 0 0 = 0 ∧ hx.1 16 0 0 = 0 ∧ hx.1 17 0 0 = 0 ∧ hx.1 18 0 0 = 0
def jb_Inv (hx hm : jx_H) : Prop := jb_net hx hm ∧ jb_past hx hm ∧ (∀ j, j < 4 → jb_slot hx hm j) ∧ (∀ j, j < 4 → jb_sheet hx hm j) ∧ jb_wait hx hm ∧ hx.1 0 0 7 = hm.1 30 0 16 ∧ jb_zero hx
theorem jb_inv0 : jb_Inv jl_h0 jl_h0 := by
  refine ⟨⟨(0, 0, false, fun _ => 0, fun _ => 0, fun _ => 0, fun _ => 0), ⟨by decide, by decide, fun r hr => absurd hr (Nat.not_lt_zero r)⟩, ⟨rfl, rfl, rfl, fun r hr => absurd hr (Nat.not_lt_zero r)⟩, rfl, rfl, rfl, fun r hr => absurd hr (Nat.not_lt_zero r)⟩, ⟨0, 0, by decide, by decide, rfl, rfl, rfl, fun j hj => absurd hj (Nat.not_lt_zero j)⟩, fun j hj => Or.inl ?_, fun j hj => ⟨0, by decide, Or.inl rfl, rfl, rfl, rfl, fun i hi => absurd hi (Nat.not_lt_zero i)⟩, ⟨0, by decide, rfl, rfl, fun i hi => absurd hi (Nat.not_lt_zero i)⟩, rfl, rfl, rfl, rfl, rfl⟩
  have e : jc_m1 4 j = -1 := if_pos hj
  exact ⟨e, e⟩
/-- kinds that only hold scratch: nothing of them is asked later, but place 0 of the plan's rows -/
def jb_sx (c : Nat) : Prop := c = 14 ∨ c = 15 ∨ c = 16 ∨ c = 17 ∨ c = 18 ∨ c = 20 ∨ c = 21 ∨ c = 22 ∨ c = 23 ∨ c = 24 ∨ c = 25 ∨ c = 26 ∨ c = 27
def jb_SX (h h' : jx_H) : Prop := (∀ c, ¬ jb_sx c → h'.1 c = h.1 c) ∧ (jb_zero h → jb_zero h')
theorem jb_SX.rf {h : jx_H} : jb_SX h h := ⟨fun _ _ => rfl, fun z => z⟩
theorem jb_SX.tr {h h1 h2 : jx_H} (a : jb_SX h h1) (b : jb_SX h1 h2) : jb_SX h h2 := ⟨fun c hc => (b.1 c hc).trans (a.1 c hc), fun z => b.2 (a.2 z)⟩
def jb_sm (c : Nat) : Prop := c = 47 ∨ c = 48 ∨ c = 49 ∨ c = 50 ∨ c = 51 ∨ c = 52 ∨ c = 53
/-- the reference's scratch: those rows, and places from 20 on of the ends -/
def jb_SM (h h' : jx_H) : Prop := (∀ c, ¬ jb_sm c → c ≠ 33 → c ≠ 34 → h'.1 c = h.1 c) ∧ ∀ r, r < 20 → h'.1 33 0 r = h.1 33 0 r ∧ h'.1 34 0 r = h.1 34 0 r
theorem jb_SM.rf {h : jx_H} : jb_SM h h := ⟨fun _ _ _ _ => rfl, fun _ _ => ⟨rfl, rfl⟩⟩
theorem jb_SM.tr {h h1 h2 : jx_H} (a : jb_SM h h1) (b : jb_SM h1 h2) : jb_SM h h2 := ⟨fun c x y z => (b.1 c x y z).trans (a.1 c x y z), fun r hr => ⟨((b.2 r hr).1).trans (a.2 r hr).1, ((b.2 r hr).2).trans (a.2 r hr).2⟩⟩
theorem jb_X.kept {h h' : jx_H} {i : Nat} {N : jb_N} (a : jb_X h i N) (e : ∀ c, 1 ≤ c → c ≤ 5 → h'.1 c i = h.1 c i) : jb_X h' i N := by
  unfold jb_X at *
  rw [e 1 (by decide) (by decide), e 2 (by decide) (by decide), e 3 (by decide) (by decide), e 4 (by decide) (by decide), e 5 (by decide) (by decide)]
  exact a
theorem jb_S.kept {h h' : jx_H} {c a : Nat} {N : jb_N} (s : jb_S h c a N) (hn : jb_n N ≤ 20) (e : ∀ q, a ≤ q → q < a + 84 → h'.1 c 0 q = h.1 c 0 q) : jb_S h' c a N := by
  obtain ⟨s1, s2, s3, s4⟩ := s
  refine ⟨(e a (by omega) (by omega)).trans s1, (e _ (by omega) (by omega)).trans s2, (e _ (by omega) (by omega)).trans s3, fun r hr => ?_⟩
  obtain ⟨t1, t2, t3, t4⟩ := s4 r hr
  exact ⟨(e _ (by omega) (by omega)).trans t1, (e _ (by omega) (by omega)).trans t2, (e _ (by omega) (by omega)).trans t3, (e _ (by omega) (by omega)).trans t4⟩
theorem jb_M.kept {h h' : jx_H} {N : jb_N} (m : jb_M h N) (hn : jb_n N ≤ 20) (e : jb_SM h h') : jb_M h' N := by
  obtain ⟨s1, s2, s3, s4⟩ := m
  have e30 := e.1 30 (by unfold jb_sm; omega) (by decide) (by decide)
  have e35 := e.1 35 (by unfold jb_sm; omega) (by decide) (by decide)
  have e36 := e.1 36 (by unfold jb_sm; omega) (by decide) (by decide)
  refine ⟨by rw [e30]; exact s1, by rw [e30]; exact s2, by rw [e30]; exact s3, fun r hr => ?_⟩
  obtain ⟨t1, t2, t3, t4⟩ := s4 r hr
  obtain ⟨u1, u2⟩ := e.2 r (by omega)
  exact ⟨u1.trans t1, u2.trans t2, by rw [e35]; exact t3, by rw [e36]; exact t4⟩
/-- scratch may change -/
theorem jb_Inv.sx {hx hx' hm hm' : jx_H} (I : jb_Inv hx hm) (a : jb_SX hx hx') (b : jb_SM hm hm') : jb_Inv hx' hm' := by
  obtain ⟨⟨N, w, x, m⟩, ⟨k1, k2, p1, p2, p3, p4, p5, p6⟩, sl, sh, ⟨k, w1, w2, w3, w4⟩, fd, z⟩ := I
  have ax : ∀ c, ¬ jb_sx c → hx'.1 c = hx.1 c := a.1
  have bm : ∀ c, ¬ jb_sm c → c ≠ 33 → c ≠ 34 → hm'.1 c = hm.1 c := b.1
  have x5 : ∀ i c, 1 ≤ c → c ≤ 5 → hx'.1 c i = hx.1 c i := fun i c h1 h2 => by rw [ax c (by unfold jb_sx; omega)]
  have e0 := ax 0 (by unfold jb_sx; omega)
  have e6 := ax 6 (by unfold jb_sx; omega)
  have e9 := ax 9 (by unfold jb_sx; omega)
  have e11 := ax 11 (by unfold jb_sx; omega)
  have e12 := ax 12 (by unfold jb_sx; omega)
  have e13 := ax 13 (by unfold jb_sx; omega)
  have f30 := bm 30 (by unfold jb_sm; omega) (by decide) (by decide)
  have f38 := bm 38 (by unfold jb_sm; omega) (by decide) (by decide)
  have f39 := bm 39 (by unfold jb_sm; omega) (by decide) (by decide)
  have f40 := bm 40 (by unfold jb_sm; omega) (by decide) (by decide)
  have f41 := bm 41 (by unfold jb_sm; omega) (by decide) (by decide)
  have f42 := bm 42 (by unfold jb_sm; omega) (by decide) (by decide)
  have f43 := bm 43 (by unfold jb_sm; omega) (by decide) (by decide)
  have f45 := bm 45 (by unfold jb_sm; omega) (by decide) (by decide)
  refine ⟨⟨N, w, x.kept (x5 0), m.kept w.2.1 b⟩, ⟨k1, k2, p1, p2, by rw [e6]; exact p3, by rw [e6]; exact p4, by rw [f30]; exact p5, fun j hj => ?_⟩, fun j hj => ?_, fun j hj => ?_, ⟨k, w1, by rw [e0]; exact w2, by rw [f30]; exact w3, fun i hi => by rw [e13, f45]; exact w4 i hi⟩, by rw [e0, f30]; exact fd, a.2 z⟩
  · obtain ⟨N', q1, q2, q3⟩ := p6 j hj
    exact ⟨N', q1, q2.kept (x5 _), q3.kept q1.2.1 (fun q _ _ => by rw [f38])⟩
  · rcases sl j hj with ⟨s1, s2⟩ | ⟨q, N', s1, s2, s3, s4, s5, s6⟩
    · exact Or.inl ⟨by rw [e9]; exact s1, by rw [f40]; exact s2⟩
    · exact Or.inr ⟨q, N', s1, by rw [e9]; exact s2, by rw [f40]; exact s3, s4, s5.kept (x5 _), s6.kept s4.2.1 (fun q _ _ => by rw [f39])⟩
  · obtain ⟨z', t1, t2, t3, t4, t5, t6⟩ := sh j hj
    refine ⟨z', t1, by rw [e11]; exact t2, by rw [f41, e11]; exact t3, by rw [e11]; exact t4, by rw [f42]; exact t5, fun i hi => by rw [e12, f43]; exact t6 i hi⟩
