/-! ===== layer 2: how a block is stepped ===== -/
theorem jx_bI_s (y : Int32) (h : jx_H) (f : Int32 → jx_H → Option jx_R) : jx_bI (some ([vi y], h)) f = f y h := rfl
theorem jx_bL_s (y : Int64) (h : jx_H) (f : Int64 → jx_H → Option jx_R) : jx_bL (some ([vl y], h)) f = f y h := rfl
theorem jx_bV_s (h : jx_H) (f : jx_H → Option jx_R) : jx_bV (some ([], h)) f = f h := rfl
theorem jx_if_t {a b : Option jx_R} : jx_if True a b = a := jx_ifp trivial
theorem jx_if_f {a b : Option jx_R} : jx_if False a b = b := jx_ifn (fun h => h)
theorem jx_if_b (c : Bool) {a b : Option jx_R} : jx_if (jn_b c = 0) a b = bif c then b else a := by
  cases c
  · exact jx_ifp rfl
  · exact jx_ifn (by decide)
theorem jx_if_01 (c : Bool) {a b : Option jx_R} : jx_if (jn_b c = 0 ∨ jn_b c = 1) a b = a := jx_ifp (jn_b01 c)
theorem jx_if_in {j n : Nat} (h : j < n) (hn : n < 2 ^ 31) {a b : Option jx_R} : jx_if (jx_in (nI j) n) a b = a := jx_ifp (jn_in h hn)
theorem jx_if_lt {x y : Nat} (h : x < y) (hy : y < 2 ^ 31) {a b : Option jx_R} : jx_if (nI x < nI y) a b = a := jx_ifp (nI_lt h hy)
theorem jx_if_nlt {x y : Nat} (h : y ≤ x) (hx : x < 2 ^ 31) {a b : Option jx_R} : jx_if (nI x < nI y) a b = b := jx_ifn (nI_nlt h hx)
theorem jx_if_le {x y : Nat} (h : x ≤ y) (hy : y < 2 ^ 31) {a b : Option jx_R} : jx_if (nI x ≤ nI y) a b = a := jx_ifp (nI_le h hy)
theorem jx_if_nle {x y : Nat} (h : y < x) (hx : x < 2 ^ 31) {a b : Option jx_R} : jx_if (nI x ≤ nI y) a b = b := jx_ifn (nI_ge h hx)
theorem jn_loop {α : Type} (G : Nat → α) {a b : Nat} (hab : a ≤ b) (st : ∀ i, a ≤ i → i < b → G i = G (i + 1)) : G a = G b := by
  obtain ⟨k, rfl⟩ := Nat.le.dest hab
  clear hab
  induction k with
  | zero => rfl
  | succ k ih => exact (ih (fun i h1 h2 => st i h1 (by omega))).trans (st (a + k) (by omega) (by omega))
theorem jx_s1 (h : jx_H) (c i p : Nat) (v : Int32) (a b q : Nat) : (jx_sI h c i p v).1 a b q = if a = c ∧ b = i ∧ q = p then v else h.1 a b q := rfl
theorem jx_s2 (h : jx_H) (c i p : Nat) (v : Int32) : (jx_sI h c i p v).2 = h.2 := rfl
theorem jx_sk {h : jx_H} {c i p : Nat} {v : Int32} {a : Nat} (e : a ≠ c) : (jx_sI h c i p v).1 a = h.1 a := by
  funext b q
  exact if_neg (fun x => e x.1)
theorem jx_si {h : jx_H} {c i p : Nat} {v : Int32} {a b : Nat} (e : b ≠ i) : (jx_sI h c i p v).1 a b = h.1 a b := by
  funext q
  exact if_neg (fun x => e x.2.1)
theorem jx_ss {h : jx_H} {c i p : Nat} {v : Int32} : (jx_sI h c i p v).1 c i p = v := if_pos ⟨rfl, rfl, rfl⟩
theorem jx_sp {h : jx_H} {c i p : Nat} {v : Int32} {a b q : Nat} (e : q ≠ p) : (jx_sI h c i p v).1 a b q = h.1 a b q := if_neg (fun x => e x.2.2)
/-- pieces of the invariant are kept when what they look at is kept -/
def jb_kx (h h' : jx_H) (i : Nat) : Prop := ∀ c, 1 ≤ c → c ≤ 5 → h'.1 c i = h.1 c i
theorem jb_net.kept {hx hx' hm hm' : jx_H} (n : jb_net hx hm) (a : jb_kx hx hx' 0) (b : ∀ q, q < 3 → hm'.1 30 0 q = hm.1 30 0 q) (c : ∀ c, 33 ≤ c → c ≤ 36 → hm'.1 c 0 = hm.1 c 0) : jb_net hx' hm' := by
  obtain ⟨N, w, x, s1, s2, s3, s4⟩ := n
  refine ⟨N, w, x.kept a, (b 0 (by decide)).trans s1, (b 1 (by decide)).trans s2, (b 2 (by decide)).trans s3, ?_⟩
  rw [c 33 (by decide) (by decide), c 34 (by decide) (by decide), c 35 (by decide) (by decide), c 36 (by decide) (by decide)]
  exact s4
theorem jb_past.kept {hx hx' hm hm' : jx_H} (n : jb_past hx hm) (a : ∀ i, 1 ≤ i → i ≤ 30 → jb_kx hx hx' i) (b : hx'.1 6 = hx.1 6) (c : hm'.1 30 0 7 = hm.1 30 0 7) (d : hm'.1 38 = hm.1 38) : jb_past hx' hm' := by
  obtain ⟨k1, k2, p1, p2, p3, p4, p5, p6⟩ := n
  refine ⟨k1, k2, p1, p2, by rw [b]; exact p3, by rw [b]; exact p4, by rw [c]; exact p5, fun j hj => ?_⟩
  obtain ⟨N', q1, q2, q3⟩ := p6 j hj
  exact ⟨N', q1, q2.kept (a _ (by omega) (by omega)), q3.kept q1.2.1 (fun q _ _ => by rw [d])⟩
theorem jb_slot.kept {hx hx' hm hm' : jx_H} {j : Nat} (n : jb_slot hx hm j) (a : jb_kx hx hx' (31 + j)) (b : hx'.1 9 0 j = hx.1 9 0 j) (c : ∀ q, 84 * j ≤ q → q < 84 * j + 84 → hm'.1 39 0 q = hm.1 39 0 q) (d : hm'.1 40 0 j = hm.1 40 0 j) : jb_slot hx' hm' j := by
  rcases n with ⟨s1, s2⟩ | ⟨q, N', s1, s2, s3, s4, s5, s6⟩
  · exact Or.inl ⟨by rw [b]; exact s1, by rw [d]; exact s2⟩
  · exact Or.inr ⟨q, N', s1, by rw [b]; exact s2, by rw [d]; exact s3, s4, s5.kept a, s6.kept s4.2.1 c⟩
theorem jb_sheet.kept {hx hx' hm hm' : jx_H} {j : Nat} (n : jb_sheet hx hm j) (a : hx'.1 11 j = hx.1 11 j) (b : hx'.1 12 j = hx.1 12 j) (c : hm'.1 41 0 j = hm.1 41 0 j) (d : hm'.1 42 0 j = hm.1 42 0 j) (e : ∀ q, 24 * j ≤ q → q < 24 * j + 24 → hm'.1 43 0 q = hm.1 43 0 q) : jb_sheet hx' hm' j := by
  obtain ⟨z', t1, t2, t3, t4, t5, t6⟩ := n
  exact ⟨z', t1, by rw [a]; exact t2, by rw [c, a]; exact t3, by rw [a]; exact t4, by rw [d]; exact t5, fun i hi => by rw [b, e _ (by omega) (by omega)]; exact t6 i hi⟩
theorem jb_wait.kept {hx hx' hm hm' : jx_H} (n : jb_wait hx hm) (a : hx'.1 0 0 6 = hx.1 0 0 6) (b : hx'.1 13 = hx.1 13) (c : hm'.1 30 0 14 = hm.1 30 0 14) (d : hm'.1 45 = hm.1 45) : jb_wait hx' hm' := by
  obtain ⟨k, w1, w2, w3, w4⟩ := n
  exact ⟨k, w1, by rw [a]; exact w2, by rw [c]; exact w3, fun i hi => by rw [b, d]; exact w4 i hi⟩
theorem jb_zero.kept {hx hx' : jx_H} (n : jb_zero hx) (a : ∀ c, 15 ≤ c → c ≤ 18 → hx'.1 c = hx.1 c) : jb_zero hx' := by
  unfold jb_zero at *
  rw [a 15 (by decide) (by decide), a 16 (by decide) (by decide), a 17 (by decide) (by decide), a 18 (by decide) (by decide)]
  exact n
/-- a change of the net alone -/
theorem jb_Inv.net {hx hx' hm hm' : jx_H} (I : jb_Inv hx hm) (a : ∀ c i, ¬ (1 ≤ c ∧ c ≤ 5 ∧ i = 0) → hx'.1 c i = hx.1 c i) (b : ∀ q, 3 ≤ q → hm'.1 30 0 q = hm.1 30 0 q) (c : ∀ c, c ≠ 30 → ¬ (33 ≤ c ∧ c ≤ 36) → hm'.1 c = hm.1 c) (n : jb_net hx' hm') : jb_Inv hx' hm' := by
  obtain ⟨_, p, sl, sh, w, fd, z⟩ := I
  have a' : ∀ c, ¬ (1 ≤ c ∧ c ≤ 5) → hx'.1 c = hx.1 c := fun c hc => funext (fun i => a c i (fun x => hc ⟨x.1, x.2.1⟩))
  refine ⟨n, p.kept (fun i h1 _ c _ _ => a c i (by omega)) (a' 6 (by omega)) (b 7 (by omega)) (c 38 (by decide) (by omega)), fun j hj => (sl j hj).kept (fun c _ _ => a c _ (by omega)) (by rw [a' 9 (by omega)]) (fun q _ _ => by rw [c 39 (by decide) (by omega)]) (by rw [c 40 (by decide) (by omega)]), fun j hj => (sh j hj).kept (a _ _ (by omega)) (a _ _ (by omega)) (by rw [c 41 (by decide) (by omega)]) (by rw [c 42 (by decide) (by omega)]) (fun q _ _ => by rw [c 43 (by decide) (by omega)]), w.kept (by rw [a' 0 (by omega)]) (a' 13 (by omega)) (b 14 (by omega)) (c 45 (by decide) (by omega)), ?_, z.kept (fun c h1 h2 => a' c (by omega))⟩
  rw [a' 0 (by omega), b 16 (by omega)]
  exact fd
/-- findings -/
theorem dm_fx {d : Nat} (f : Int32) (h : jx_H) : DM (d + 1) 8 [vr 0 0, vi f] h = some ([vi f], jx_sI h 0 0 7 (h.1 0 0 7 + 1)) := by
  rw [d8, e8_0]
theorem dm_fm {d : Nat} (f : Int32) (h : jx_H) : DM (d + 1) 111 [vr 30 0, vi f] h = some ([vi f], jx_sI h 30 0 16 (h.1 30 0 16 + 1)) := by
  rw [d111, e111_0]
theorem jb_Inv.fd {hx hm : jx_H} (I : jb_Inv hx hm) : jb_Inv (jx_sI hx 0 0 7 (hx.1 0 0 7 + 1)) (jx_sI hm 30 0 16 (hm.1 30 0 16 + 1)) := by
  obtain ⟨n, p, sl, sh, w, fd, z⟩ := I
  refine ⟨n.kept (fun c _ _ => by rw [jx_sk (by omega)]) (fun q _ => jx_sp (by omega)) (fun c _ _ => by rw [jx_sk (by omega)]), p.kept (fun i _ _ c _ _ => by rw [jx_sk (by omega)]) (jx_sk (by decide)) (jx_sp (by decide)) (jx_sk (by decide)), fun j hj => (sl j hj).kept (fun c _ _ => by rw [jx_sk (by omega)]) (by rw [jx_sk (by decide)]) (fun q _ _ => by rw [jx_sk (by decide)]) (by rw [jx_sk (by decide)]), fun j hj => (sh j hj).kept (by rw [jx_sk (by decide)]) (by rw [jx_sk (by decide)]) (by rw [jx_sk (by decide)]) (by rw [jx_sk (by decide)]) (fun q _ _ => by rw [jx_sk (by decide)]), w.kept (jx_sp (by decide)) (jx_sk (by decide)) (jx_sp (by decide)) (jx_sk (by decide)), ?_, z.kept (fun c _ _ => jx_sk (by omega))⟩
  rw [jx_ss, jx_ss, fd]
