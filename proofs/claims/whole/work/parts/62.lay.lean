/-! ===== layer 2: lay, way ===== -/
theorem jb_same_ip {p : Nat} (hp : p ≤ 8) {x y : Int32} (h : jb_same x y) : jb_ip p x = jb_ip p y ∧ (jb_ip p x = true → x = y) := by
  rcases h with rfl | ⟨h1, h2⟩
  · exact ⟨rfl, fun _ => rfl⟩
  · have out : ∀ z : Int32, (z < 0 ∨ 8 ≤ z) → jb_ip p z = false := fun z hz => by
      cases hb : jb_ip p z with
      | false => rfl
      | true =>
        obtain ⟨j, hj, rfl⟩ := jb_ip_t (by omega) hb
        rcases hz with hz | hz
        · exact absurd hz (nI_pos (by omega))
        · exact absurd hz (nI_ge (a := j) (b := 8) (by omega) (by decide))
    rw [out x h1, out y h2]
    exact ⟨rfl, fun c => by cases c⟩
def jb_adds (N : jb_N) (v : Nat → Nat) : Nat → jb_N
  | 0 => N
  | k + 1 => jb_add (jb_adds N v k) (v (2 * k)) (v (2 * k + 1))
theorem jb_adds_n {N : jb_N} {v : Nat → Nat} : ∀ k, jb_n (jb_adds N v k) = jb_n N + k ∧ jb_p (jb_adds N v k) = jb_p N := by
  intro k
  induction k with
  | zero => exact ⟨rfl, rfl⟩
  | succ k ih =>
    refine ⟨?_, ih.2⟩
    show jb_n (jb_adds N v k) + 1 = _
    rw [ih.1]
    omega
theorem jb_adds_wf {N : jb_N} (w : jb_wf N) {v : Nat → Nat} {m : Nat} (hv : ∀ q, q < 2 * m → v q < jb_p N) (hne : ∀ i, i < m → v (2 * i) ≠ v (2 * i + 1)) (hn : jb_n N + m ≤ 20) : ∀ k, k ≤ m → jb_wf (jb_adds N v k) := by
  intro k
  induction k with
  | zero => intro _; exact w
  | succ k ih =>
    intro hk
    obtain ⟨e1, e2⟩ := jb_adds_n (N := N) (v := v) k
    exact jb_add_wf (ih (by omega)) (by rw [e2]; exact hv _ (by omega)) (by rw [e2]; exact hv _ (by omega)) (hne k (by omega)) (by rw [e1]; omega)
section
variable {d : Nat} {N : jb_N}
theorem dm_laysX {h0 : jx_H} {s m : Nat} {v : Nat → Nat} (hm : m ≤ 12) (hn : jb_n N + m ≤ 20) (hv : ∀ q, q < 2 * m → h0.1 12 s q = nI (v q)) : ∀ (k i : Nat) (h : jx_H), i + k = m → (∀ c j, ¬ (1 ≤ c ∧ c ≤ 5 ∧ j = 0) → h.1 c j = h0.1 c j) → jb_X h 0 (jb_adds N v i) → ∃ h', F34_53 (DM (d + 1)) s (nI m) (nI i) h = some ([vi (nI m)], h') ∧ (∀ c j, ¬ (1 ≤ c ∧ c ≤ 5 ∧ j = 0) → h'.1 c j = h0.1 c j) ∧ jb_X h' 0 (jb_adds N v m) := by
  intro k
  induction k with
  | zero =>
    intro i h hi f x
    have e : i = m := by omega
    subst e
    refine ⟨h, ?_, f, x⟩
    rw [e34_53]
    simp (disch := omega) only [jx_bI_s, jx_bL_s, jx_bV_s, eq_self, true_or, or_true, jx_if_t, jx_if_f, jq_b0, jq_b1, jq_bb, jq_b01, jx_if_in, jx_if_lt, jx_if_nlt, jx_if_le, jx_if_nle, jq_eqp, jq_eqn, nI_clamp, nI_add, pk_sub, pk_mul, jn_and, jn_or, jn_xor, jq_andn, jq_shl1, jq_bit, jq_mn, jq_mx, cond_true, cond_false, jq_jt, jq_jf, jq_e1, jq_e2, jq_e3, jq_e4, Bool.not_true, Bool.not_false, jq_0, jq_1, jq_2, jq_3, jq_4, jq_5, jq_6, jq_8, jq_12, jq_16, jq_20, jq_21, jq_24, jq_30, jq_32, jq_60, jq_84, jq_1000, jq_2436, jq_20001]
  | succ k ih =>
    intro i h hi f x
    have v1 : h.1 12 s (2 * i) = nI (v (2 * i)) := by rw [f 12 s (by omega)]; exact hv _ (by omega)
    have v2 : h.1 12 s (2 * i + 1) = nI (v (2 * i + 1)) := by rw [f 12 s (by omega)]; exact hv _ (by omega)
    obtain ⟨e1, e2⟩ := jb_adds_n (N := N) (v := v) i
    obtain ⟨h1, b1, b2, b3⟩ := dm_addX (d := d) x (a := v (2 * i)) (b := v (2 * i + 1)) (by rw [e1]; omega)
    obtain ⟨h', a1, a2, a3⟩ := ih (i + 1) h1 (by omega) (fun c j hc => by rw [b3 c j hc]; exact f c j hc) b2
    refine ⟨h', ?_, a2, a3⟩
    rw [e34_53]
    simp (disch := omega) only [jx_bI_s, jx_bL_s, jx_bV_s, eq_self, true_or, or_true, jx_if_t, jx_if_f, jq_b0, jq_b1, jq_bb, jq_b01, jx_if_in, jx_if_lt, jx_if_nlt, jx_if_le, jx_if_nle, jq_eqp, jq_eqn, nI_clamp, nI_add, pk_sub, pk_mul, jn_and, jn_or, jn_xor, jq_andn, jq_shl1, jq_bit, jq_mn, jq_mx, cond_true, cond_false, jq_jt, jq_jf, jq_e1, jq_e2, jq_e3, jq_e4, Bool.not_true, Bool.not_false, jq_0, jq_1, jq_2, jq_3, jq_4, jq_5, jq_6, jq_8, jq_12, jq_16, jq_20, jq_21, jq_24, jq_30, jq_32, jq_60, jq_84, jq_1000, jq_2436, jq_20001, v1, v2, b1]
    exact a1
theorem dm_laysM {h0 : jx_H} {s m : Nat} {v : Nat → Nat} (hs : s < 4) (hm : m ≤ 12) (hn : jb_n N + m ≤ 20) (hv : ∀ q, q < 2 * m → h0.1 43 0 (24 * s + q) = nI (v q)) : ∀ (k i : Nat) (h : jx_H), i + k = m → (∀ q, 3 ≤ q → h.1 30 0 q = h0.1 30 0 q) → (∀ c, c ≠ 30 → ¬ (33 ≤ c ∧ c ≤ 36) → h.1 c = h0.1 c) → jb_M h (jb_adds N v i) → ∃ h', F132_152 (DM (d + 1)) (nI s) (nI m) (nI i) h = some ([vi (nI m)], h') ∧ (∀ q, 3 ≤ q → h'.1 30 0 q = h0.1 30 0 q) ∧ (∀ c, c ≠ 30 → ¬ (33 ≤ c ∧ c ≤ 36) → h'.1 c = h0.1 c) ∧ jb_M h' (jb_adds N v m) := by
  intro k
  induction k with
  | zero =>
    intro i h hi f3 f x
    have e : i = m := by omega
    subst e
    refine ⟨h, ?_, f3, f, x⟩
    rw [e132_152]
    simp (disch := omega) only [jx_bI_s, jx_bL_s, jx_bV_s, eq_self, true_or, or_true, jx_if_t, jx_if_f, jq_b0, jq_b1, jq_bb, jq_b01, jx_if_in, jx_if_lt, jx_if_nlt, jx_if_le, jx_if_nle, jq_eqp, jq_eqn, nI_clamp, nI_add, pk_sub, pk_mul, jn_and, jn_or, jn_xor, jq_andn, jq_shl1, jq_bit, jq_mn, jq_mx, cond_true, cond_false, jq_jt, jq_jf, jq_e1, jq_e2, jq_e3, jq_e4, Bool.not_true, Bool.not_false, jq_0, jq_1, jq_2, jq_3, jq_4, jq_5, jq_6, jq_8, jq_12, jq_16, jq_20, jq_21, jq_24, jq_30, jq_32, jq_60, jq_84, jq_1000, jq_2436, jq_20001]
  | succ k ih =>
    intro i h hi f3 f x
    have v1 : h.1 43 0 (24 * s + 2 * i) = nI (v (2 * i)) := by rw [f 43 (by decide) (by decide)]; exact hv _ (by omega)
    have v2 : h.1 43 0 (24 * s + 2 * i + 1) = nI (v (2 * i + 1)) := by rw [f 43 (by decide) (by decide), Nat.add_assoc]; exact hv _ (by omega)
    obtain ⟨e1, e2⟩ := jb_adds_n (N := N) (v := v) i
    obtain ⟨h1, b1, b2, b3, b4⟩ := dm_addM (d := d) x (a := v (2 * i)) (b := v (2 * i + 1)) (by rw [e1]; omega)
    obtain ⟨h', a1, a2, a3, a4⟩ := ih (i + 1) h1 (by omega) (fun q hq => by rw [b3 q hq]; exact f3 q hq) (fun c h1 h2 => by rw [b4 c h1 h2]; exact f c h1 h2) b2
    refine ⟨h', ?_, a2, a3, a4⟩
    rw [e132_152]
    simp (disch := omega) only [jx_bI_s, jx_bL_s, jx_bV_s, eq_self, true_or, or_true, jx_if_t, jx_if_f, jq_b0, jq_b1, jq_bb, jq_b01, jx_if_in, jx_if_lt, jx_if_nlt, jx_if_le, jx_if_nle, jq_eqp, jq_eqn, nI_clamp, nI_add, pk_sub, pk_mul, jn_and, jn_or, jn_xor, jq_andn, jq_shl1, jq_bit, jq_mn, jq_mx, cond_true, cond_false, jq_jt, jq_jf, jq_e1, jq_e2, jq_e3, jq_e4, Bool.not_true, Bool.not_false, jq_0, jq_1, jq_2, jq_3, jq_4, jq_5, jq_6, jq_8, jq_12, jq_16, jq_20, jq_21, jq_24, jq_30, jq_32, jq_60, jq_84, jq_1000, jq_2436, jq_20001, v1, v2, b1]
    exact a1
/-- the reference asks the numbers of a sheet -/
theorem dm_askM {h : jx_H} {s m p : Nat} {U : Nat → Int32} (hs : s < 4) (hm : m ≤ 12) (hp : h.1 30 0 0 = nI p) (hU : ∀ q, q < 2 * m → h.1 43 0 (24 * s + q) = U q) : ((∃ q, q < 2 * m ∧ jb_ip p (U q) = false) ∧ F132_40 (DM (d + 1)) (nI s) (nI m) (nI 0) h = some ([vi (-1)], jx_sI h 30 0 16 (h.1 30 0 16 + 1))) ∨ ((∀ q, q < 2 * m → jb_ip p (U q) = true) ∧ F132_40 (DM (d + 1)) (nI s) (nI m) (nI 0) h = F132_79 (DM (d + 1)) (nI s) (nI m) (nI 0) h) := by
  have loop : ∀ (k i : Nat), i + k = 2 * m → (∀ q, q < i → jb_ip p (U q) = true) → ((∃ q, q < 2 * m ∧ jb_ip p (U q) = false) ∧ F132_40 (DM (d + 1)) (nI s) (nI m) (nI i) h = some ([vi (-1)], jx_sI h 30 0 16 (h.1 30 0 16 + 1))) ∨ ((∀ q, q < 2 * m → jb_ip p (U q) = true) ∧ F132_40 (DM (d + 1)) (nI s) (nI m) (nI i) h = F132_79 (DM (d + 1)) (nI s) (nI m) (nI 0) h) := by
    intro k
    induction k with
    | zero =>
      intro i hi h1
      refine Or.inr ⟨fun q hq => h1 q (by omega), ?_⟩
      rw [e132_40]
      simp (disch := omega) only [jx_bI_s, jx_bL_s, jx_bV_s, eq_self, true_or, or_true, jx_if_t, jx_if_f, jq_b0, jq_b1, jq_bb, jq_b01, jx_if_in, jx_if_lt, jx_if_nlt, jx_if_le, jx_if_nle, jq_eqp, jq_eqn, nI_clamp, nI_add, pk_sub, pk_mul, jn_and, jn_or, jn_xor, jq_andn, jq_shl1, jq_bit, jq_mn, jq_mx, cond_true, cond_false, jq_jt, jq_jf, jq_e1, jq_e2, jq_e3, jq_e4, Bool.not_true, Bool.not_false, jq_0, jq_1, jq_2, jq_3, jq_4, jq_5, jq_6, jq_8, jq_12, jq_16, jq_20, jq_21, jq_24, jq_30, jq_32, jq_60, jq_84, jq_1000, jq_2436, jq_20001]
    | succ k ih =>
      intro i hi h1
      have u := hU i (by omega)
      rw [e132_40]
      cases c : jb_ip p (U i)
      · refine Or.inl ⟨⟨i, by omega, c⟩, ?_⟩
        simp (disch := omega) only [jx_bI_s, jx_bL_s, jx_bV_s, eq_self, true_or, or_true, jx_if_t, jx_if_f, jq_b0, jq_b1, jq_bb, jq_b01, jx_if_in, jx_if_lt, jx_if_nlt, jx_if_le, jx_if_nle, jq_eqp, jq_eqn, nI_clamp, nI_add, pk_sub, pk_mul, jn_and, jn_or, jn_xor, jq_andn, jq_shl1, jq_bit, jq_mn, jq_mx, cond_true, cond_false, jq_jt, jq_jf, jq_e1, jq_e2, jq_e3, jq_e4, Bool.not_true, Bool.not_false, jq_0, jq_1, jq_2, jq_3, jq_4, jq_5, jq_6, jq_8, jq_12, jq_16, jq_20, jq_21, jq_24, jq_30, jq_32, jq_60, jq_84, jq_1000, jq_2436, jq_20001, u, dm_isPost _ hp, c, dm_fm]
      · rcases ih (i + 1) (by omega) (fun q hq => by
          by_cases e : q = i
          · rw [e]; exact c
          · exact h1 q (by omega)) with ⟨a, b⟩ | ⟨a, b⟩
        · refine Or.inl ⟨a, ?_⟩
          rw [show (2 : Int32) = nI 2 from rfl, show (24 : Int32) = nI 24 from rfl, pk_mul, pk_mul, nI_add, jx_if_lt (by omega) (by omega), jx_if_in (by omega) (by omega), nI_clamp (by omega), u, dm_isPost _ hp, jx_bI_s, c, jx_ifn (by decide), nI_1]
          exact b
        · refine Or.inr ⟨a, ?_⟩
          rw [show (2 : Int32) = nI 2 from rfl, show (24 : Int32) = nI 24 from rfl, pk_mul, pk_mul, nI_add, jx_if_lt (by omega) (by omega), jx_if_in (by omega) (by omega), nI_clamp (by omega), u, dm_isPost _ hp, jx_bI_s, c, jx_ifn (by decide), nI_1]
          exact b
  exact loop (2 * m) 0 (by omega) (fun q hq => by omega)
theorem dm_eqM {h : jx_H} {s m : Nat} {U : Nat → Int32} (hs : s < 4) (hm : m ≤ 12) (hU : ∀ q, q < 2 * m → h.1 43 0 (24 * s + q) = U q) : ((∃ i, i < m ∧ U (2 * i) = U (2 * i + 1)) ∧ F132_79 (DM (d + 1)) (nI s) (nI m) (nI 0) h = some ([vi (-3)], jx_sI h 30 0 16 (h.1 30 0 16 + 1))) ∨ ((∀ i, i < m → U (2 * i) ≠ U (2 * i + 1)) ∧ F132_79 (DM (d + 1)) (nI s) (nI m) (nI 0) h = F132_79 (DM (d + 1)) (nI s) (nI m) (nI m) h) := by
  have loop : ∀ (k i : Nat), i + k = m → (∀ j, j < i → U (2 * j) ≠ U (2 * j + 1)) → ((∃ i, i < m ∧ U (2 * i) = U (2 * i + 1)) ∧ F132_79 (DM (d + 1)) (nI s) (nI m) (nI i) h = some ([vi (-3)], jx_sI h 30 0 16 (h.1 30 0 16 + 1))) ∨ ((∀ i, i < m → U (2 * i) ≠ U (2 * i + 1)) ∧ F132_79 (DM (d + 1)) (nI s) (nI m) (nI i) h = F132_79 (DM (d + 1)) (nI s) (nI m) (nI m) h) := by
    intro k
    induction k with
    | zero =>
      intro i hi h1
      have e : i = m := by omega
      subst e
      exact Or.inr ⟨h1, rfl⟩
    | succ k ih =>
      intro i hi h1
      have u1 := hU (2 * i) (by omega)
      have u2 := hU (2 * i + 1) (by omega)
      rw [← Nat.add_assoc] at u2
      have st : F132_79 (DM (d + 1)) (nI s) (nI m) (nI i) h = jx_if (U (2 * i) = U (2 * i + 1)) (jx_bI (DM (d + 1) 111 [vr 30 0, vi ((-3) : Int32)] h) fun y1 h1 => some ([vi y1], h1)) (F132_79 (DM (d + 1)) (nI s) (nI m) (nI (i + 1)) h) := by
        rw [e132_79, show (2 : Int32) = nI 2 from rfl, show (24 : Int32) = nI 24 from rfl, pk_mul, pk_mul, nI_add, nI_1, nI_1, jx_if_lt (by omega) (by omega), jx_if_in (by omega) (by omega), jx_if_in (by omega) (by omega), nI_clamp (by omega), nI_clamp (by omega), u1, u2]
      rw [st]
      by_cases c : U (2 * i) = U (2 * i + 1)
      · refine Or.inl ⟨⟨i, by omega, c⟩, ?_⟩
        rw [jx_ifp c, dm_fm, jx_bI_s]
      · rw [jx_ifn c]
        exact ih (i + 1) (by omega) (fun j hj => by
          by_cases e : j = i
          · rw [e]; exact c
          · exact h1 j (by omega))
  exact loop m 0 (by omega) (fun q hq => by omega)
end
section
variable {d : Nat} {hx hm : jx_H}
theorem jt_11 (I : jb_Inv hx hm) (a : Int32) : jl_g d 34 132 [vi a] hx hm := by
  obtain ⟨N, w, x, m⟩ := I.1
  have hp := w.1
  have hn := w.2.1
  cases ha : jb_ip 4 a
  · refine ⟨-1, _, _, ?_, ?_, I.fd⟩
    · rw [d34, e34_0, d35, e35_0, dm_noSheet a, ha]
      simp (disch := omega) only [jx_bI_s, jx_bL_s, jx_bV_s, eq_self, true_or, or_true, jx_if_t, jx_if_f, jq_b0, jq_b1, jq_bb, jq_b01, jx_if_in, jx_if_lt, jx_if_nlt, jx_if_le, jx_if_nle, jq_eqp, jq_eqn, nI_clamp, nI_add, pk_sub, pk_mul, jn_and, jn_or, jn_xor, jq_andn, jq_shl1, jq_bit, jq_mn, jq_mx, cond_true, cond_false, jq_jt, jq_jf, jq_e1, jq_e2, jq_e3, jq_e4, Bool.not_true, Bool.not_false, jq_0, jq_1, jq_2, jq_3, jq_4, jq_5, jq_6, jq_8, jq_12, jq_16, jq_20, jq_21, jq_24, jq_30, jq_32, jq_60, jq_84, jq_1000, jq_2436, jq_20001]
      rw [jx_ifn (by decide), dm_fx, jx_bI_s]
      rfl
    · rw [d132, e132_0]
      simp (disch := omega) only [jx_bI_s, jx_bL_s, jx_bV_s, eq_self, true_or, or_true, jx_if_t, jx_if_f, jq_b0, jq_b1, jq_bb, jq_b01, jx_if_in, jx_if_lt, jx_if_nlt, jx_if_le, jx_if_nle, jq_eqp, jq_eqn, nI_clamp, nI_add, pk_sub, pk_mul, jn_and, jn_or, jn_xor, jq_andn, jq_shl1, jq_bit, jq_mn, jq_mx, cond_true, cond_false, jq_jt, jq_jf, jq_e1, jq_e2, jq_e3, jq_e4, Bool.not_true, Bool.not_false, jq_0, jq_1, jq_2, jq_3, jq_4, jq_5, jq_6, jq_8, jq_12, jq_16, jq_20, jq_21, jq_24, jq_30, jq_32, jq_60, jq_84, jq_1000, jq_2436, jq_20001, dm_isSheet a, ha, dm_fm]
  obtain ⟨s, hs, rfl⟩ := jb_ip_t (by omega) ha
  obtain ⟨z, hz, hb, t3, t4, t5, t6⟩ := I.2.2.2.1 s hs
  have ms := dm_miss (d := d + 37) s hx rfl hb
  by_cases c0 : hx.1 11 s 0 = 0
  · rw [decide_eq_true c0] at ms
    rw [c0] at t3
    refine ⟨-2, _, _, ?_, ?_, I.fd⟩
    · rw [d34, e34_0, d35, e35_0]
      simp (disch := omega) only [jx_bI_s, jx_bL_s, jx_bV_s, eq_self, true_or, or_true, jx_if_t, jx_if_f, jq_b0, jq_b1, jq_bb, jq_b01, jx_if_in, jx_if_lt, jx_if_nlt, jx_if_le, jx_if_nle, jq_eqp, jq_eqn, nI_clamp, nI_add, pk_sub, pk_mul, jn_and, jn_or, jn_xor, jq_andn, jq_shl1, jq_bit, jq_mn, jq_mx, cond_true, cond_false, jq_jt, jq_jf, jq_e1, jq_e2, jq_e3, jq_e4, Bool.not_true, Bool.not_false, jq_0, jq_1, jq_2, jq_3, jq_4, jq_5, jq_6, jq_8, jq_12, jq_16, jq_20, jq_21, jq_24, jq_30, jq_32, jq_60, jq_84, jq_1000, jq_2436, jq_20001, dm_noSheet _, ha, Nat.zero_add, ms]
      rw [jx_ifn (by decide), dm_fx, jx_bI_s]
      rfl
    · rw [d132, e132_0]
      simp (disch := omega) only [jx_bI_s, jx_bL_s, jx_bV_s, eq_self, true_or, or_true, jx_if_t, jx_if_f, jq_b0, jq_b1, jq_bb, jq_b01, jx_if_in, jx_if_lt, jx_if_nlt, jx_if_le, jx_if_nle, jq_eqp, jq_eqn, nI_clamp, nI_add, pk_sub, pk_mul, jn_and, jn_or, jn_xor, jq_andn, jq_shl1, jq_bit, jq_mn, jq_mx, cond_true, cond_false, jq_jt, jq_jf, jq_e1, jq_e2, jq_e3, jq_e4, Bool.not_true, Bool.not_false, jq_0, jq_1, jq_2, jq_3, jq_4, jq_5, jq_6, jq_8, jq_12, jq_16, jq_20, jq_21, jq_24, jq_30, jq_32, jq_60, jq_84, jq_1000, jq_2436, jq_20001, dm_isSheet _, ha, t3, dm_fm]
  rw [decide_eq_false c0] at ms
  have n0 : ¬ hm.1 41 0 s = nI 0 := by rw [t3]; exact c0
  generalize hm2 : z / 2 = k2
  have hk2 : 2 * k2 ≤ z := by omega
  have V : ∀ q, q < 2 * k2 → jb_same (hx.1 12 s q) (hm.1 43 0 (24 * s + q)) := fun q hq => t6 q (by omega)
  have pr := dm_pairsb (d := d + 35) (h := hx) (p := jb_p N) (NN := k2) (i1 := s) x.1 (by omega) (V := fun q => hx.1 12 s q) (fun _ _ => rfl)
  have ak := dm_askM (d := d + 38) (h := hm) (s := s) (m := k2) (p := jb_p N) (U := fun q => hm.1 43 0 (24 * s + q)) hs (by omega) m.1 (fun _ _ => rfl)
  have ee := dm_eqM (d := d + 38) (h := hm) (s := s) (m := k2) (U := fun q => hm.1 43 0 (24 * s + q)) hs (by omega) (fun _ _ => rfl)
  have div : nI z / nI 2 = nI k2 := by rw [pk_div (by omega) (by decide) (by decide), hm2]
  have preM : ∀ r, F132_40 (DM (d + 39)) (nI s) (nI k2) (nI 0) hm = r → DM (d + 40) 132 [vr 30 0, vi (nI s)] hm = r := by
    intro r hr
    rw [d132, e132_0]
    simp (disch := omega) only [jx_bI_s, jx_bL_s, jx_bV_s, eq_self, true_or, or_true, jx_if_t, jx_if_f, jq_b0, jq_b1, jq_bb, jq_b01, jx_if_in, jx_if_lt, jx_if_nlt, jx_if_le, jx_if_nle, jq_eqp, jq_eqn, nI_clamp, nI_add, pk_sub, pk_mul, jn_and, jn_or, jn_xor, jq_andn, jq_shl1, jq_bit, jq_mn, jq_mx, cond_true, cond_false, jq_jt, jq_jf, jq_e1, jq_e2, jq_e3, jq_e4, Bool.not_true, Bool.not_false, jq_0, jq_1, jq_2, jq_3, jq_4, jq_5, jq_6, jq_8, jq_12, jq_16, jq_20, jq_21, jq_24, jq_30, jq_32, jq_60, jq_84, jq_1000, jq_2436, jq_20001, dm_isSheet _, ha, jx_ifn n0, t5, div, e132_38]
    exact hr
  have preX : ∀ y, DM (d + 38) 36 [vr 0 0, vr 12 s, vi (nI k2)] hx = some ([vi y], hx) → y ≠ 0 → DM (d + 40) 34 [vr 0 0, vi (nI s)] hx = some ([vi y], jx_sI hx 0 0 7 (hx.1 0 0 7 + 1)) := by
    intro y hy ny
    rw [d34, e34_0, d35, e35_0]
    simp (disch := omega) only [jx_bI_s, jx_bL_s, jx_bV_s, eq_self, true_or, or_true, jx_if_t, jx_if_f, jq_b0, jq_b1, jq_bb, jq_b01, jx_if_in, jx_if_lt, jx_if_nlt, jx_if_le, jx_if_nle, jq_eqp, jq_eqn, nI_clamp, nI_add, pk_sub, pk_mul, jn_and, jn_or, jn_xor, jq_andn, jq_shl1, jq_bit, jq_mn, jq_mx, cond_true, cond_false, jq_jt, jq_jf, jq_e1, jq_e2, jq_e3, jq_e4, Bool.not_true, Bool.not_false, jq_0, jq_1, jq_2, jq_3, jq_4, jq_5, jq_6, jq_8, jq_12, jq_16, jq_20, jq_21, jq_24, jq_30, jq_32, jq_60, jq_84, jq_1000, jq_2436, jq_20001, dm_noSheet _, ha, Nat.zero_add, ms, t4, div, e35_36, hy]
    rw [jx_ifn (show ¬ y = nI 0 from ny), e35_72, jx_bI_s, jx_ifn (show ¬ y = nI 0 from ny), dm_fx, jx_bI_s]
    rfl
  rcases pr with ⟨⟨q, q1, q2⟩, p2⟩ | ⟨p1, ⟨i, i1, i2⟩, p3⟩ | ⟨p1, p2, p3⟩
  · rcases ak with ⟨_, k1⟩ | ⟨k1, _⟩
    · exact ⟨-1, _, _, preX _ p2 (by decide), preM _ k1, I.fd⟩
    · have := (jb_same_ip hp (V q q1)).1
      rw [k1 q q1, q2] at this
      cases this
  · rcases ak with ⟨⟨q, q1, q2⟩, _⟩ | ⟨k0, k1⟩
    · have := (jb_same_ip hp (V q q1)).1
      rw [p1 q q1, q2] at this
      cases this
    · rcases ee with ⟨_, e2⟩ | ⟨e1, _⟩
      · exact ⟨-3, _, _, preX _ p3 (by decide), preM _ (k1.trans e2), I.fd⟩
      · refine absurd ?_ (e1 i i1)
        show hm.1 43 0 (24 * s + 2 * i) = hm.1 43 0 (24 * s + (2 * i + 1))
        rw [← (jb_same_ip hp (V (2 * i) (by omega))).2 (p1 _ (by omega)), ← (jb_same_ip hp (V (2 * i + 1) (by omega))).2 (p1 _ (by omega))]
        exact i2
  · rcases ak with ⟨⟨q, q1, q2⟩, _⟩ | ⟨k0, k1⟩
    · have := (jb_same_ip hp (V q q1)).1
      rw [p1 q q1, q2] at this
      cases this
    rcases ee with ⟨⟨i, i1, i2⟩, _⟩ | ⟨e1, e2⟩
    · refine absurd ?_ (p2 i i1)
      show hx.1 12 s (2 * i) = hx.1 12 s (2 * i + 1)
      rw [(jb_same_ip hp (V (2 * i) (by omega))).2 (p1 _ (by omega)), (jb_same_ip hp (V (2 * i + 1) (by omega))).2 (p1 _ (by omega))]
      exact i2
    by_cases hf : jb_n N + k2 ≤ 20
    · -- the roads are laid
      obtain ⟨v, hv⟩ : ∃ v : Nat → Nat, ∀ q, q < 2 * k2 → v q < jb_p N ∧ hx.1 12 s q = nI (v q) := by
        refine ⟨fun q => (hx.1 12 s q).toNatClampNeg, fun q hq => ?_⟩
        obtain ⟨j, hj, e⟩ := jb_ip_t (by omega) (p1 q hq)
        have e : hx.1 12 s q = nI j := e
        show (hx.1 12 s q).toNatClampNeg < _ ∧ hx.1 12 s q = nI ((hx.1 12 s q).toNatClampNeg)
        rw [e, nI_clamp (by omega)]
        exact ⟨hj, rfl⟩
      have hvm : ∀ q, q < 2 * k2 → hm.1 43 0 (24 * s + q) = nI (v q) := fun q hq => by
        rw [← (hv q hq).2]
        exact ((jb_same_ip hp (V q hq)).2 (p1 q hq)).symm
      obtain ⟨hx', hm', a1, a2, I', x', m', fx, fm, fc, fi⟩ := I.chg d x m
      obtain ⟨h1, b1, b2, b3⟩ := dm_laysX (d := d + 38) (N := N) (h0 := hx') (s := s) (m := k2) (v := v) (by omega) hf (fun q hq => by rw [fx 12 (by decide) (by omega)]; exact (hv q hq).2) k2 0 hx' (by omega) (fun _ _ _ => rfl) x'
      obtain ⟨h2, c1, c2, c3, c4⟩ := dm_laysM (d := d + 38) (N := N) (h0 := hm') (s := s) (m := k2) (v := v) hs (by omega) hf (fun q hq => by rw [fc 43 (by decide) (by decide)]; exact hvm q hq) k2 0 hm' (by omega) (fun _ _ => rfl) (fun _ _ _ => rfl) m'
      refine ⟨nI k2, h1, h2, ?_, preM _ (k1.trans (e2.trans ?_)), I'.net b2 c2 c3 ⟨_, jb_adds_wf w (fun q hq => (hv q hq).1) (fun i hi c => p2 i hi ?_) hf k2 (Nat.le_refl _), b3, c4⟩⟩
      · have t4' : hx'.1 11 s 1 = nI z := by rw [fx 11 (by decide) (by omega)]; exact t4
        rw [d34, e34_0, d35, e35_0]
        simp (disch := omega) only [jx_bI_s, jx_bL_s, jx_bV_s, eq_self, true_or, or_true, jx_if_t, jx_if_f, jq_b0, jq_b1, jq_bb, jq_b01, jx_if_in, jx_if_lt, jx_if_nlt, jx_if_le, jx_if_nle, jq_eqp, jq_eqn, nI_clamp, nI_add, pk_sub, pk_mul, jn_and, jn_or, jn_xor, jq_andn, jq_shl1, jq_bit, jq_mn, jq_mx, cond_true, cond_false, jq_jt, jq_jf, jq_e1, jq_e2, jq_e3, jq_e4, Bool.not_true, Bool.not_false, jq_0, jq_1, jq_2, jq_3, jq_4, jq_5, jq_6, jq_8, jq_12, jq_16, jq_20, jq_21, jq_24, jq_30, jq_32, jq_60, jq_84, jq_1000, jq_2436, jq_20001, dm_noSheet _, ha, Nat.zero_add, ms, t4, div, e35_36, p3, x.2.1, e35_72, a1, t4', e34_50]
        exact b1
      · rw [e132_79]
        simp (disch := omega) only [jx_bI_s, jx_bL_s, jx_bV_s, eq_self, true_or, or_true, jx_if_t, jx_if_f, jq_b0, jq_b1, jq_bb, jq_b01, jx_if_in, jx_if_lt, jx_if_nlt, jx_if_le, jx_if_nle, jq_eqp, jq_eqn, nI_clamp, nI_add, pk_sub, pk_mul, jn_and, jn_or, jn_xor, jq_andn, jq_shl1, jq_bit, jq_mn, jq_mx, cond_true, cond_false, jq_jt, jq_jf, jq_e1, jq_e2, jq_e3, jq_e4, Bool.not_true, Bool.not_false, jq_0, jq_1, jq_2, jq_3, jq_4, jq_5, jq_6, jq_8, jq_12, jq_16, jq_20, jq_21, jq_24, jq_30, jq_32, jq_60, jq_84, jq_1000, jq_2436, jq_20001, m.2.1, a2]
        exact c1
      · show hx.1 12 s (2 * i) = hx.1 12 s (2 * i + 1)
        rw [(hv _ (by omega)).2, (hv _ (by omega)).2, c]
    · refine ⟨-5, _, _, ?_, preM _ (k1.trans (e2.trans ?_)), I.fd⟩
      · rw [d34, e34_0, d35, e35_0]
        simp (disch := omega) only [jx_bI_s, jx_bL_s, jx_bV_s, eq_self, true_or, or_true, jx_if_t, jx_if_f, jq_b0, jq_b1, jq_bb, jq_b01, jx_if_in, jx_if_lt, jx_if_nlt, jx_if_le, jx_if_nle, jq_eqp, jq_eqn, nI_clamp, nI_add, pk_sub, pk_mul, jn_and, jn_or, jn_xor, jq_andn, jq_shl1, jq_bit, jq_mn, jq_mx, cond_true, cond_false, jq_jt, jq_jf, jq_e1, jq_e2, jq_e3, jq_e4, Bool.not_true, Bool.not_false, jq_0, jq_1, jq_2, jq_3, jq_4, jq_5, jq_6, jq_8, jq_12, jq_16, jq_20, jq_21, jq_24, jq_30, jq_32, jq_60, jq_84, jq_1000, jq_2436, jq_20001, dm_noSheet _, ha, Nat.zero_add, ms, t4, div, e35_36, p3, x.2.1, e35_72]
        rw [jx_ifn (by decide), dm_fx, jx_bI_s]
        rfl
      · rw [e132_79]
        simp (disch := omega) only [jx_bI_s, jx_bL_s, jx_bV_s, eq_self, true_or, or_true, jx_if_t, jx_if_f, jq_b0, jq_b1, jq_bb, jq_b01, jx_if_in, jx_if_lt, jx_if_nlt, jx_if_le, jx_if_nle, jq_eqp, jq_eqn, nI_clamp, nI_add, pk_sub, pk_mul, jn_and, jn_or, jn_xor, jq_andn, jq_shl1, jq_bit, jq_mn, jq_mx, cond_true, cond_false, jq_jt, jq_jf, jq_e1, jq_e2, jq_e3, jq_e4, Bool.not_true, Bool.not_false, jq_0, jq_1, jq_2, jq_3, jq_4, jq_5, jq_6, jq_8, jq_12, jq_16, jq_20, jq_21, jq_24, jq_30, jq_32, jq_60, jq_84, jq_1000, jq_2436, jq_20001, m.2.1, dm_fm]
/-- the way, step by step -/
theorem jt_34 (I : jb_Inv hx hm) (a b : Int32) : jl_g d 99 175 [vi a, vi b] hx hm := by
  obtain ⟨N, w, x, m⟩ := I.1
  have hp := w.1
  have hn := w.2.1
  have h8 := jn_pow8 hp
  obtain ⟨len, l60, w2, w3, w4⟩ := I.2.2.2.2.1
  have J : jb_Inv (jx_sI hx 0 0 6 (nI 0)) (jx_sI hm 30 0 14 (nI 0)) := I.wt (fun c h1 h2 => jx_sk h1) (jx_sp (by decide)) (fun q hq => jx_sp hq) (fun c h1 h2 => jx_sk h1) ⟨0, by omega, jx_ss, jx_ss, fun i hi => by omega⟩
  have x' : jb_X (jx_sI hx 0 0 6 (nI 0)) 0 N := x.kept (fun c h1 h2 => by rw [jx_sk (by omega)])
  have m' : jb_M (jx_sI hm 30 0 14 (nI 0)) N := by
    obtain ⟨n1, n2, n3, n4⟩ := m
    refine ⟨by rw [jx_sp (by decide)]; exact n1, by rw [jx_sp (by decide)]; exact n2, by rw [jx_sp (by decide)]; exact n3, ?_⟩
    rw [jx_sk (by decide), jx_sk (by decide), jx_sk (by decide), jx_sk (by decide)]
    exact n4
  have w4' : ∀ i, i < len → (jx_sI hx 0 0 6 (nI 0)).1 13 0 i = (jx_sI hm 30 0 14 (nI 0)).1 45 0 i := fun i hi => by
    rw [jx_sk (by decide), jx_sk (by decide)]
    exact w4 i hi
  have pX : ∀ r, (jx_bI (DM (d + 39) 11 [vr 0 0, vi a, vi b] (jx_sI hx 0 0 6 (nI 0))) fun y1 h1 => (jx_if (y1 = 0) ((jx_bI (DM (d + 39) 100 [vr 1 0, vi a, vr 13 0, vi (nI len)] h1) fun y2 h2 => (jx_if (y2 = b) (F99_52 (DM (d + 39)) 1 h2) (F99_52 (DM (d + 39)) 0 h2)))) ((jx_bI (DM (d + 39) 8 [vr 0 0, vi y1] h1) fun y3 h3 => some ([vi y3], h3))))) = r → DM (d + 40) 99 [vr 0 0, vi a, vi b] hx = r := by
    intro r hr
    rw [d99, e99_0, w2]
    exact hr
  have pM : ∀ r, F175_0 (DM (d + 39)) a b hm = r → DM (d + 40) 175 [vr 30 0, vi a, vi b] hm = r := by
    intro r hr
    rw [d175]
    exact hr
  generalize jx_sI hx 0 0 6 (nI 0) = gx at *
  cases ha : jb_ip (jb_p N) a
  · refine ⟨-1, _, _, pX _ ?_, pM _ ?_, J.fd⟩
    · rw [dm_two0 b x'.1 (Or.inl ha), jx_bI_s, jx_ifn (by decide), dm_fx, jx_bI_s]
    · rw [e175_0]
      simp (disch := omega) only [jx_bI_s, jx_bL_s, jx_bV_s, eq_self, true_or, or_true, jx_if_t, jx_if_f, jq_b0, jq_b1, jq_bb, jq_b01, jx_if_in, jx_if_lt, jx_if_nlt, jx_if_le, jx_if_nle, jq_eqp, jq_eqn, nI_clamp, nI_add, pk_sub, pk_mul, jn_and, jn_or, jn_xor, jq_andn, jq_shl1, jq_bit, jq_mn, jq_mx, cond_true, cond_false, jq_jt, jq_jf, jq_e1, jq_e2, jq_e3, jq_e4, Bool.not_true, Bool.not_false, jq_0, jq_1, jq_2, jq_3, jq_4, jq_5, jq_6, jq_8, jq_12, jq_16, jq_20, jq_21, jq_24, jq_30, jq_32, jq_60, jq_84, jq_1000, jq_2436, jq_20001, dm_isPost a m'.1, ha, e175_26, dm_fm]
  cases hb : jb_ip (jb_p N) b
  · refine ⟨-1, _, _, pX _ ?_, pM _ ?_, J.fd⟩
    · rw [dm_two0 b x'.1 (Or.inr hb), jx_bI_s, jx_ifn (by decide), dm_fx, jx_bI_s]
    · rw [e175_0]
      simp (disch := omega) only [jx_bI_s, jx_bL_s, jx_bV_s, eq_self, true_or, or_true, jx_if_t, jx_if_f, jq_b0, jq_b1, jq_bb, jq_b01, jx_if_in, jx_if_lt, jx_if_nlt, jx_if_le, jx_if_nle, jq_eqp, jq_eqn, nI_clamp, nI_add, pk_sub, pk_mul, jn_and, jn_or, jn_xor, jq_andn, jq_shl1, jq_bit, jq_mn, jq_mx, cond_true, cond_false, jq_jt, jq_jf, jq_e1, jq_e2, jq_e3, jq_e4, Bool.not_true, Bool.not_false, jq_0, jq_1, jq_2, jq_3, jq_4, jq_5, jq_6, jq_8, jq_12, jq_16, jq_20, jq_21, jq_24, jq_30, jq_32, jq_60, jq_84, jq_1000, jq_2436, jq_20001, dm_isPost a m'.1, dm_isPost b m'.1, ha, hb, e175_26, dm_fm]
  by_cases e : a = b
  · refine ⟨-3, _, _, pX _ ?_, pM _ ?_, J.fd⟩
    · rw [dm_two1 x'.1 ha hb e, jx_bI_s, jx_ifn (by decide), dm_fx, jx_bI_s]
    · rw [e175_0]
      simp (disch := omega) only [jx_bI_s, jx_bL_s, jx_bV_s, eq_self, true_or, or_true, jx_if_t, jx_if_f, jq_b0, jq_b1, jq_bb, jq_b01, jx_if_in, jx_if_lt, jx_if_nlt, jx_if_le, jx_if_nle, jq_eqp, jq_eqn, nI_clamp, nI_add, pk_sub, pk_mul, jn_and, jn_or, jn_xor, jq_andn, jq_shl1, jq_bit, jq_mn, jq_mx, cond_true, cond_false, jq_jt, jq_jf, jq_e1, jq_e2, jq_e3, jq_e4, Bool.not_true, Bool.not_false, jq_0, jq_1, jq_2, jq_3, jq_4, jq_5, jq_6, jq_8, jq_12, jq_16, jq_20, jq_21, jq_24, jq_30, jq_32, jq_60, jq_84, jq_1000, jq_2436, jq_20001, dm_isPost a m'.1, dm_isPost b m'.1, ha, hb, jx_ifp e, dm_fm]
  have kt := dm_two2 (d := d + 37) x'.1 ha hb e
  obtain ⟨i, hi, rfl⟩ := jb_ip_t (by omega) ha
  obtain ⟨j, hj, rfl⟩ := jb_ip_t (by omega) hb
  have pM2 : ∀ r, F175_55 (DM (d + 39)) (nI j) (nI len) (nI i) (nI (2 ^ i)) (nI 0) (jx_sI hm 30 0 14 (nI 0)) = r → DM (d + 40) 175 [vr 30 0, vi (nI i), vi (nI j)] hm = r := by
    intro r hr
    refine pM _ ?_
    rw [e175_0]
    simp (disch := omega) only [jx_bI_s, jx_bL_s, jx_bV_s, eq_self, true_or, or_true, jx_if_t, jx_if_f, jq_b0, jq_b1, jq_bb, jq_b01, jx_if_in, jx_if_lt, jx_if_nlt, jx_if_le, jx_if_nle, jq_eqp, jq_eqn, nI_clamp, nI_add, pk_sub, pk_mul, jn_and, jn_or, jn_xor, jq_andn, jq_shl1, jq_bit, jq_mn, jq_mx, cond_true, cond_false, jq_jt, jq_jf, jq_e1, jq_e2, jq_e3, jq_e4, Bool.not_true, Bool.not_false, jq_0, jq_1, jq_2, jq_3, jq_4, jq_5, jq_6, jq_8, jq_12, jq_16, jq_20, jq_21, jq_24, jq_30, jq_32, jq_60, jq_84, jq_1000, jq_2436, jq_20001, dm_isPost _ m'.1, ha, hb, w3, jx_ifn e, e175_52]
    exact hr
  generalize jx_sI hm 30 0 14 (nI 0) = gm at *
  have nm1 : ¬ (-1 : Int32) = nI j := fun c => nI_pos (n := j) (by omega) (by rw [← c]; decide)
  have loop : ∀ k q at' seen, q + k = len → at' < jb_p N → seen < 2 ^ jb_p N → ∃ r : Int32, F100_11 (DM (d + 38)) 0 (nI len) (nI at') (nI seen) (nI q) gx = some ([vi r], gx) ∧ F175_55 (DM (d + 39)) (nI j) (nI len) (nI at') (nI seen) (nI q) gm = some ([vi (jn_b (decide (r = nI j)))], gm) := by
    intro k
    induction k with
    | zero =>
      intro q at' seen hq ha' hse
      refine ⟨nI at', ?_, ?_⟩
      · rw [e100_11]
        simp (disch := omega) only [jx_bI_s, jx_bL_s, jx_bV_s, eq_self, true_or, or_true, jx_if_t, jx_if_f, jq_b0, jq_b1, jq_bb, jq_b01, jx_if_in, jx_if_lt, jx_if_nlt, jx_if_le, jx_if_nle, jq_eqp, jq_eqn, nI_clamp, nI_add, pk_sub, pk_mul, jn_and, jn_or, jn_xor, jq_andn, jq_shl1, jq_bit, jq_mn, jq_mx, cond_true, cond_false, jq_jt, jq_jf, jq_e1, jq_e2, jq_e3, jq_e4, Bool.not_true, Bool.not_false, jq_0, jq_1, jq_2, jq_3, jq_4, jq_5, jq_6, jq_8, jq_12, jq_16, jq_20, jq_21, jq_24, jq_30, jq_32, jq_60, jq_84, jq_1000, jq_2436, jq_20001]
      · rw [e175_55]
        by_cases c : at' = j
        · rw [decide_eq_true (by rw [c])]
          simp (disch := omega) only [jx_bI_s, jx_bL_s, jx_bV_s, eq_self, true_or, or_true, jx_if_t, jx_if_f, jq_b0, jq_b1, jq_bb, jq_b01, jx_if_in, jx_if_lt, jx_if_nlt, jx_if_le, jx_if_nle, jq_eqp, jq_eqn, nI_clamp, nI_add, pk_sub, pk_mul, jn_and, jn_or, jn_xor, jq_andn, jq_shl1, jq_bit, jq_mn, jq_mx, cond_true, cond_false, jq_jt, jq_jf, jq_e1, jq_e2, jq_e3, jq_e4, Bool.not_true, Bool.not_false, jq_0, jq_1, jq_2, jq_3, jq_4, jq_5, jq_6, jq_8, jq_12, jq_16, jq_20, jq_21, jq_24, jq_30, jq_32, jq_60, jq_84, jq_1000, jq_2436, jq_20001, e175_181]
        · rw [decide_eq_false (fun k => c (jq_inj (by omega) (by omega) k))]
          simp (disch := omega) only [jx_bI_s, jx_bL_s, jx_bV_s, eq_self, true_or, or_true, jx_if_t, jx_if_f, jq_b0, jq_b1, jq_bb, jq_b01, jx_if_in, jx_if_lt, jx_if_nlt, jx_if_le, jx_if_nle, jq_eqp, jq_eqn, nI_clamp, nI_add, pk_sub, pk_mul, jn_and, jn_or, jn_xor, jq_andn, jq_shl1, jq_bit, jq_mn, jq_mx, cond_true, cond_false, jq_jt, jq_jf, jq_e1, jq_e2, jq_e3, jq_e4, Bool.not_true, Bool.not_false, jq_0, jq_1, jq_2, jq_3, jq_4, jq_5, jq_6, jq_8, jq_12, jq_16, jq_20, jq_21, jq_24, jq_30, jq_32, jq_60, jq_84, jq_1000, jq_2436, jq_20001, e175_181]
    | succ k ih =>
      intro q at' seen hq ha' hse
      have wq := w4' q (by omega)
      have no : ∀ rr : Int32, DM (d + 38) 101 [vr 1 0, vi rr, vi (nI at')] gx = some ([vi (-1)], gx) → gx.1 13 0 q = rr → F100_11 (DM (d + 38)) 0 (nI len) (nI at') (nI seen) (nI q) gx = some ([vi (-1)], gx) := by
        intro rr h1 h2
        rw [e100_11, jx_if_lt (by omega) (by omega), jx_if_in (by omega) (by omega), nI_clamp (by omega), h2, h1, jx_bI_s, jx_ifp (by decide), e100_44]
      have nom : F175_110 (DM (d + 39)) gm = some ([vi (jn_b (decide ((-1 : Int32) = nI j)))], gm) := by
        rw [e175_110, decide_eq_false nm1]
        rfl
      cases hr : jb_ip (jb_n N) (gm.1 45 0 q)
      · refine ⟨-1, no _ ?_ wq, ?_⟩
        · rw [d101, e101_0, x'.2.1]
          have := jb_ip_c (p := jb_n N) (a := gm.1 45 0 q) (Y := F101_12 (DM (d + 37)) gx) (X := jx_if (jx_in (gm.1 45 0 q) 20) (jx_if (gx.1 2 0 (gm.1 45 0 q).toNatClampNeg = nI at') (jx_if (jx_in (gm.1 45 0 q) 20) (some ([vi (gx.1 3 0 (gm.1 45 0 q).toNatClampNeg)], gx)) none) (jx_if (gx.1 1 0 2 = 0) (jx_if (jx_in (gm.1 45 0 q) 20) (jx_if (gx.1 3 0 (gm.1 45 0 q).toNatClampNeg = nI at') (jx_if (jx_in (gm.1 45 0 q) 20) (F101_58 (DM (d + 37)) (gx.1 2 0 (gm.1 45 0 q).toNatClampNeg) gx) none) (F101_57 (DM (d + 37)) gx)) none) (F101_57 (DM (d + 37)) gx))) none)
          rw [hr, cond_false] at this
          exact this.trans (e101_12 _ _)
        · rw [e175_55, jx_if_lt (by omega) (by omega), jx_if_in (by omega) (by omega), nI_clamp (by omega), e175_70, dm_isRoad _ m'.2.1, hr, jx_bI_s, jx_ifp (show jn_b false = 0 from rfl)]
          exact nom
      · obtain ⟨r, hrn, er⟩ := jb_ip_t (by omega) hr
        obtain ⟨w1, ww2, w3', _⟩ := w.2.2 r hrn
        obtain ⟨x1, x2, _⟩ := x'.2.2.2 r hrn
        obtain ⟨m1, m2, _⟩ := m'.2.2.2 r hrn
        rw [er] at wq hr
        -- the step to the other end
        have stp : ∀ nx, nx < jb_p N → DM (d + 38) 101 [vr 1 0, vi (nI r), vi (nI at')] gx = some ([vi (nI nx)], gx) → F175_55 (DM (d + 39)) (nI j) (nI len) (nI at') (nI seen) (nI q) gm = F175_143 (DM (d + 39)) (nI j) (nI len) (nI nx) (nI seen) (nI q) gm → ∃ r : Int32, F100_11 (DM (d + 38)) 0 (nI len) (nI at') (nI seen) (nI q) gx = some ([vi r], gx) ∧ F175_55 (DM (d + 39)) (nI j) (nI len) (nI at') (nI seen) (nI q) gm = some ([vi (jn_b (decide (r = nI j)))], gm) := by
          intro nx hnx g1 g2
          have h2n := jn_2lt hnx
          cases hsn : seen.testBit nx
          · obtain ⟨rr, r1, r2⟩ := ih (q + 1) nx (seen ||| 2 ^ nx) (by omega) hnx (jn_or_lt hse h2n)
            refine ⟨rr, ?_, ?_⟩
            · rw [e100_11]
              simp (disch := omega) only [jx_bI_s, jx_bL_s, jx_bV_s, eq_self, true_or, or_true, jx_if_t, jx_if_f, jq_b0, jq_b1, jq_bb, jq_b01, jx_if_in, jx_if_lt, jx_if_nlt, jx_if_le, jx_if_nle, jq_eqp, jq_eqn, nI_clamp, nI_add, pk_sub, pk_mul, jn_and, jn_or, jn_xor, jq_andn, jq_shl1, jq_bit, jq_mn, jq_mx, cond_true, cond_false, jq_jt, jq_jf, jq_e1, jq_e2, jq_e3, jq_e4, Bool.not_true, Bool.not_false, jq_0, jq_1, jq_2, jq_3, jq_4, jq_5, jq_6, jq_8, jq_12, jq_16, jq_20, jq_21, jq_24, jq_30, jq_32, jq_60, jq_84, jq_1000, jq_2436, jq_20001, wq, g1, dm_hasN, hsn, e100_55]
              exact r1
            · rw [g2, e175_143]
              simp (disch := omega) only [jx_bI_s, jx_bL_s, jx_bV_s, eq_self, true_or, or_true, jx_if_t, jx_if_f, jq_b0, jq_b1, jq_bb, jq_b01, jx_if_in, jx_if_lt, jx_if_nlt, jx_if_le, jx_if_nle, jq_eqp, jq_eqn, nI_clamp, nI_add, pk_sub, pk_mul, jn_and, jn_or, jn_xor, jq_andn, jq_shl1, jq_bit, jq_mn, jq_mx, cond_true, cond_false, jq_jt, jq_jf, jq_e1, jq_e2, jq_e3, jq_e4, Bool.not_true, Bool.not_false, jq_0, jq_1, jq_2, jq_3, jq_4, jq_5, jq_6, jq_8, jq_12, jq_16, jq_20, jq_21, jq_24, jq_30, jq_32, jq_60, jq_84, jq_1000, jq_2436, jq_20001, dm_inN, hsn, e175_164]
              exact r2
          · refine ⟨-1, ?_, ?_⟩
            · rw [e100_11]
              simp (disch := omega) only [jx_bI_s, jx_bL_s, jx_bV_s, eq_self, true_or, or_true, jx_if_t, jx_if_f, jq_b0, jq_b1, jq_bb, jq_b01, jx_if_in, jx_if_lt, jx_if_nlt, jx_if_le, jx_if_nle, jq_eqp, jq_eqn, nI_clamp, nI_add, pk_sub, pk_mul, jn_and, jn_or, jn_xor, jq_andn, jq_shl1, jq_bit, jq_mn, jq_mx, cond_true, cond_false, jq_jt, jq_jf, jq_e1, jq_e2, jq_e3, jq_e4, Bool.not_true, Bool.not_false, jq_0, jq_1, jq_2, jq_3, jq_4, jq_5, jq_6, jq_8, jq_12, jq_16, jq_20, jq_21, jq_24, jq_30, jq_32, jq_60, jq_84, jq_1000, jq_2436, jq_20001, wq, g1, dm_hasN, hsn, e100_44]
            · rw [g2, e175_143, decide_eq_false nm1]
              simp (disch := omega) only [jx_bI_s, jx_bL_s, jx_bV_s, eq_self, true_or, or_true, jx_if_t, jx_if_f, jq_b0, jq_b1, jq_bb, jq_b01, jx_if_in, jx_if_lt, jx_if_nlt, jx_if_le, jx_if_nle, jq_eqp, jq_eqn, nI_clamp, nI_add, pk_sub, pk_mul, jn_and, jn_or, jn_xor, jq_andn, jq_shl1, jq_bit, jq_mn, jq_mx, cond_true, cond_false, jq_jt, jq_jf, jq_e1, jq_e2, jq_e3, jq_e4, Bool.not_true, Bool.not_false, jq_0, jq_1, jq_2, jq_3, jq_4, jq_5, jq_6, jq_8, jq_12, jq_16, jq_20, jq_21, jq_24, jq_30, jq_32, jq_60, jq_84, jq_1000, jq_2436, jq_20001, dm_inN, hsn]
        by_cases c1 : jb_f N r = at'
        · refine stp (jb_s N r) ww2 ?_ ?_
          · rw [d101, e101_0, x'.2.1]
            simp (disch := omega) only [jx_bI_s, jx_bL_s, jx_bV_s, eq_self, true_or, or_true, jx_if_t, jx_if_f, jq_b0, jq_b1, jq_bb, jq_b01, jx_if_in, jx_if_lt, jx_if_nlt, jx_if_le, jx_if_nle, jq_eqp, jq_eqn, nI_clamp, nI_add, pk_sub, pk_mul, jn_and, jn_or, jn_xor, jq_andn, jq_shl1, jq_bit, jq_mn, jq_mx, cond_true, cond_false, jq_jt, jq_jf, jq_e1, jq_e2, jq_e3, jq_e4, Bool.not_true, Bool.not_false, jq_0, jq_1, jq_2, jq_3, jq_4, jq_5, jq_6, jq_8, jq_12, jq_16, jq_20, jq_21, jq_24, jq_30, jq_32, jq_60, jq_84, jq_1000, jq_2436, jq_20001, x1, x2]
          · rw [e175_55]
            simp (disch := omega) only [jx_bI_s, jx_bL_s, jx_bV_s, eq_self, true_or, or_true, jx_if_t, jx_if_f, jq_b0, jq_b1, jq_bb, jq_b01, jx_if_in, jx_if_lt, jx_if_nlt, jx_if_le, jx_if_nle, jq_eqp, jq_eqn, nI_clamp, nI_add, pk_sub, pk_mul, jn_and, jn_or, jn_xor, jq_andn, jq_shl1, jq_bit, jq_mn, jq_mx, cond_true, cond_false, jq_jt, jq_jf, jq_e1, jq_e2, jq_e3, jq_e4, Bool.not_true, Bool.not_false, jq_0, jq_1, jq_2, jq_3, jq_4, jq_5, jq_6, jq_8, jq_12, jq_16, jq_20, jq_21, jq_24, jq_30, jq_32, jq_60, jq_84, jq_1000, jq_2436, jq_20001, er, e175_70, dm_isRoad _ m'.2.1, hr, m1, m2, e175_112, e175_141]
        · cases ht : jb_t N
          · by_cases c2 : jb_s N r = at'
            · refine stp (jb_f N r) w1 ?_ ?_
              · rw [d101, e101_0, x'.2.1]
                simp (disch := omega) only [jx_bI_s, jx_bL_s, jx_bV_s, eq_self, true_or, or_true, jx_if_t, jx_if_f, jq_b0, jq_b1, jq_bb, jq_b01, jx_if_in, jx_if_lt, jx_if_nlt, jx_if_le, jx_if_nle, jq_eqp, jq_eqn, nI_clamp, nI_add, pk_sub, pk_mul, jn_and, jn_or, jn_xor, jq_andn, jq_shl1, jq_bit, jq_mn, jq_mx, cond_true, cond_false, jq_jt, jq_jf, jq_e1, jq_e2, jq_e3, jq_e4, Bool.not_true, Bool.not_false, jq_0, jq_1, jq_2, jq_3, jq_4, jq_5, jq_6, jq_8, jq_12, jq_16, jq_20, jq_21, jq_24, jq_30, jq_32, jq_60, jq_84, jq_1000, jq_2436, jq_20001, x1, x2, x'.2.2.1, ht, e101_58]
              · rw [e175_55]
                simp (disch := omega) only [jx_bI_s, jx_bL_s, jx_bV_s, eq_self, true_or, or_true, jx_if_t, jx_if_f, jq_b0, jq_b1, jq_bb, jq_b01, jx_if_in, jx_if_lt, jx_if_nlt, jx_if_le, jx_if_nle, jq_eqp, jq_eqn, nI_clamp, nI_add, pk_sub, pk_mul, jn_and, jn_or, jn_xor, jq_andn, jq_shl1, jq_bit, jq_mn, jq_mx, cond_true, cond_false, jq_jt, jq_jf, jq_e1, jq_e2, jq_e3, jq_e4, Bool.not_true, Bool.not_false, jq_0, jq_1, jq_2, jq_3, jq_4, jq_5, jq_6, jq_8, jq_12, jq_16, jq_20, jq_21, jq_24, jq_30, jq_32, jq_60, jq_84, jq_1000, jq_2436, jq_20001, er, e175_70, dm_isRoad _ m'.2.1, hr, m1, m2, m'.2.2.1, ht, e175_112, e175_141]
            · refine ⟨-1, no _ ?_ wq, ?_⟩
              · rw [d101, e101_0, x'.2.1]
                simp (disch := omega) only [jx_bI_s, jx_bL_s, jx_bV_s, eq_self, true_or, or_true, jx_if_t, jx_if_f, jq_b0, jq_b1, jq_bb, jq_b01, jx_if_in, jx_if_lt, jx_if_nlt, jx_if_le, jx_if_nle, jq_eqp, jq_eqn, nI_clamp, nI_add, pk_sub, pk_mul, jn_and, jn_or, jn_xor, jq_andn, jq_shl1, jq_bit, jq_mn, jq_mx, cond_true, cond_false, jq_jt, jq_jf, jq_e1, jq_e2, jq_e3, jq_e4, Bool.not_true, Bool.not_false, jq_0, jq_1, jq_2, jq_3, jq_4, jq_5, jq_6, jq_8, jq_12, jq_16, jq_20, jq_21, jq_24, jq_30, jq_32, jq_60, jq_84, jq_1000, jq_2436, jq_20001, x1, x2, x'.2.2.1, ht, e101_57, e101_58]
              · rw [e175_55]
                simp (disch := omega) only [jx_bI_s, jx_bL_s, jx_bV_s, eq_self, true_or, or_true, jx_if_t, jx_if_f, jq_b0, jq_b1, jq_bb, jq_b01, jx_if_in, jx_if_lt, jx_if_nlt, jx_if_le, jx_if_nle, jq_eqp, jq_eqn, nI_clamp, nI_add, pk_sub, pk_mul, jn_and, jn_or, jn_xor, jq_andn, jq_shl1, jq_bit, jq_mn, jq_mx, cond_true, cond_false, jq_jt, jq_jf, jq_e1, jq_e2, jq_e3, jq_e4, Bool.not_true, Bool.not_false, jq_0, jq_1, jq_2, jq_3, jq_4, jq_5, jq_6, jq_8, jq_12, jq_16, jq_20, jq_21, jq_24, jq_30, jq_32, jq_60, jq_84, jq_1000, jq_2436, jq_20001, er, e175_70, dm_isRoad _ m'.2.1, hr, m1, m2, m'.2.2.1, ht]
                exact nom
          · refine ⟨-1, no _ ?_ wq, ?_⟩
            · rw [d101, e101_0, x'.2.1]
              simp (disch := omega) only [jx_bI_s, jx_bL_s, jx_bV_s, eq_self, true_or, or_true, jx_if_t, jx_if_f, jq_b0, jq_b1, jq_bb, jq_b01, jx_if_in, jx_if_lt, jx_if_nlt, jx_if_le, jx_if_nle, jq_eqp, jq_eqn, nI_clamp, nI_add, pk_sub, pk_mul, jn_and, jn_or, jn_xor, jq_andn, jq_shl1, jq_bit, jq_mn, jq_mx, cond_true, cond_false, jq_jt, jq_jf, jq_e1, jq_e2, jq_e3, jq_e4, Bool.not_true, Bool.not_false, jq_0, jq_1, jq_2, jq_3, jq_4, jq_5, jq_6, jq_8, jq_12, jq_16, jq_20, jq_21, jq_24, jq_30, jq_32, jq_60, jq_84, jq_1000, jq_2436, jq_20001, x1, x2, x'.2.2.1, ht, e101_57, e101_58]
            · rw [e175_55]
              simp (disch := omega) only [jx_bI_s, jx_bL_s, jx_bV_s, eq_self, true_or, or_true, jx_if_t, jx_if_f, jq_b0, jq_b1, jq_bb, jq_b01, jx_if_in, jx_if_lt, jx_if_nlt, jx_if_le, jx_if_nle, jq_eqp, jq_eqn, nI_clamp, nI_add, pk_sub, pk_mul, jn_and, jn_or, jn_xor, jq_andn, jq_shl1, jq_bit, jq_mn, jq_mx, cond_true, cond_false, jq_jt, jq_jf, jq_e1, jq_e2, jq_e3, jq_e4, Bool.not_true, Bool.not_false, jq_0, jq_1, jq_2, jq_3, jq_4, jq_5, jq_6, jq_8, jq_12, jq_16, jq_20, jq_21, jq_24, jq_30, jq_32, jq_60, jq_84, jq_1000, jq_2436, jq_20001, er, e175_70, dm_isRoad _ m'.2.1, hr, m1, m2, m'.2.2.1, ht]
              exact nom
  obtain ⟨r, r1, r2⟩ := loop len 0 i (2 ^ i) (by omega) hi (jn_2lt hi)
  refine ⟨jn_b (decide (r = nI j)), gx, gm, pX _ ?_, pM2 _ r2, J⟩
  rw [kt, jx_bI_s, jx_ifp (show nI 0 = 0 from rfl), d100, e100_0, show (1 : Int32) = nI 1 from rfl, jq_shl1 (by omega), e100_8]
  have r1' : F100_11 (DM (d + 38)) 0 (nI len) (nI i) (nI (2 ^ i)) 0 gx = some ([vi r], gx) := r1
  rw [r1', jx_bI_s]
  by_cases c : r = nI j
  · rw [jx_ifp c, decide_eq_true c, e99_52]
    rfl
  · rw [jx_ifn c, decide_eq_false c, e99_52]
    rfl
end
