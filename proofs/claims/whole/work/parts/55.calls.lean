/-! ===== layer 2: road, worth, of, undo, tell ===== -/
def jb_add (N : jb_N) (a b : Nat) : jb_N := (jb_p N, jb_n N + 1, jb_t N, fun r => if r = jb_n N then a else jb_f N r, fun r => if r = jb_n N then b else jb_s N r, fun r => if r = jb_n N then 1 else jb_c N r, fun r => if r = jb_n N then 4 else jb_g N r)
theorem jb_add_wf {N : jb_N} (w : jb_wf N) {a b : Nat} (ha : a < jb_p N) (hb : b < jb_p N) (ne : a ≠ b) (hn : jb_n N < 20) : jb_wf (jb_add N a b) := by
  refine ⟨w.1, hn, fun r hr => ?_⟩
  have hr : r < jb_n N + 1 := hr
  show (if r = jb_n N then a else jb_f N r) < jb_p N ∧ (if r = jb_n N then b else jb_s N r) < jb_p N ∧ (if r = jb_n N then a else jb_f N r) ≠ (if r = jb_n N then b else jb_s N r) ∧ (if r = jb_n N then 1 else jb_c N r) ≤ 1000 ∧ (if r = jb_n N then 4 else jb_g N r) ≤ 8
  by_cases e : r = jb_n N
  · simp only [if_pos e]
    exact ⟨ha, hb, ne, by decide, by decide⟩
  · simp only [if_neg e]
    exact w.2.2 r (by omega)
section
variable {d : Nat} {N : jb_N}
theorem dm_addX {h : jx_H} (x : jb_X h 0 N) {a b : Nat} (hn : jb_n N < 20) : ∃ h', DM (d + 1) 13 [vr 1 0, vi (nI a), vi (nI b)] h = some ([vi (nI (jb_n N))], h') ∧ jb_X h' 0 (jb_add N a b) ∧ ∀ c i, ¬ (1 ≤ c ∧ c ≤ 5 ∧ i = 0) → h'.1 c i = h.1 c i := by
  obtain ⟨x0, x1, x2, x3⟩ := x
  refine ⟨jx_sI (jx_sI (jx_sI (jx_sI (jx_sI h 2 0 (jb_n N) (nI a)) 3 0 (jb_n N) (nI b)) 4 0 (jb_n N) (nI 1)) 5 0 (jb_n N) (nI 4)) 1 0 1 (nI (jb_n N + 1)), ?_, ⟨?_, jx_ss, ?_, fun r hr => ?_⟩, fun c i hc => ?_⟩
  · rw [d13, e13_0, x1]
    simp (disch := omega) only [jx_bI_s, jx_bL_s, jx_bV_s, eq_self, true_or, or_true, jx_if_t, jx_if_f, jq_b0, jq_b1, jq_bb, jq_b01, jx_if_in, jx_if_lt, jx_if_nlt, jx_if_le, jx_if_nle, jq_eqp, jq_eqn, nI_clamp, nI_add, pk_sub, pk_mul, jn_and, jn_or, jn_xor, jq_andn, jq_shl1, jq_bit, jq_mn, jq_mx, cond_true, cond_false, jq_jt, jq_jf, jq_e1, jq_e2, jq_e3, jq_e4, Bool.not_true, Bool.not_false, jq_0, jq_1, jq_2, jq_3, jq_4, jq_5, jq_6, jq_8, jq_12, jq_16, jq_20, jq_21, jq_24, jq_30, jq_32, jq_60, jq_84, jq_1000, jq_2436, jq_20001]
  · rw [jx_sp (by decide), jx_sk (by decide), jx_sk (by decide), jx_sk (by decide), jx_sk (by decide)]; exact x0
  · rw [jx_sp (by decide), jx_sk (by decide), jx_sk (by decide), jx_sk (by decide), jx_sk (by decide)]; exact x2
  · have hr : r < jb_n N + 1 := hr
    show _ = nI (if r = jb_n N then a else jb_f N r) ∧ _ = nI (if r = jb_n N then b else jb_s N r) ∧ _ = nI (if r = jb_n N then 1 else jb_c N r) ∧ _ = nI (if r = jb_n N then 4 else jb_g N r)
    by_cases e : r = jb_n N
    · simp only [if_pos e]
      rw [e]
      exact ⟨by rw [jx_sk (by decide), jx_sk (by decide), jx_sk (by decide), jx_sk (by decide), jx_ss], by rw [jx_sk (by decide), jx_sk (by decide), jx_sk (by decide), jx_ss], by rw [jx_sk (by decide), jx_sk (by decide), jx_ss], by rw [jx_sk (by decide), jx_ss]⟩
    · simp only [if_neg e]
      obtain ⟨y1, y2, y3, y4⟩ := x3 r (by omega)
      exact ⟨by rw [jx_sk (by decide), jx_sk (by decide), jx_sk (by decide), jx_sk (by decide), jx_sp e]; exact y1, by rw [jx_sk (by decide), jx_sk (by decide), jx_sk (by decide), jx_sp e, jx_sk (by decide)]; exact y2, by rw [jx_sk (by decide), jx_sk (by decide), jx_sp e, jx_sk (by decide), jx_sk (by decide)]; exact y3, by rw [jx_sk (by decide), jx_sp e, jx_sk (by decide), jx_sk (by decide), jx_sk (by decide)]; exact y4⟩
  · by_cases hi : i = 0
    · rw [jx_sk (by omega), jx_sk (by omega), jx_sk (by omega), jx_sk (by omega), jx_sk (by omega)]
    · rw [jx_si hi, jx_si hi, jx_si hi, jx_si hi, jx_si hi]
theorem dm_addM {h : jx_H} (m : jb_M h N) {a b : Nat} (hn : jb_n N < 20) : ∃ h', DM (d + 1) 119 [vr 30 0, vi (nI a), vi (nI b)] h = some ([], h') ∧ jb_M h' (jb_add N a b) ∧ (∀ q, 3 ≤ q → h'.1 30 0 q = h.1 30 0 q) ∧ ∀ c, c ≠ 30 → ¬ (33 ≤ c ∧ c ≤ 36) → h'.1 c = h.1 c := by
  obtain ⟨x0, x1, x2, x3⟩ := m
  refine ⟨jx_sI (jx_sI (jx_sI (jx_sI (jx_sI h 33 0 (jb_n N) (nI a)) 34 0 (jb_n N) (nI b)) 35 0 (jb_n N) (nI 1)) 36 0 (jb_n N) (nI 4)) 30 0 1 (nI (jb_n N + 1)), ?_, ⟨?_, jx_ss, ?_, fun r hr => ?_⟩, fun q hq => ?_, fun c h1 h2 => ?_⟩
  · rw [d119, e119_0, x1]
    simp (disch := omega) only [jx_bI_s, jx_bL_s, jx_bV_s, eq_self, true_or, or_true, jx_if_t, jx_if_f, jq_b0, jq_b1, jq_bb, jq_b01, jx_if_in, jx_if_lt, jx_if_nlt, jx_if_le, jx_if_nle, jq_eqp, jq_eqn, nI_clamp, nI_add, pk_sub, pk_mul, jn_and, jn_or, jn_xor, jq_andn, jq_shl1, jq_bit, jq_mn, jq_mx, cond_true, cond_false, jq_jt, jq_jf, jq_e1, jq_e2, jq_e3, jq_e4, Bool.not_true, Bool.not_false, jq_0, jq_1, jq_2, jq_3, jq_4, jq_5, jq_6, jq_8, jq_12, jq_16, jq_20, jq_21, jq_24, jq_30, jq_32, jq_60, jq_84, jq_1000, jq_2436, jq_20001]
  · rw [jx_sp (by decide), jx_sk (by decide), jx_sk (by decide), jx_sk (by decide), jx_sk (by decide)]; exact x0
  · rw [jx_sp (by decide), jx_sk (by decide), jx_sk (by decide), jx_sk (by decide), jx_sk (by decide)]; exact x2
  · have hr : r < jb_n N + 1 := hr
    show _ = nI (if r = jb_n N then a else jb_f N r) ∧ _ = nI (if r = jb_n N then b else jb_s N r) ∧ _ = nI (if r = jb_n N then 1 else jb_c N r) ∧ _ = nI (if r = jb_n N then 4 else jb_g N r)
    by_cases e : r = jb_n N
    · simp only [if_pos e]
      rw [e]
      exact ⟨by rw [jx_sk (by decide), jx_sk (by decide), jx_sk (by decide), jx_sk (by decide), jx_ss], by rw [jx_sk (by decide), jx_sk (by decide), jx_sk (by decide), jx_ss], by rw [jx_sk (by decide), jx_sk (by decide), jx_ss], by rw [jx_sk (by decide), jx_ss]⟩
    · simp only [if_neg e]
      obtain ⟨y1, y2, y3, y4⟩ := x3 r (by omega)
      exact ⟨by rw [jx_sk (by decide), jx_sk (by decide), jx_sk (by decide), jx_sk (by decide), jx_sp e]; exact y1, by rw [jx_sk (by decide), jx_sk (by decide), jx_sk (by decide), jx_sp e, jx_sk (by decide)]; exact y2, by rw [jx_sk (by decide), jx_sk (by decide), jx_sp e, jx_sk (by decide), jx_sk (by decide)]; exact y3, by rw [jx_sk (by decide), jx_sp e, jx_sk (by decide), jx_sk (by decide), jx_sk (by decide)]; exact y4⟩
  · rw [jx_sp (by omega), jx_sk (by decide), jx_sk (by decide), jx_sk (by decide), jx_sk (by decide)]
  · rw [jx_sk (by omega), jx_sk (by omega), jx_sk (by omega), jx_sk (by omega), jx_sk (by omega)]
end
section
variable {d : Nat} {hx hm : jx_H}
theorem jt_2 (I : jb_Inv hx hm) (a b : Int32) : jl_g d 10 117 [vi a, vi b] hx hm := by
  obtain ⟨N, w, x, m⟩ := I.1
  have hp := w.1
  have hn := w.2.1
  refine jl_two I x.1 w.1 (fun c => ?_) (fun c1 c2 e => ?_) (fun i j hi hj ne e1 e2 => ?_)
  · refine ⟨?_, ?_⟩
    · rw [d10, e10_0, dm_two0 b x.1 c, jx_bI_s, jx_ifn (by decide), e10_26, jx_ifn (by decide), dm_fx, jx_bI_s]
    · rw [d117, e117_0, dm_isPost a m.1]
      rcases c with c | c
      · simp (disch := omega) only [jx_bI_s, jx_bL_s, jx_bV_s, eq_self, true_or, or_true, jx_if_t, jx_if_f, jq_b0, jq_b1, jq_bb, jq_b01, jx_if_in, jx_if_lt, jx_if_nlt, jx_if_le, jx_if_nle, jq_eqp, jq_eqn, nI_clamp, nI_add, pk_sub, pk_mul, jn_and, jn_or, jn_xor, jq_andn, jq_shl1, jq_bit, jq_mn, jq_mx, cond_true, cond_false, jq_jt, jq_jf, jq_e1, jq_e2, jq_e3, jq_e4, Bool.not_true, Bool.not_false, jq_0, jq_1, jq_2, jq_3, jq_4, jq_5, jq_6, jq_8, jq_12, jq_16, jq_20, jq_21, jq_24, jq_30, jq_32, jq_60, jq_84, jq_1000, jq_2436, jq_20001, c, e117_16, dm_fm]
      · cases ka : jb_ip (jb_p N) a <;> simp (disch := omega) only [jx_bI_s, jx_bL_s, jx_bV_s, eq_self, true_or, or_true, jx_if_t, jx_if_f, jq_b0, jq_b1, jq_bb, jq_b01, jx_if_in, jx_if_lt, jx_if_nlt, jx_if_le, jx_if_nle, jq_eqp, jq_eqn, nI_clamp, nI_add, pk_sub, pk_mul, jn_and, jn_or, jn_xor, jq_andn, jq_shl1, jq_bit, jq_mn, jq_mx, cond_true, cond_false, jq_jt, jq_jf, jq_e1, jq_e2, jq_e3, jq_e4, Bool.not_true, Bool.not_false, jq_0, jq_1, jq_2, jq_3, jq_4, jq_5, jq_6, jq_8, jq_12, jq_16, jq_20, jq_21, jq_24, jq_30, jq_32, jq_60, jq_84, jq_1000, jq_2436, jq_20001, dm_isPost b m.1, c, e117_16, dm_fm]
  · refine ⟨?_, ?_⟩
    · rw [d10, e10_0, dm_two1 x.1 c1 c2 e, jx_bI_s, jx_ifn (by decide), e10_26, jx_ifn (by decide), dm_fx, jx_bI_s]
    · rw [d117, e117_0]
      simp (disch := omega) only [jx_bI_s, jx_bL_s, jx_bV_s, eq_self, true_or, or_true, jx_if_t, jx_if_f, jq_b0, jq_b1, jq_bb, jq_b01, jx_if_in, jx_if_lt, jx_if_nlt, jx_if_le, jx_if_nle, jq_eqp, jq_eqn, nI_clamp, nI_add, pk_sub, pk_mul, jn_and, jn_or, jn_xor, jq_andn, jq_shl1, jq_bit, jq_mn, jq_mx, cond_true, cond_false, jq_jt, jq_jf, jq_e1, jq_e2, jq_e3, jq_e4, Bool.not_true, Bool.not_false, jq_0, jq_1, jq_2, jq_3, jq_4, jq_5, jq_6, jq_8, jq_12, jq_16, jq_20, jq_21, jq_24, jq_30, jq_32, jq_60, jq_84, jq_1000, jq_2436, jq_20001, dm_isPost a m.1, dm_isPost b m.1, c1, c2, jx_ifp e, dm_fm]
  · have k1 := jb_ip_n (p := jb_p N) (by have := w.1; omega) hi
    have k2 := jb_ip_n (p := jb_p N) (by have := w.1; omega) hj
    have kt := dm_two2 (d := d + 37) x.1 k1 k2 (fun k => ne (jq_inj (by omega) (by omega) k))
    by_cases h20 : jb_n N = 20
    · refine ⟨-5, _, _, ?_, ?_, I.fd⟩
      · rw [d10, e10_0]
        simp (disch := omega) only [jx_bI_s, jx_bL_s, jx_bV_s, eq_self, true_or, or_true, jx_if_t, jx_if_f, jq_b0, jq_b1, jq_bb, jq_b01, jx_if_in, jx_if_lt, jx_if_nlt, jx_if_le, jx_if_nle, jq_eqp, jq_eqn, nI_clamp, nI_add, pk_sub, pk_mul, jn_and, jn_or, jn_xor, jq_andn, jq_shl1, jq_bit, jq_mn, jq_mx, cond_true, cond_false, jq_jt, jq_jf, jq_e1, jq_e2, jq_e3, jq_e4, Bool.not_true, Bool.not_false, jq_0, jq_1, jq_2, jq_3, jq_4, jq_5, jq_6, jq_8, jq_12, jq_16, jq_20, jq_21, jq_24, jq_30, jq_32, jq_60, jq_84, jq_1000, jq_2436, jq_20001, kt, x.2.1, e10_26]
        rw [jx_ifn (by decide), dm_fx, jx_bI_s]
        rfl
      · rw [d117, e117_0]
        simp (disch := omega) only [jx_bI_s, jx_bL_s, jx_bV_s, eq_self, true_or, or_true, jx_if_t, jx_if_f, jq_b0, jq_b1, jq_bb, jq_b01, jx_if_in, jx_if_lt, jx_if_nlt, jx_if_le, jx_if_nle, jq_eqp, jq_eqn, nI_clamp, nI_add, pk_sub, pk_mul, jn_and, jn_or, jn_xor, jq_andn, jq_shl1, jq_bit, jq_mn, jq_mx, cond_true, cond_false, jq_jt, jq_jf, jq_e1, jq_e2, jq_e3, jq_e4, Bool.not_true, Bool.not_false, jq_0, jq_1, jq_2, jq_3, jq_4, jq_5, jq_6, jq_8, jq_12, jq_16, jq_20, jq_21, jq_24, jq_30, jq_32, jq_60, jq_84, jq_1000, jq_2436, jq_20001, dm_isPost _ m.1, k1, k2, m.2.1, dm_fm]
    · obtain ⟨hx', hm', a1, a2, I', x', m', _, _⟩ := I.chg d x m
      obtain ⟨h1, b1, b2, b3⟩ := dm_addX (d := d + 38) x' (a := i) (b := j) (by omega)
      obtain ⟨h2, c1, c2, c3, c4⟩ := dm_addM (d := d + 38) m' (a := i) (b := j) (by omega)
      refine ⟨nI (jb_n N), h1, h2, ?_, ?_, I'.net b3 c3 c4 ⟨jb_add N i j, jb_add_wf w hi hj ne (by omega), b2, c2⟩⟩
      · rw [d10, e10_0]
        simp (disch := omega) only [jx_bI_s, jx_bL_s, jx_bV_s, eq_self, true_or, or_true, jx_if_t, jx_if_f, jq_b0, jq_b1, jq_bb, jq_b01, jx_if_in, jx_if_lt, jx_if_nlt, jx_if_le, jx_if_nle, jq_eqp, jq_eqn, nI_clamp, nI_add, pk_sub, pk_mul, jn_and, jn_or, jn_xor, jq_andn, jq_shl1, jq_bit, jq_mn, jq_mx, cond_true, cond_false, jq_jt, jq_jf, jq_e1, jq_e2, jq_e3, jq_e4, Bool.not_true, Bool.not_false, jq_0, jq_1, jq_2, jq_3, jq_4, jq_5, jq_6, jq_8, jq_12, jq_16, jq_20, jq_21, jq_24, jq_30, jq_32, jq_60, jq_84, jq_1000, jq_2436, jq_20001, kt, x.2.1, e10_26, a1, b1]
      · have e1 : h2.1 30 0 1 = nI (jb_n N + 1) := c2.2.1
        rw [d117, e117_0]
        simp (disch := omega) only [jx_bI_s, jx_bL_s, jx_bV_s, eq_self, true_or, or_true, jx_if_t, jx_if_f, jq_b0, jq_b1, jq_bb, jq_b01, jx_if_in, jx_if_lt, jx_if_nlt, jx_if_le, jx_if_nle, jq_eqp, jq_eqn, nI_clamp, nI_add, pk_sub, pk_mul, jn_and, jn_or, jn_xor, jq_andn, jq_shl1, jq_bit, jq_mn, jq_mx, cond_true, cond_false, jq_jt, jq_jf, jq_e1, jq_e2, jq_e3, jq_e4, Bool.not_true, Bool.not_false, jq_0, jq_1, jq_2, jq_3, jq_4, jq_5, jq_6, jq_8, jq_12, jq_16, jq_20, jq_21, jq_24, jq_30, jq_32, jq_60, jq_84, jq_1000, jq_2436, jq_20001, dm_isPost _ m.1, k1, k2, m.2.1, a2, c1, e1, Nat.add_sub_cancel]
theorem jt_6 (I : jb_Inv hx hm) (a b : Int32) : jl_g d 23 126 [vi a, vi b] hx hm := by
  obtain ⟨N, w, x, m⟩ := I.1
  have hp := w.1
  have hn := w.2.1
  cases ha : jb_ip (jb_n N) a
  · refine ⟨-1, _, _, ?_, ?_, I.fd⟩
    · rw [d23, e23_0]
      simp (disch := omega) only [jx_bI_s, jx_bL_s, jx_bV_s, eq_self, true_or, or_true, jx_if_t, jx_if_f, jq_b0, jq_b1, jq_bb, jq_b01, jx_if_in, jx_if_lt, jx_if_nlt, jx_if_le, jx_if_nle, jq_eqp, jq_eqn, nI_clamp, nI_add, pk_sub, pk_mul, jn_and, jn_or, jn_xor, jq_andn, jq_shl1, jq_bit, jq_mn, jq_mx, cond_true, cond_false, jq_jt, jq_jf, jq_e1, jq_e2, jq_e3, jq_e4, Bool.not_true, Bool.not_false, jq_0, jq_1, jq_2, jq_3, jq_4, jq_5, jq_6, jq_8, jq_12, jq_16, jq_20, jq_21, jq_24, jq_30, jq_32, jq_60, jq_84, jq_1000, jq_2436, jq_20001, dm_noRoad a x.2.1, ha, dm_fx]
    · rw [d126, e126_0]
      simp (disch := omega) only [jx_bI_s, jx_bL_s, jx_bV_s, eq_self, true_or, or_true, jx_if_t, jx_if_f, jq_b0, jq_b1, jq_bb, jq_b01, jx_if_in, jx_if_lt, jx_if_nlt, jx_if_le, jx_if_nle, jq_eqp, jq_eqn, nI_clamp, nI_add, pk_sub, pk_mul, jn_and, jn_or, jn_xor, jq_andn, jq_shl1, jq_bit, jq_mn, jq_mx, cond_true, cond_false, jq_jt, jq_jf, jq_e1, jq_e2, jq_e3, jq_e4, Bool.not_true, Bool.not_false, jq_0, jq_1, jq_2, jq_3, jq_4, jq_5, jq_6, jq_8, jq_12, jq_16, jq_20, jq_21, jq_24, jq_30, jq_32, jq_60, jq_84, jq_1000, jq_2436, jq_20001, dm_isRoad a m.2.1, ha, e126_17, dm_fm]
  · obtain ⟨r, hr, rfl⟩ := jb_ip_t (by omega) ha
    obtain ⟨x1, x2, x3, x4⟩ := x.2.2.2 r hr
    obtain ⟨m1, m2, m3, m4⟩ := m.2.2.2 r hr
    rcases pk_ix b (n := 4) (by decide) with k | k | ⟨j, hj, rfl⟩
    · have n0 : ∀ j : Nat, j < 4 → ¬ b = nI j := fun j hj e => nI_pos (n := j) (by omega) (by rw [← e]; exact k)
      refine ⟨-1, _, _, ?_, ?_, I.fd⟩
      · rw [d23, e23_0]
        simp (disch := omega) only [jx_bI_s, jx_bL_s, jx_bV_s, eq_self, true_or, or_true, jx_if_t, jx_if_f, jq_b0, jq_b1, jq_bb, jq_b01, jx_if_in, jx_if_lt, jx_if_nlt, jx_if_le, jx_if_nle, jq_eqp, jq_eqn, nI_clamp, nI_add, pk_sub, pk_mul, jn_and, jn_or, jn_xor, jq_andn, jq_shl1, jq_bit, jq_mn, jq_mx, cond_true, cond_false, jq_jt, jq_jf, jq_e1, jq_e2, jq_e3, jq_e4, Bool.not_true, Bool.not_false, jq_0, jq_1, jq_2, jq_3, jq_4, jq_5, jq_6, jq_8, jq_12, jq_16, jq_20, jq_21, jq_24, jq_30, jq_32, jq_60, jq_84, jq_1000, jq_2436, jq_20001, dm_noRoad _ x.2.1, ha, jx_ifn (n0 0 (by decide)), jx_ifn (n0 1 (by decide)), jx_ifn (n0 2 (by decide)), jx_ifn (n0 3 (by decide)), dm_fx]
      · rw [d126, e126_0]
        simp (disch := omega) only [jx_bI_s, jx_bL_s, jx_bV_s, eq_self, true_or, or_true, jx_if_t, jx_if_f, jq_b0, jq_b1, jq_bb, jq_b01, jx_if_in, jx_if_lt, jx_if_nlt, jx_if_le, jx_if_nle, jq_eqp, jq_eqn, nI_clamp, nI_add, pk_sub, pk_mul, jn_and, jn_or, jn_xor, jq_andn, jq_shl1, jq_bit, jq_mn, jq_mx, cond_true, cond_false, jq_jt, jq_jf, jq_e1, jq_e2, jq_e3, jq_e4, Bool.not_true, Bool.not_false, jq_0, jq_1, jq_2, jq_3, jq_4, jq_5, jq_6, jq_8, jq_12, jq_16, jq_20, jq_21, jq_24, jq_30, jq_32, jq_60, jq_84, jq_1000, jq_2436, jq_20001, dm_isRoad _ m.2.1, ha, jx_ifp (show b < nI 0 from k), e126_17, dm_fm]
    · have n0 : ∀ j : Nat, j < 4 → ¬ b = nI j := fun j hj e => nI_ge hj (by decide) (by rw [← e]; exact k)
      have k0 : ¬ b < nI 0 := fun c => by
        rw [Int32.lt_iff_toInt_lt] at c
        rw [Int32.le_iff_toInt_le] at k
        have e0 : (nI 0).toInt = 0 := by decide
        have e1 : (nI 4).toInt = 4 := by decide
        omega
      have k3 : ¬ b ≤ nI 3 := fun c => by
        rw [Int32.le_iff_toInt_le] at c
        rw [Int32.le_iff_toInt_le] at k
        have e0 : (nI 3).toInt = 3 := by decide
        have e1 : (nI 4).toInt = 4 := by decide
        omega
      refine ⟨-1, _, _, ?_, ?_, I.fd⟩
      · rw [d23, e23_0]
        simp (disch := omega) only [jx_bI_s, jx_bL_s, jx_bV_s, eq_self, true_or, or_true, jx_if_t, jx_if_f, jq_b0, jq_b1, jq_bb, jq_b01, jx_if_in, jx_if_lt, jx_if_nlt, jx_if_le, jx_if_nle, jq_eqp, jq_eqn, nI_clamp, nI_add, pk_sub, pk_mul, jn_and, jn_or, jn_xor, jq_andn, jq_shl1, jq_bit, jq_mn, jq_mx, cond_true, cond_false, jq_jt, jq_jf, jq_e1, jq_e2, jq_e3, jq_e4, Bool.not_true, Bool.not_false, jq_0, jq_1, jq_2, jq_3, jq_4, jq_5, jq_6, jq_8, jq_12, jq_16, jq_20, jq_21, jq_24, jq_30, jq_32, jq_60, jq_84, jq_1000, jq_2436, jq_20001, dm_noRoad _ x.2.1, ha, jx_ifn (n0 0 (by decide)), jx_ifn (n0 1 (by decide)), jx_ifn (n0 2 (by decide)), jx_ifn (n0 3 (by decide)), dm_fx]
      · rw [d126, e126_0]
        simp (disch := omega) only [jx_bI_s, jx_bL_s, jx_bV_s, eq_self, true_or, or_true, jx_if_t, jx_if_f, jq_b0, jq_b1, jq_bb, jq_b01, jx_if_in, jx_if_lt, jx_if_nlt, jx_if_le, jx_if_nle, jq_eqp, jq_eqn, nI_clamp, nI_add, pk_sub, pk_mul, jn_and, jn_or, jn_xor, jq_andn, jq_shl1, jq_bit, jq_mn, jq_mx, cond_true, cond_false, jq_jt, jq_jf, jq_e1, jq_e2, jq_e3, jq_e4, Bool.not_true, Bool.not_false, jq_0, jq_1, jq_2, jq_3, jq_4, jq_5, jq_6, jq_8, jq_12, jq_16, jq_20, jq_21, jq_24, jq_30, jq_32, jq_60, jq_84, jq_1000, jq_2436, jq_20001, dm_isRoad _ m.2.1, ha, jx_ifn k0, jx_ifn k3, e126_17, dm_fm]
    · rcases (show j = 0 ∨ j = 1 ∨ j = 2 ∨ j = 3 by omega) with rfl | rfl | rfl | rfl
      · refine ⟨nI (jb_f N r), hx, hm, ?_, ?_, I⟩
        · rw [d23, e23_0]
          simp (disch := omega) only [jx_bI_s, jx_bL_s, jx_bV_s, eq_self, true_or, or_true, jx_if_t, jx_if_f, jq_b0, jq_b1, jq_bb, jq_b01, jx_if_in, jx_if_lt, jx_if_nlt, jx_if_le, jx_if_nle, jq_eqp, jq_eqn, nI_clamp, nI_add, pk_sub, pk_mul, jn_and, jn_or, jn_xor, jq_andn, jq_shl1, jq_bit, jq_mn, jq_mx, cond_true, cond_false, jq_jt, jq_jf, jq_e1, jq_e2, jq_e3, jq_e4, Bool.not_true, Bool.not_false, jq_0, jq_1, jq_2, jq_3, jq_4, jq_5, jq_6, jq_8, jq_12, jq_16, jq_20, jq_21, jq_24, jq_30, jq_32, jq_60, jq_84, jq_1000, jq_2436, jq_20001, dm_noRoad _ x.2.1, ha, x1]
        · rw [d126, e126_0]
          simp (disch := omega) only [jx_bI_s, jx_bL_s, jx_bV_s, eq_self, true_or, or_true, jx_if_t, jx_if_f, jq_b0, jq_b1, jq_bb, jq_b01, jx_if_in, jx_if_lt, jx_if_nlt, jx_if_le, jx_if_nle, jq_eqp, jq_eqn, nI_clamp, nI_add, pk_sub, pk_mul, jn_and, jn_or, jn_xor, jq_andn, jq_shl1, jq_bit, jq_mn, jq_mx, cond_true, cond_false, jq_jt, jq_jf, jq_e1, jq_e2, jq_e3, jq_e4, Bool.not_true, Bool.not_false, jq_0, jq_1, jq_2, jq_3, jq_4, jq_5, jq_6, jq_8, jq_12, jq_16, jq_20, jq_21, jq_24, jq_30, jq_32, jq_60, jq_84, jq_1000, jq_2436, jq_20001, dm_isRoad _ m.2.1, ha, m1, e126_70]
      · refine ⟨nI (jb_s N r), hx, hm, ?_, ?_, I⟩
        · rw [d23, e23_0]
          simp (disch := omega) only [jx_bI_s, jx_bL_s, jx_bV_s, eq_self, true_or, or_true, jx_if_t, jx_if_f, jq_b0, jq_b1, jq_bb, jq_b01, jx_if_in, jx_if_lt, jx_if_nlt, jx_if_le, jx_if_nle, jq_eqp, jq_eqn, nI_clamp, nI_add, pk_sub, pk_mul, jn_and, jn_or, jn_xor, jq_andn, jq_shl1, jq_bit, jq_mn, jq_mx, cond_true, cond_false, jq_jt, jq_jf, jq_e1, jq_e2, jq_e3, jq_e4, Bool.not_true, Bool.not_false, jq_0, jq_1, jq_2, jq_3, jq_4, jq_5, jq_6, jq_8, jq_12, jq_16, jq_20, jq_21, jq_24, jq_30, jq_32, jq_60, jq_84, jq_1000, jq_2436, jq_20001, dm_noRoad _ x.2.1, ha, x2]
        · rw [d126, e126_0]
          simp (disch := omega) only [jx_bI_s, jx_bL_s, jx_bV_s, eq_self, true_or, or_true, jx_if_t, jx_if_f, jq_b0, jq_b1, jq_bb, jq_b01, jx_if_in, jx_if_lt, jx_if_nlt, jx_if_le, jx_if_nle, jq_eqp, jq_eqn, nI_clamp, nI_add, pk_sub, pk_mul, jn_and, jn_or, jn_xor, jq_andn, jq_shl1, jq_bit, jq_mn, jq_mx, cond_true, cond_false, jq_jt, jq_jf, jq_e1, jq_e2, jq_e3, jq_e4, Bool.not_true, Bool.not_false, jq_0, jq_1, jq_2, jq_3, jq_4, jq_5, jq_6, jq_8, jq_12, jq_16, jq_20, jq_21, jq_24, jq_30, jq_32, jq_60, jq_84, jq_1000, jq_2436, jq_20001, dm_isRoad _ m.2.1, ha, m2, e126_70]
      · refine ⟨nI (jb_c N r), hx, hm, ?_, ?_, I⟩
        · rw [d23, e23_0]
          simp (disch := omega) only [jx_bI_s, jx_bL_s, jx_bV_s, eq_self, true_or, or_true, jx_if_t, jx_if_f, jq_b0, jq_b1, jq_bb, jq_b01, jx_if_in, jx_if_lt, jx_if_nlt, jx_if_le, jx_if_nle, jq_eqp, jq_eqn, nI_clamp, nI_add, pk_sub, pk_mul, jn_and, jn_or, jn_xor, jq_andn, jq_shl1, jq_bit, jq_mn, jq_mx, cond_true, cond_false, jq_jt, jq_jf, jq_e1, jq_e2, jq_e3, jq_e4, Bool.not_true, Bool.not_false, jq_0, jq_1, jq_2, jq_3, jq_4, jq_5, jq_6, jq_8, jq_12, jq_16, jq_20, jq_21, jq_24, jq_30, jq_32, jq_60, jq_84, jq_1000, jq_2436, jq_20001, dm_noRoad _ x.2.1, ha, x3]
        · rw [d126, e126_0]
          simp (disch := omega) only [jx_bI_s, jx_bL_s, jx_bV_s, eq_self, true_or, or_true, jx_if_t, jx_if_f, jq_b0, jq_b1, jq_bb, jq_b01, jx_if_in, jx_if_lt, jx_if_nlt, jx_if_le, jx_if_nle, jq_eqp, jq_eqn, nI_clamp, nI_add, pk_sub, pk_mul, jn_and, jn_or, jn_xor, jq_andn, jq_shl1, jq_bit, jq_mn, jq_mx, cond_true, cond_false, jq_jt, jq_jf, jq_e1, jq_e2, jq_e3, jq_e4, Bool.not_true, Bool.not_false, jq_0, jq_1, jq_2, jq_3, jq_4, jq_5, jq_6, jq_8, jq_12, jq_16, jq_20, jq_21, jq_24, jq_30, jq_32, jq_60, jq_84, jq_1000, jq_2436, jq_20001, dm_isRoad _ m.2.1, ha, m3, e126_70]
      · refine ⟨nI (jb_g N r), hx, hm, ?_, ?_, I⟩
        · rw [d23, e23_0]
          simp (disch := omega) only [jx_bI_s, jx_bL_s, jx_bV_s, eq_self, true_or, or_true, jx_if_t, jx_if_f, jq_b0, jq_b1, jq_bb, jq_b01, jx_if_in, jx_if_lt, jx_if_nlt, jx_if_le, jx_if_nle, jq_eqp, jq_eqn, nI_clamp, nI_add, pk_sub, pk_mul, jn_and, jn_or, jn_xor, jq_andn, jq_shl1, jq_bit, jq_mn, jq_mx, cond_true, cond_false, jq_jt, jq_jf, jq_e1, jq_e2, jq_e3, jq_e4, Bool.not_true, Bool.not_false, jq_0, jq_1, jq_2, jq_3, jq_4, jq_5, jq_6, jq_8, jq_12, jq_16, jq_20, jq_21, jq_24, jq_30, jq_32, jq_60, jq_84, jq_1000, jq_2436, jq_20001, dm_noRoad _ x.2.1, ha, x4]
        · rw [d126, e126_0]
          simp (disch := omega) only [jx_bI_s, jx_bL_s, jx_bV_s, eq_self, true_or, or_true, jx_if_t, jx_if_f, jq_b0, jq_b1, jq_bb, jq_b01, jx_if_in, jx_if_lt, jx_if_nlt, jx_if_le, jx_if_nle, jq_eqp, jq_eqn, nI_clamp, nI_add, pk_sub, pk_mul, jn_and, jn_or, jn_xor, jq_andn, jq_shl1, jq_bit, jq_mn, jq_mx, cond_true, cond_false, jq_jt, jq_jf, jq_e1, jq_e2, jq_e3, jq_e4, Bool.not_true, Bool.not_false, jq_0, jq_1, jq_2, jq_3, jq_4, jq_5, jq_6, jq_8, jq_12, jq_16, jq_20, jq_21, jq_24, jq_30, jq_32, jq_60, jq_84, jq_1000, jq_2436, jq_20001, dm_isRoad _ m.2.1, ha, m4, e126_70]
theorem jt_3 (I : jb_Inv hx hm) (a s v : Int32) (hs : s = 0 ∨ s = 1) : jl_g d 14 120 [vi a, vi s, vi v] hx hm := by
  obtain ⟨N, w, x, m⟩ := I.1
  have hp := w.1
  have hn := w.2.1
  obtain ⟨b, rfl⟩ : ∃ b : Bool, s = jn_b b := hs.elim (fun e => ⟨false, e⟩) (fun e => ⟨true, e⟩)
  cases ha : jb_ip (jb_n N) a
  · refine ⟨-1, _, _, ?_, ?_, I.fd⟩
    · rw [d14, e14_0]
      simp (disch := omega) only [jx_bI_s, jx_bL_s, jx_bV_s, eq_self, true_or, or_true, jx_if_t, jx_if_f, jq_b0, jq_b1, jq_bb, jq_b01, jx_if_in, jx_if_lt, jx_if_nlt, jx_if_le, jx_if_nle, jq_eqp, jq_eqn, nI_clamp, nI_add, pk_sub, pk_mul, jn_and, jn_or, jn_xor, jq_andn, jq_shl1, jq_bit, jq_mn, jq_mx, cond_true, cond_false, jq_jt, jq_jf, jq_e1, jq_e2, jq_e3, jq_e4, Bool.not_true, Bool.not_false, jq_0, jq_1, jq_2, jq_3, jq_4, jq_5, jq_6, jq_8, jq_12, jq_16, jq_20, jq_21, jq_24, jq_30, jq_32, jq_60, jq_84, jq_1000, jq_2436, jq_20001, dm_noRoad a x.2.1, ha, e14_28, dm_fx]
    · rw [d120, e120_0]
      simp (disch := omega) only [jx_bI_s, jx_bL_s, jx_bV_s, eq_self, true_or, or_true, jx_if_t, jx_if_f, jq_b0, jq_b1, jq_bb, jq_b01, jx_if_in, jx_if_lt, jx_if_nlt, jx_if_le, jx_if_nle, jq_eqp, jq_eqn, nI_clamp, nI_add, pk_sub, pk_mul, jn_and, jn_or, jn_xor, jq_andn, jq_shl1, jq_bit, jq_mn, jq_mx, cond_true, cond_false, jq_jt, jq_jf, jq_e1, jq_e2, jq_e3, jq_e4, Bool.not_true, Bool.not_false, jq_0, jq_1, jq_2, jq_3, jq_4, jq_5, jq_6, jq_8, jq_12, jq_16, jq_20, jq_21, jq_24, jq_30, jq_32, jq_60, jq_84, jq_1000, jq_2436, jq_20001, dm_isRoad a m.2.1, ha, e120_28, dm_fm]
  obtain ⟨r, hr, rfl⟩ := jb_ip_t (by omega) ha
  by_cases v0 : v < 0
  · refine ⟨-1, _, _, ?_, ?_, I.fd⟩
    · rw [d14, e14_0]
      simp (disch := omega) only [jx_bI_s, jx_bL_s, jx_bV_s, eq_self, true_or, or_true, jx_if_t, jx_if_f, jq_b0, jq_b1, jq_bb, jq_b01, jx_if_in, jx_if_lt, jx_if_nlt, jx_if_le, jx_if_nle, jq_eqp, jq_eqn, nI_clamp, nI_add, pk_sub, pk_mul, jn_and, jn_or, jn_xor, jq_andn, jq_shl1, jq_bit, jq_mn, jq_mx, cond_true, cond_false, jq_jt, jq_jf, jq_e1, jq_e2, jq_e3, jq_e4, Bool.not_true, Bool.not_false, jq_0, jq_1, jq_2, jq_3, jq_4, jq_5, jq_6, jq_8, jq_12, jq_16, jq_20, jq_21, jq_24, jq_30, jq_32, jq_60, jq_84, jq_1000, jq_2436, jq_20001, dm_noRoad _ x.2.1, ha, jx_ifp (show v < nI 0 from v0), e14_28, dm_fx]
    · rw [d120, e120_0]
      simp (disch := omega) only [jx_bI_s, jx_bL_s, jx_bV_s, eq_self, true_or, or_true, jx_if_t, jx_if_f, jq_b0, jq_b1, jq_bb, jq_b01, jx_if_in, jx_if_lt, jx_if_nlt, jx_if_le, jx_if_nle, jq_eqp, jq_eqn, nI_clamp, nI_add, pk_sub, pk_mul, jn_and, jn_or, jn_xor, jq_andn, jq_shl1, jq_bit, jq_mn, jq_mx, cond_true, cond_false, jq_jt, jq_jf, jq_e1, jq_e2, jq_e3, jq_e4, Bool.not_true, Bool.not_false, jq_0, jq_1, jq_2, jq_3, jq_4, jq_5, jq_6, jq_8, jq_12, jq_16, jq_20, jq_21, jq_24, jq_30, jq_32, jq_60, jq_84, jq_1000, jq_2436, jq_20001, dm_isRoad _ m.2.1, ha, jx_ifp (show v < nI 0 from v0), e120_28, dm_fm]
  obtain ⟨u, hu, rfl⟩ := nI_of v0
  obtain ⟨hx', hm', a1, a2, I', x', m', _, _⟩ := I.chg d x m
  obtain ⟨x1, x2, x3, x4⟩ := x'.2.2.2 r hr
  obtain ⟨m1, m2, m3, m4⟩ := m'.2.2.2 r hr
  cases b
  · by_cases hu2 : u ≤ 1000
    · refine ⟨nI (jb_c N r), jx_sI hx' 4 0 r (nI u), jx_sI hm' 35 0 r (nI u), ?_, ?_, ?_⟩
      · rw [d14, e14_0]
        simp (disch := omega) only [jx_bI_s, jx_bL_s, jx_bV_s, eq_self, true_or, or_true, jx_if_t, jx_if_f, jq_b0, jq_b1, jq_bb, jq_b01, jx_if_in, jx_if_lt, jx_if_nlt, jx_if_le, jx_if_nle, jq_eqp, jq_eqn, nI_clamp, nI_add, pk_sub, pk_mul, jn_and, jn_or, jn_xor, jq_andn, jq_shl1, jq_bit, jq_mn, jq_mx, cond_true, cond_false, jq_jt, jq_jf, jq_e1, jq_e2, jq_e3, jq_e4, Bool.not_true, Bool.not_false, jq_0, jq_1, jq_2, jq_3, jq_4, jq_5, jq_6, jq_8, jq_12, jq_16, jq_20, jq_21, jq_24, jq_30, jq_32, jq_60, jq_84, jq_1000, jq_2436, jq_20001, dm_noRoad _ x.2.1, ha, e14_25, a1, x3]
      · rw [d120, e120_0]
        simp (disch := omega) only [jx_bI_s, jx_bL_s, jx_bV_s, eq_self, true_or, or_true, jx_if_t, jx_if_f, jq_b0, jq_b1, jq_bb, jq_b01, jx_if_in, jx_if_lt, jx_if_nlt, jx_if_le, jx_if_nle, jq_eqp, jq_eqn, nI_clamp, nI_add, pk_sub, pk_mul, jn_and, jn_or, jn_xor, jq_andn, jq_shl1, jq_bit, jq_mn, jq_mx, cond_true, cond_false, jq_jt, jq_jf, jq_e1, jq_e2, jq_e3, jq_e4, Bool.not_true, Bool.not_false, jq_0, jq_1, jq_2, jq_3, jq_4, jq_5, jq_6, jq_8, jq_12, jq_16, jq_20, jq_21, jq_24, jq_30, jq_32, jq_60, jq_84, jq_1000, jq_2436, jq_20001, dm_isRoad _ m.2.1, ha, e120_25, a2, m3, e120_57, e120_80]
      · refine I'.net (fun c i hc => ?_) (fun q hq => by rw [jx_sk (by decide)]) (fun c h1 h2 => jx_sk (by omega)) ⟨(jb_p N, jb_n N, jb_t N, jb_f N, jb_s N, fun q => if q = r then u else jb_c N q, jb_g N), ⟨w.1, w.2.1, fun q hq => ?_⟩, ⟨?_, ?_, ?_, fun q hq => ?_⟩, ?_, ?_, ?_, fun q hq => ?_⟩
        · by_cases e : c = 4
          · rw [jx_si (by omega)]
          · rw [jx_sk e]
        · obtain ⟨w1, w2, w3, w4, w5⟩ := w.2.2 q hq
          refine ⟨w1, w2, w3, ?_, w5⟩
          show (if q = r then u else jb_c N q) ≤ 1000
          split <;> omega
        · rw [jx_sk (by decide)]; exact x'.1
        · rw [jx_sk (by decide)]; exact x'.2.1
        · rw [jx_sk (by decide)]; exact x'.2.2.1
        · obtain ⟨y1, y2, y3, y4⟩ := x'.2.2.2 q hq
          refine ⟨by rw [jx_sk (by decide)]; exact y1, by rw [jx_sk (by decide)]; exact y2, ?_, by rw [jx_sk (by decide)]; exact y4⟩
          show _ = nI (if q = r then u else jb_c N q)
          rw [jx_sv]
          by_cases e : q = r
          · rw [if_pos e, if_pos e]
          · rw [if_neg e, if_neg e]; exact y3
        · rw [jx_sk (by decide)]; exact m'.1
        · rw [jx_sk (by decide)]; exact m'.2.1
        · rw [jx_sk (by decide)]; exact m'.2.2.1
        · obtain ⟨y1, y2, y3, y4⟩ := m'.2.2.2 q hq
          refine ⟨by rw [jx_sk (by decide)]; exact y1, by rw [jx_sk (by decide)]; exact y2, ?_, by rw [jx_sk (by decide)]; exact y4⟩
          show _ = nI (if q = r then u else jb_c N q)
          rw [jx_sv]
          by_cases e : q = r
          · rw [if_pos e, if_pos e]
          · rw [if_neg e, if_neg e]; exact y3
    · refine ⟨-1, _, _, ?_, ?_, I.fd⟩
      · rw [d14, e14_0]
        simp (disch := omega) only [jx_bI_s, jx_bL_s, jx_bV_s, eq_self, true_or, or_true, jx_if_t, jx_if_f, jq_b0, jq_b1, jq_bb, jq_b01, jx_if_in, jx_if_lt, jx_if_nlt, jx_if_le, jx_if_nle, jq_eqp, jq_eqn, nI_clamp, nI_add, pk_sub, pk_mul, jn_and, jn_or, jn_xor, jq_andn, jq_shl1, jq_bit, jq_mn, jq_mx, cond_true, cond_false, jq_jt, jq_jf, jq_e1, jq_e2, jq_e3, jq_e4, Bool.not_true, Bool.not_false, jq_0, jq_1, jq_2, jq_3, jq_4, jq_5, jq_6, jq_8, jq_12, jq_16, jq_20, jq_21, jq_24, jq_30, jq_32, jq_60, jq_84, jq_1000, jq_2436, jq_20001, dm_noRoad _ x.2.1, ha, e14_25, e14_28, dm_fx]
      · rw [d120, e120_0]
        simp (disch := omega) only [jx_bI_s, jx_bL_s, jx_bV_s, eq_self, true_or, or_true, jx_if_t, jx_if_f, jq_b0, jq_b1, jq_bb, jq_b01, jx_if_in, jx_if_lt, jx_if_nlt, jx_if_le, jx_if_nle, jq_eqp, jq_eqn, nI_clamp, nI_add, pk_sub, pk_mul, jn_and, jn_or, jn_xor, jq_andn, jq_shl1, jq_bit, jq_mn, jq_mx, cond_true, cond_false, jq_jt, jq_jf, jq_e1, jq_e2, jq_e3, jq_e4, Bool.not_true, Bool.not_false, jq_0, jq_1, jq_2, jq_3, jq_4, jq_5, jq_6, jq_8, jq_12, jq_16, jq_20, jq_21, jq_24, jq_30, jq_32, jq_60, jq_84, jq_1000, jq_2436, jq_20001, dm_isRoad _ m.2.1, ha, e120_25, e120_28, dm_fm]
  · by_cases hu2 : u ≤ 8
    · refine ⟨nI (jb_g N r), jx_sI hx' 5 0 r (nI u), jx_sI hm' 36 0 r (nI u), ?_, ?_, ?_⟩
      · rw [d14, e14_0]
        simp (disch := omega) only [jx_bI_s, jx_bL_s, jx_bV_s, eq_self, true_or, or_true, jx_if_t, jx_if_f, jq_b0, jq_b1, jq_bb, jq_b01, jx_if_in, jx_if_lt, jx_if_nlt, jx_if_le, jx_if_nle, jq_eqp, jq_eqn, nI_clamp, nI_add, pk_sub, pk_mul, jn_and, jn_or, jn_xor, jq_andn, jq_shl1, jq_bit, jq_mn, jq_mx, cond_true, cond_false, jq_jt, jq_jf, jq_e1, jq_e2, jq_e3, jq_e4, Bool.not_true, Bool.not_false, jq_0, jq_1, jq_2, jq_3, jq_4, jq_5, jq_6, jq_8, jq_12, jq_16, jq_20, jq_21, jq_24, jq_30, jq_32, jq_60, jq_84, jq_1000, jq_2436, jq_20001, dm_noRoad _ x.2.1, ha, e14_25, a1, x4]
      · rw [d120, e120_0]
        simp (disch := omega) only [jx_bI_s, jx_bL_s, jx_bV_s, eq_self, true_or, or_true, jx_if_t, jx_if_f, jq_b0, jq_b1, jq_bb, jq_b01, jx_if_in, jx_if_lt, jx_if_nlt, jx_if_le, jx_if_nle, jq_eqp, jq_eqn, nI_clamp, nI_add, pk_sub, pk_mul, jn_and, jn_or, jn_xor, jq_andn, jq_shl1, jq_bit, jq_mn, jq_mx, cond_true, cond_false, jq_jt, jq_jf, jq_e1, jq_e2, jq_e3, jq_e4, Bool.not_true, Bool.not_false, jq_0, jq_1, jq_2, jq_3, jq_4, jq_5, jq_6, jq_8, jq_12, jq_16, jq_20, jq_21, jq_24, jq_30, jq_32, jq_60, jq_84, jq_1000, jq_2436, jq_20001, dm_isRoad _ m.2.1, ha, e120_25, a2, m4, e120_57, e120_80]
      · refine I'.net (fun c i hc => ?_) (fun q hq => by rw [jx_sk (by decide)]) (fun c h1 h2 => jx_sk (by omega)) ⟨(jb_p N, jb_n N, jb_t N, jb_f N, jb_s N, jb_c N, fun q => if q = r then u else jb_g N q), ⟨w.1, w.2.1, fun q hq => ?_⟩, ⟨?_, ?_, ?_, fun q hq => ?_⟩, ?_, ?_, ?_, fun q hq => ?_⟩
        · by_cases e : c = 5
          · rw [jx_si (by omega)]
          · rw [jx_sk e]
        · obtain ⟨w1, w2, w3, w4, w5⟩ := w.2.2 q hq
          refine ⟨w1, w2, w3, w4, ?_⟩
          show (if q = r then u else jb_g N q) ≤ 8
          split <;> omega
        · rw [jx_sk (by decide)]; exact x'.1
        · rw [jx_sk (by decide)]; exact x'.2.1
        · rw [jx_sk (by decide)]; exact x'.2.2.1
        · obtain ⟨y1, y2, y3, y4⟩ := x'.2.2.2 q hq
          refine ⟨by rw [jx_sk (by decide)]; exact y1, by rw [jx_sk (by decide)]; exact y2, by rw [jx_sk (by decide)]; exact y3, ?_⟩
          show _ = nI (if q = r then u else jb_g N q)
          rw [jx_sv]
          by_cases e : q = r
          · rw [if_pos e, if_pos e]
          · rw [if_neg e, if_neg e]; exact y4
        · rw [jx_sk (by decide)]; exact m'.1
        · rw [jx_sk (by decide)]; exact m'.2.1
        · rw [jx_sk (by decide)]; exact m'.2.2.1
        · obtain ⟨y1, y2, y3, y4⟩ := m'.2.2.2 q hq
          refine ⟨by rw [jx_sk (by decide)]; exact y1, by rw [jx_sk (by decide)]; exact y2, by rw [jx_sk (by decide)]; exact y3, ?_⟩
          show _ = nI (if q = r then u else jb_g N q)
          rw [jx_sv]
          by_cases e : q = r
          · rw [if_pos e, if_pos e]
          · rw [if_neg e, if_neg e]; exact y4
    · refine ⟨-1, _, _, ?_, ?_, I.fd⟩
      · rw [d14, e14_0]
        simp (disch := omega) only [jx_bI_s, jx_bL_s, jx_bV_s, eq_self, true_or, or_true, jx_if_t, jx_if_f, jq_b0, jq_b1, jq_bb, jq_b01, jx_if_in, jx_if_lt, jx_if_nlt, jx_if_le, jx_if_nle, jq_eqp, jq_eqn, nI_clamp, nI_add, pk_sub, pk_mul, jn_and, jn_or, jn_xor, jq_andn, jq_shl1, jq_bit, jq_mn, jq_mx, cond_true, cond_false, jq_jt, jq_jf, jq_e1, jq_e2, jq_e3, jq_e4, Bool.not_true, Bool.not_false, jq_0, jq_1, jq_2, jq_3, jq_4, jq_5, jq_6, jq_8, jq_12, jq_16, jq_20, jq_21, jq_24, jq_30, jq_32, jq_60, jq_84, jq_1000, jq_2436, jq_20001, dm_noRoad _ x.2.1, ha, e14_25, e14_28, dm_fx]
      · rw [d120, e120_0]
        simp (disch := omega) only [jx_bI_s, jx_bL_s, jx_bV_s, eq_self, true_or, or_true, jx_if_t, jx_if_f, jq_b0, jq_b1, jq_bb, jq_b01, jx_if_in, jx_if_lt, jx_if_nlt, jx_if_le, jx_if_nle, jq_eqp, jq_eqn, nI_clamp, nI_add, pk_sub, pk_mul, jn_and, jn_or, jn_xor, jq_andn, jq_shl1, jq_bit, jq_mn, jq_mx, cond_true, cond_false, jq_jt, jq_jf, jq_e1, jq_e2, jq_e3, jq_e4, Bool.not_true, Bool.not_false, jq_0, jq_1, jq_2, jq_3, jq_4, jq_5, jq_6, jq_8, jq_12, jq_16, jq_20, jq_21, jq_24, jq_30, jq_32, jq_60, jq_84, jq_1000, jq_2436, jq_20001, dm_isRoad _ m.2.1, ha, e120_25, e120_28, dm_fm]
theorem jt_7 (I : jb_Inv hx hm) : jl_g d 24 110 [] hx hm := by
  have I0 := I
  obtain ⟨⟨N0, w0, xN, m⟩, ⟨x, k, x30, k30, e1, e2, e3, P⟩, sl, sh, wt, fd, z⟩ := I
  by_cases k0 : k = 0
  · refine ⟨-6, _, _, ?_, ?_, I0.fd⟩
    · rw [d24, e24_0, e2]
      simp (disch := omega) only [jx_bI_s, jx_bL_s, jx_bV_s, eq_self, true_or, or_true, jx_if_t, jx_if_f, jq_b0, jq_b1, jq_bb, jq_b01, jx_if_in, jx_if_lt, jx_if_nlt, jx_if_le, jx_if_nle, jq_eqp, jq_eqn, nI_clamp, nI_add, pk_sub, pk_mul, jn_and, jn_or, jn_xor, jq_andn, jq_shl1, jq_bit, jq_mn, jq_mx, cond_true, cond_false, jq_jt, jq_jf, jq_e1, jq_e2, jq_e3, jq_e4, Bool.not_true, Bool.not_false, jq_0, jq_1, jq_2, jq_3, jq_4, jq_5, jq_6, jq_8, jq_12, jq_16, jq_20, jq_21, jq_24, jq_30, jq_32, jq_60, jq_84, jq_1000, jq_2436, jq_20001, dm_fx]
    · rw [d110, e110_0, e3]
      simp (disch := omega) only [jx_bI_s, jx_bL_s, jx_bV_s, eq_self, true_or, or_true, jx_if_t, jx_if_f, jq_b0, jq_b1, jq_bb, jq_b01, jx_if_in, jx_if_lt, jx_if_nlt, jx_if_le, jx_if_nle, jq_eqp, jq_eqn, nI_clamp, nI_add, pk_sub, pk_mul, jn_and, jn_or, jn_xor, jq_andn, jq_shl1, jq_bit, jq_mn, jq_mx, cond_true, cond_false, jq_jt, jq_jf, jq_e1, jq_e2, jq_e3, jq_e4, Bool.not_true, Bool.not_false, jq_0, jq_1, jq_2, jq_3, jq_4, jq_5, jq_6, jq_8, jq_12, jq_16, jq_20, jq_21, jq_24, jq_30, jq_32, jq_60, jq_84, jq_1000, jq_2436, jq_20001, dm_fm]
  · obtain ⟨N, w, X, S⟩ := P 0 (by omega)
    have ix : 1 + (x + 29 - 0) % 30 = 1 + (x + 29) % 30 := by omega
    rw [ix] at X
    obtain ⟨h1, b1, b2, b3⟩ := dm_become (d := d + 37) (N := N) (h := jx_sI (jx_sI hx 6 0 1 (nI ((x + 29) % 30))) 6 0 2 (nI (k - 1))) (i0 := 0) (i1 := 1 + (x + 29) % 30) (by omega) w.2.1 (X.kept (fun c h1 h2 => by rw [jx_sk (by omega), jx_sk (by omega)]))
    obtain ⟨h2, c1, c2, c3, c4⟩ := dm_loada (d := d + 38) (N := N) (h0 := jx_sI hm 30 0 7 (nI (k - 1))) w (a := 84 * (k - 1)) (by omega) (S.kept w.2.1 (fun q _ _ => by rw [jx_sk (by decide)]))
    have fr : ∀ c i, c ≠ 6 → ¬ (1 ≤ c ∧ c ≤ 5 ∧ i = 0) → h1.1 c i = hx.1 c i := fun c i hc hi => by
      rw [b3 c i hi, jx_sk hc, jx_sk hc]
    have fr' : ∀ c, c ≠ 6 → ¬ (1 ≤ c ∧ c ≤ 5) → h1.1 c = hx.1 c := fun c hc hi => funext (fun i => fr c i hc (fun q => hi ⟨q.1, q.2.1⟩))
    have f61 : h1.1 6 0 1 = nI ((x + 29) % 30) := by rw [b3 6 0 (by omega), jx_sp (by decide), jx_ss]
    have f62 : h1.1 6 0 2 = nI (k - 1) := by rw [b3 6 0 (by omega), jx_ss]
    have g7 : h2.1 30 0 7 = nI (k - 1) := by rw [c3 7 (by decide), jx_ss]
    have gq : ∀ q, 3 ≤ q → q ≠ 7 → h2.1 30 0 q = hm.1 30 0 q := fun q h1 h2 => by rw [c3 q h1, jx_sp h2]
    have gc : ∀ c, c ≠ 30 → ¬ (33 ≤ c ∧ c ≤ 36) → h2.1 c = hm.1 c := fun c h1 h2 => by rw [c4 c h1 h2, jx_sk h1]
    refine ⟨nI (k - 1), h1, h2, ?_, ?_, ?_⟩
    · rw [d24, e24_0, e2]
      have e30 : x + 30 - 1 = x + 29 := by omega
      simp (disch := omega) only [jx_bI_s, jx_bL_s, jx_bV_s, eq_self, true_or, or_true, jx_if_t, jx_if_f, jq_b0, jq_b1, jq_bb, jq_b01, jx_if_in, jx_if_lt, jx_if_nlt, jx_if_le, jx_if_nle, jq_eqp, jq_eqn, nI_clamp, nI_add, pk_sub, pk_mul, jn_and, jn_or, jn_xor, jq_andn, jq_shl1, jq_bit, jq_mn, jq_mx, cond_true, cond_false, jq_jt, jq_jf, jq_e1, jq_e2, jq_e3, jq_e4, Bool.not_true, Bool.not_false, jq_0, jq_1, jq_2, jq_3, jq_4, jq_5, jq_6, jq_8, jq_12, jq_16, jq_20, jq_21, jq_24, jq_30, jq_32, jq_60, jq_84, jq_1000, jq_2436, jq_20001, d25, e25_0, e1, e2, pk_rem, e30, b1, f62]
    · rw [d110, e110_0, e3]
      simp (disch := omega) only [jx_bI_s, jx_bL_s, jx_bV_s, eq_self, true_or, or_true, jx_if_t, jx_if_f, jq_b0, jq_b1, jq_bb, jq_b01, jx_if_in, jx_if_lt, jx_if_nlt, jx_if_le, jx_if_nle, jq_eqp, jq_eqn, nI_clamp, nI_add, pk_sub, pk_mul, jn_and, jn_or, jn_xor, jq_andn, jq_shl1, jq_bit, jq_mn, jq_mx, cond_true, cond_false, jq_jt, jq_jf, jq_e1, jq_e2, jq_e3, jq_e4, Bool.not_true, Bool.not_false, jq_0, jq_1, jq_2, jq_3, jq_4, jq_5, jq_6, jq_8, jq_12, jq_16, jq_20, jq_21, jq_24, jq_30, jq_32, jq_60, jq_84, jq_1000, jq_2436, jq_20001, c1, g7]
    · refine ⟨⟨N, w, b2, c2⟩, ⟨(x + 29) % 30, k - 1, by omega, by omega, f61, f62, g7, fun j hj => ?_⟩, fun j hj => ?_, fun j hj => ?_, ?_, ?_, ?_⟩
      · obtain ⟨N', w', X', S'⟩ := P (j + 1) (by omega)
        refine ⟨N', w', ?_, ?_⟩
        · rw [show 1 + ((x + 29) % 30 + 29 - j) % 30 = 1 + (x + 29 - (j + 1)) % 30 by omega]
          exact X'.kept (fun c h1 h2 => fr c _ (by omega) (by omega))
        · rw [show k - 1 - 1 - j = k - 1 - (j + 1) by omega]
          exact S'.kept w'.2.1 (fun q _ _ => by rw [gc 38 (by decide) (by decide)])
      · exact (sl j hj).kept (fun c h1 h2 => fr c _ (by omega) (by omega)) (by rw [fr' 9 (by decide) (by omega)]) (fun q _ _ => by rw [gc 39 (by decide) (by decide)]) (by rw [gc 40 (by decide) (by decide)])
      · exact (sh j hj).kept (by rw [fr' 11 (by decide) (by omega)]) (by rw [fr' 12 (by decide) (by omega)]) (by rw [gc 41 (by decide) (by decide)]) (by rw [gc 42 (by decide) (by decide)]) (fun q _ _ => by rw [gc 43 (by decide) (by decide)])
      · exact wt.kept (by rw [fr' 0 (by decide) (by omega)]) (fr' 13 (by decide) (by omega)) (gq 14 (by decide) (by decide)) (gc 45 (by decide) (by decide))
      · rw [fr' 0 (by decide) (by omega), gq 16 (by decide) (by decide)]
        exact fd
      · exact z.kept (fun c h1 h2 => fr' c (by omega) (by omega))
end
