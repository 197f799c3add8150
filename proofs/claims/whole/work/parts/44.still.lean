/-! ===== layer 2: still, told ===== -/
theorem jn_subs : ∀ {m R s : Nat}, (∀ i, m.testBit i = true → R.testBit i = true) → (∀ i, s.testBit i = true → R.testBit i = true) → s < m → s ≤ (m - 1) &&& R := by
  intro m
  induction m using Nat.strongRecOn with
  | ind m ih =>
    intro R s hm hs hl
    have hm2 : ∀ i, (m / 2).testBit i = true → (R / 2).testBit i = true := fun i hi => by
      rw [← Nat.testBit_succ] at hi ⊢
      exact hm _ hi
    have hs2 : ∀ i, (s / 2).testBit i = true → (R / 2).testBit i = true := fun i hi => by
      rw [← Nat.testBit_succ] at hi ⊢
      exact hs _ hi
    have e2 : ((m - 1) &&& R) / 2 = ((m - 1) / 2) &&& (R / 2) := Nat.and_div_two
    by_cases hodd : m % 2 = 1
    · have e3 : (m - 1) / 2 = m / 2 := by omega
      have e4 : (m / 2) &&& (R / 2) = m / 2 := by
        apply Nat.eq_of_testBit_eq
        intro i
        rw [Nat.testBit_and]
        cases hb : (m / 2).testBit i with
        | false => rfl
        | true => rw [hm2 i hb]; rfl
      rw [e3, e4] at e2
      omega
    · have e3 : (m - 1) / 2 = m / 2 - 1 := by omega
      have h1 := ih (m / 2) (by omega) hm2 hs2 (by omega)
      rw [e3] at e2
      by_cases hso : s % 2 = 1
      · have hR : R.testBit 0 = true := hs 0 (by rw [Nat.testBit_zero]; simpa using hso)
        have hy : ((m - 1) &&& R).testBit 0 = true := by
          rw [Nat.testBit_and, hR, Nat.testBit_zero]
          simp
          omega
        rw [Nat.testBit_zero, decide_eq_true_eq] at hy
        omega
      · omega
def jn_sb (X S : Nat) : Prop := ∀ i, X.testBit i = true → S.testBit i = true
theorem jn_sb_and (m S : Nat) : jn_sb (m &&& S) S := fun i hi => by
  rw [Nat.testBit_and, Bool.and_eq_true] at hi
  exact hi.2
theorem jn_sb_le {X S : Nat} (h : jn_sb X S) : X ≤ S := jn_sub_le h
theorem jn_sb_nx {m S : Nat} (h : 0 < m) : (m - 1) &&& S < m := Nat.lt_of_le_of_lt Nat.and_le_left (by omega)
/-- roads from X to Y, of a plain net also from Y to X -/
def jp_btb (N : jb_N) (X Y r : Nat) : Bool := (X.testBit (jb_f N r) && Y.testBit (jb_s N r)) || (!jb_t N && (X.testBit (jb_s N r) && Y.testBit (jb_f N r)))
def jp_bt (N : jb_N) (X Y : Nat) : Nat := jn_mk (jp_btb N X Y) (jb_n N)
theorem jp_bt_lt (N : jb_N) (X Y : Nat) : jp_bt N X Y < 2 ^ jb_n N := jn_mk_lt _ _
section
variable {d : Nat} {h : jx_H} {N : jb_N}
theorem dm_bt (w : jb_wf N) (P : jp_P h N) {X Y : Nat} (hX : X < 2 ^ jb_p N) (hY : Y < 2 ^ jb_p N) : DM (d + 1) 50 [vr 14 0, vi (nI X), vi (nI Y)] h = some ([vi (nI (jp_bt N X Y))], h) := by
  obtain ⟨⟨p0, p1, p2, p3, p4, p5, p6⟩, pT⟩ := P
  have h2 := jn_pow8 w.1
  have h20 := jn_pow20 w.2.1
  obtain ⟨⟨x1, x2, _⟩, _⟩ := pT X hX
  obtain ⟨⟨y1, y2, _⟩, _⟩ := pT Y hY
  rw [d50, e50_0, e50_14, p2]
  cases ht : jb_t N
  · have e : (jp_st N X &&& jp_en N Y) ||| (jp_en N X &&& jp_st N Y) = jp_bt N X Y := by
      unfold jp_st jp_en jp_bt
      rw [jn_mk_and, jn_mk_and, jn_mk_orr]
      refine jn_mk_congr (fun r _ => ?_)
      unfold jp_btb
      rw [ht]
      rfl
    simp (disch := omega) only [jx_bI_s, jx_bL_s, jx_bV_s, eq_self, true_or, or_true, jx_if_t, jx_if_f, jq_b0, jq_b1, jq_bb, jq_b01, jx_if_in, jx_if_lt, jx_if_nlt, jx_if_le, jx_if_nle, jq_eqp, jq_eqn, nI_clamp, nI_add, pk_sub, pk_mul, jn_and, jn_or, jn_xor, jq_andn, jq_shl1, jq_bit, jq_mn, jq_mx, cond_true, cond_false, jq_jt, jq_jf, jq_e1, jq_e2, jq_e3, jq_e4, Bool.not_true, Bool.not_false, jq_0, jq_1, jq_2, jq_3, jq_4, jq_5, jq_6, jq_8, jq_12, jq_16, jq_20, jq_21, jq_24, jq_30, jq_32, jq_60, jq_84, jq_1000, jq_2436, jq_20001, x1, x2, y1, y2, e50_40, e]
  · have e : (jp_st N X &&& jp_en N Y) = jp_bt N X Y := by
      unfold jp_st jp_en jp_bt
      rw [jn_mk_and]
      refine jn_mk_congr (fun r _ => ?_)
      unfold jp_btb
      rw [ht]
      simp
    simp (disch := omega) only [jx_bI_s, jx_bL_s, jx_bV_s, eq_self, true_or, or_true, jx_if_t, jx_if_f, jq_b0, jq_b1, jq_bb, jq_b01, jx_if_in, jx_if_lt, jx_if_nlt, jx_if_le, jx_if_nle, jq_eqp, jq_eqn, nI_clamp, nI_add, pk_sub, pk_mul, jn_and, jn_or, jn_xor, jq_andn, jq_shl1, jq_bit, jq_mn, jq_mx, cond_true, cond_false, jq_jt, jq_jf, jq_e1, jq_e2, jq_e3, jq_e4, Bool.not_true, Bool.not_false, jq_0, jq_1, jq_2, jq_3, jq_4, jq_5, jq_6, jq_8, jq_12, jq_16, jq_20, jq_21, jq_24, jq_30, jq_32, jq_60, jq_84, jq_1000, jq_2436, jq_20001, x1, x2, y1, y2, e50_40, e]
theorem dm_among (w : jb_wf N) (P : jp_P h N) {S : Nat} (hS : S < 2 ^ jb_p N) : ∃ B : Bool, DM (d + 2) 54 [vr 14 0, vi (nI S)] h = some ([vi (jn_b B)], h) ∧ (B = true ↔ ∀ Y, 1 ≤ Y → jn_sb Y S → Y ≠ S → jp_bt N Y (jn_df S Y) ≠ 0) := by
  have h2 := jn_pow8 w.1
  have h20 := jn_pow20 w.2.1
  have loop : ∀ X, jn_sb X S → (∀ Y, X < Y → jn_sb Y S → Y ≠ S → jp_bt N Y (jn_df S Y) ≠ 0) → (X = 0 ∨ X ≠ S) → ∃ B : Bool, F54_6 (DM (d + 1)) (nI S) (nI X) h = some ([vi (jn_b B)], h) ∧ (B = true ↔ ∀ Y, 1 ≤ Y → jn_sb Y S → Y ≠ S → jp_bt N Y (jn_df S Y) ≠ 0) := by
    intro X
    induction X using Nat.strongRecOn with
    | ind X ih =>
      intro hX hY hne
      have hXS := jn_sb_le hX
      have hdf : jn_df S X < 2 ^ jb_p N := jn_df_lt hS
      have hbl := jp_bt_lt N X (jn_df S X)
      rw [e54_6]
      by_cases h0 : 0 < X
      · by_cases e : jp_bt N X (jn_df S X) = 0
        · refine ⟨false, ?_, fun c => (by cases c), fun c => absurd e (c X h0 hX (by omega))⟩
          simp (disch := omega) only [jx_bI_s, jx_bL_s, jx_bV_s, eq_self, true_or, or_true, jx_if_t, jx_if_f, jq_b0, jq_b1, jq_bb, jq_b01, jx_if_in, jx_if_lt, jx_if_nlt, jx_if_le, jx_if_nle, jq_eqp, jq_eqn, nI_clamp, nI_add, pk_sub, pk_mul, jn_and, jn_or, jn_xor, jq_andn, jq_shl1, jq_bit, jq_mn, jq_mx, cond_true, cond_false, jq_jt, jq_jf, jq_e1, jq_e2, jq_e3, jq_e4, Bool.not_true, Bool.not_false, jq_0, jq_1, jq_2, jq_3, jq_4, jq_5, jq_6, jq_8, jq_12, jq_16, jq_20, jq_21, jq_24, jq_30, jq_32, jq_60, jq_84, jq_1000, jq_2436, jq_20001, dm_bt w P (show X < 2 ^ jb_p N by omega) hdf, e]
        · obtain ⟨B, b1, b2⟩ := ih ((X - 1) &&& S) (jn_sb_nx h0) (jn_sb_and _ _) (fun Y y1 y2 y3 => by
            by_cases hXY : X < Y
            · exact hY Y hXY y2 y3
            · by_cases e2 : Y = X
              · rw [e2]; exact e
              · have := jn_subs hX y2 (show Y < X by omega)
                omega) (by have := jn_sb_nx (S := S) h0; omega)
          refine ⟨B, ?_, b2⟩
          simp (disch := omega) only [jx_bI_s, jx_bL_s, jx_bV_s, eq_self, true_or, or_true, jx_if_t, jx_if_f, jq_b0, jq_b1, jq_bb, jq_b01, jx_if_in, jx_if_lt, jx_if_nlt, jx_if_le, jx_if_nle, jq_eqp, jq_eqn, nI_clamp, nI_add, pk_sub, pk_mul, jn_and, jn_or, jn_xor, jq_andn, jq_shl1, jq_bit, jq_mn, jq_mx, cond_true, cond_false, jq_jt, jq_jf, jq_e1, jq_e2, jq_e3, jq_e4, Bool.not_true, Bool.not_false, jq_0, jq_1, jq_2, jq_3, jq_4, jq_5, jq_6, jq_8, jq_12, jq_16, jq_20, jq_21, jq_24, jq_30, jq_32, jq_60, jq_84, jq_1000, jq_2436, jq_20001, dm_bt w P (show X < 2 ^ jb_p N by omega) hdf, e54_31]
          exact b1
      · refine ⟨true, ?_, fun _ Y y1 y2 y3 => hY Y (by omega) y2 y3, fun _ => rfl⟩
        simp (disch := omega) only [jx_bI_s, jx_bL_s, jx_bV_s, eq_self, true_or, or_true, jx_if_t, jx_if_f, jq_b0, jq_b1, jq_bb, jq_b01, jx_if_in, jx_if_lt, jx_if_nlt, jx_if_le, jx_if_nle, jq_eqp, jq_eqn, nI_clamp, nI_add, pk_sub, pk_mul, jn_and, jn_or, jn_xor, jq_andn, jq_shl1, jq_bit, jq_mn, jq_mx, cond_true, cond_false, jq_jt, jq_jf, jq_e1, jq_e2, jq_e3, jq_e4, Bool.not_true, Bool.not_false, jq_0, jq_1, jq_2, jq_3, jq_4, jq_5, jq_6, jq_8, jq_12, jq_16, jq_20, jq_21, jq_24, jq_30, jq_32, jq_60, jq_84, jq_1000, jq_2436, jq_20001]
  rw [d54, e54_0]
  by_cases hS0 : S = 0
  · subst hS0
    have := loop 0 (fun i hi => hi) (fun Y y1 y2 y3 => by
      have := jn_sb_le y2
      omega) (Or.inl rfl)
    exact this
  · rw [jq_1, pk_sub (by omega), jn_and]
    exact loop _ (jn_sb_and _ _) (fun Y y1 y2 y3 => by
      have h1 := jn_sb_le y2
      have := jn_subs (m := S) (R := S) (fun i hi => hi) y2 (by omega)
      omega) (by
      have := jn_sb_nx (m := S) (S := S) (by omega)
      omega)
theorem jp_bt_0 {X Y : Nat} : jp_bt N X Y = 0 ↔ ∀ r, r < jb_n N → jp_btb N X Y r = false := jn_mk_eq0
theorem jp_btb_t {X Y r : Nat} : jp_btb N X Y r = true ↔ (X.testBit (jb_f N r) = true ∧ Y.testBit (jb_s N r) = true) ∨ (jb_t N = false ∧ X.testBit (jb_s N r) = true ∧ Y.testBit (jb_f N r) = true) := by
  unfold jp_btb
  cases X.testBit (jb_f N r) <;> cases X.testBit (jb_s N r) <;> cases Y.testBit (jb_f N r) <;> cases Y.testBit (jb_s N r) <;> cases jb_t N <;> decide
theorem jb_hg_bt (w : jb_wf N) (h0 : 0 < jb_p N) {W : Nat} : jb_hg N W (2 ^ jb_n N - 1) ↔ ∀ Y, 1 ≤ Y → jn_sb Y (jn_df (2 ^ jb_p N - 1) W) → Y ≠ jn_df (2 ^ jb_p N - 1) W → jp_bt N Y (jn_df (jn_df (2 ^ jb_p N - 1) W) Y) ≠ 0 := by
  have hS : ∀ x, (jn_df (2 ^ jb_p N - 1) W).testBit x = true ↔ x < jb_p N ∧ W.testBit x = false := fun x => by
    rw [jn_all_df]
    simp
  have hSl : jn_df (2 ^ jb_p N - 1) W < 2 ^ jb_p N := jn_df_lt (by have := Nat.two_pow_pos (jb_p N); omega)
  generalize jn_df (2 ^ jb_p N - 1) W = S at *
  constructor
  · rintro ⟨_, hg⟩ Y y1 y2 y3 e
    obtain ⟨q, hq⟩ := jn_some y1
    have hx : ∃ x, S.testBit x = true ∧ Y.testBit x = false := by
      apply Classical.byContradiction
      intro hn
      refine y3 (jn_ext (n := jb_p N) (by have := jn_sb_le y2; omega) hSl (fun i _ => ?_))
      cases hb : S.testBit i with
      | false =>
        cases hy : Y.testBit i with
        | false => rfl
        | true => rw [y2 i hy] at hb; cases hb
      | true =>
        cases hy : Y.testBit i with
        | true => rfl
        | false => exact absurd ⟨i, hb, hy⟩ hn
    obtain ⟨x, hx1, hx2⟩ := hx
    obtain ⟨q1, q2⟩ := (hS q).1 (y2 q hq)
    obtain ⟨x3, x4⟩ := (hS x).1 hx1
    have hc : jb_cl N W (2 ^ jb_n N - 1) (fun x => Y.testBit x = true) := by
      intro r hr _ hf hs
      have hb := (jp_bt_0.1 e) r hr
      obtain ⟨w1, w2, _⟩ := w.2.2 r hr
      refine ⟨fun k => ?_, fun t k => ?_⟩
      · show Y.testBit (jb_s N r) = true
        cases hy : Y.testBit (jb_s N r) with
        | true => rfl
        | false =>
          rw [jp_btb_t.2 (Or.inl ⟨k, by rw [jn_df_t, hy, (hS _).2 ⟨w2, hs⟩]; rfl⟩)] at hb
          cases hb
      · show Y.testBit (jb_f N r) = true
        cases hy : Y.testBit (jb_f N r) with
        | true => rfl
        | false =>
          rw [jp_btb_t.2 (Or.inr ⟨t, k, by rw [jn_df_t, hy, (hS _).2 ⟨w1, hf⟩]; rfl⟩)] at hb
          cases hb
    have := hg q q1 q2 x x3 x4 _ hq hc
    rw [show Y.testBit x = true from this] at hx2
    cases hx2
  · intro hh
    refine ⟨h0, fun q hq hqW x hx hxW => ?_⟩
    apply Classical.byContradiction
    intro hn
    have hR := fun y => jb_R_t w (W := W) (T := 2 ^ jb_n N - 1) (x := y) hq
    have hRS : jn_sb (jb_R N W (2 ^ jb_n N - 1) q) S := fun y hy => (hS y).2 ⟨jb_rc_in w ((hR y).1 hy) hq, jb_rc_out ((hR y).1 hy) hqW⟩
    have hRx : (jb_R N W (2 ^ jb_n N - 1) q).testBit x = false := by
      cases hb : (jb_R N W (2 ^ jb_n N - 1) q).testBit x with
      | false => rfl
      | true => exact absurd ((hR x).1 hb) hn
    refine hh (jb_R N W (2 ^ jb_n N - 1) q) (jn_has1 ((hR q).2 jb_rc.rf)) hRS (fun e => ?_) (jp_bt_0.2 (fun r hr => ?_))
    · rw [e, (hS x).2 ⟨hx, hxW⟩] at hRx
      cases hRx
    · cases hb : jp_btb N (jb_R N W (2 ^ jb_n N - 1) q) (jn_df S (jb_R N W (2 ^ jb_n N - 1) q)) r with
      | false => rfl
      | true =>
        have hT : (2 ^ jb_n N - 1).testBit r = true := by rw [jn_all_t]; simpa using hr
        rcases jp_btb_t.1 hb with ⟨k1, k2⟩ | ⟨k0, k1, k2⟩
        · rw [jn_df_t, Bool.and_eq_true, Bool.not_eq_true'] at k2
          have := (jb_rc_cl N W (2 ^ jb_n N - 1) q r hr hT ((hS _).1 (hRS _ k1)).2 ((hS _).1 k2.1).2).1 ((hR _).1 k1)
          rw [(hR _).2 this] at k2
          cases k2.2
        · rw [jn_df_t, Bool.and_eq_true, Bool.not_eq_true'] at k2
          have := (jb_rc_cl N W (2 ^ jb_n N - 1) q r hr hT ((hS _).1 k2.1).2 ((hS _).1 (hRS _ k1)).2).2 k0 ((hR _).1 k1)
          rw [(hR _).2 this] at k2
          cases k2.2
end
