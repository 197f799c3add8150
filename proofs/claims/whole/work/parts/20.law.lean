/-! ===== the law's cases ===== -/
def jl_stI (Inv : jx_H → jx_H → Prop) (y y' : Nat) (a : List jx_V) (hx hm : jx_H) : Prop := ∃ (r : Int32) (hx' hm' : jx_H), DM 64 y (vr 0 0 :: a) hx = some ([vi r], hx') ∧ DM 64 y' (vr 30 0 :: a) hm = some ([vi r], hm') ∧ Inv hx' hm'
def jl_stL (Inv : jx_H → jx_H → Prop) (y y' : Nat) (a : List jx_V) (hx hm : jx_H) : Prop := ∃ (r : Int64) (hx' hm' : jx_H), DM 64 y (vr 0 0 :: a) hx = some ([vl r], hx') ∧ DM 64 y' (vr 30 0 :: a) hm = some ([vl r], hm') ∧ Inv hx' hm'
def jl_s0 (Inv : jx_H → jx_H → Prop) : Prop := ∀ hx hm, Inv hx hm → ∀ a0 : Int32, (a0 = 0 ∨ a0 = 1) → jl_stI Inv 3 113 [vi a0] hx hm
def jl_s1 (Inv : jx_H → jx_H → Prop) : Prop := ∀ hx hm, Inv hx hm → jl_stI Inv 7 116 [] hx hm
def jl_s2 (Inv : jx_H → jx_H → Prop) : Prop := ∀ hx hm, Inv hx hm → ∀ a0 : Int32, ∀ a1 : Int32, jl_stI Inv 10 117 [vi a0, vi a1] hx hm
def jl_s3 (Inv : jx_H → jx_H → Prop) : Prop := ∀ hx hm, Inv hx hm → ∀ a0 : Int32, ∀ a1 : Int32, ∀ a2 : Int32, (a1 = 0 ∨ a1 = 1) → jl_stI Inv 14 120 [vi a0, vi a1, vi a2] hx hm
def jl_s4 (Inv : jx_H → jx_H → Prop) : Prop := ∀ hx hm, Inv hx hm → ∀ a0 : Int32, jl_stI Inv 16 122 [vi a0] hx hm
def jl_s5 (Inv : jx_H → jx_H → Prop) : Prop := ∀ hx hm, Inv hx hm → ∀ a0 : Int32, ∀ a1 : Int32, jl_stI Inv 20 124 [vi a0, vi a1] hx hm
def jl_s6 (Inv : jx_H → jx_H → Prop) : Prop := ∀ hx hm, Inv hx hm → ∀ a0 : Int32, ∀ a1 : Int32, jl_stI Inv 23 126 [vi a0, vi a1] hx hm
def jl_s7 (Inv : jx_H → jx_H → Prop) : Prop := ∀ hx hm, Inv hx hm → jl_stI Inv 24 110 [] hx hm
def jl_s8 (Inv : jx_H → jx_H → Prop) : Prop := ∀ hx hm, Inv hx hm → ∀ a0 : Int32, ∀ a1 : Int32, ∀ a2 : Int32, jl_stI Inv 26 127 [vi a0, vi a1, vi a2] hx hm
def jl_s9 (Inv : jx_H → jx_H → Prop) : Prop := ∀ hx hm, Inv hx hm → ∀ a0 : Int32, ∀ a1 : Int32, ∀ a2 : Int32, jl_stI Inv 29 129 [vi a0, vi a1, vi a2] hx hm
def jl_s10 (Inv : jx_H → jx_H → Prop) : Prop := ∀ hx hm, Inv hx hm → ∀ a0 : Int32, ∀ a1 : Int32, ∀ a2 : Int32, ∀ a3 : Int32, ∀ a4 : Int32, jl_stI Inv 32 130 [vi a0, vi a1, vi a2, vi a3, vi a4] hx hm
def jl_s11 (Inv : jx_H → jx_H → Prop) : Prop := ∀ hx hm, Inv hx hm → ∀ a0 : Int32, jl_stI Inv 34 132 [vi a0] hx hm
def jl_s12 (Inv : jx_H → jx_H → Prop) : Prop := ∀ hx hm, Inv hx hm → ∀ a0 : Int32, ∀ a1 : Int32, jl_stI Inv 37 133 [vi a0, vi a1] hx hm
def jl_s13 (Inv : jx_H → jx_H → Prop) : Prop := ∀ hx hm, Inv hx hm → ∀ a0 : Int32, ∀ a1 : Int32, jl_stI Inv 41 139 [vi a0, vi a1] hx hm
def jl_s14 (Inv : jx_H → jx_H → Prop) : Prop := ∀ hx hm, Inv hx hm → jl_stI Inv 43 141 [] hx hm
def jl_s15 (Inv : jx_H → jx_H → Prop) : Prop := ∀ hx hm, Inv hx hm → ∀ a0 : Int32, jl_stI Inv 45 143 [vi a0] hx hm
def jl_s16 (Inv : jx_H → jx_H → Prop) : Prop := ∀ hx hm, Inv hx hm → ∀ a0 : Int32, ∀ a1 : Int32, jl_stI Inv 48 144 [vi a0, vi a1] hx hm
def jl_s17 (Inv : jx_H → jx_H → Prop) : Prop := ∀ hx hm, Inv hx hm → ∀ a0 : Int32, ∀ a1 : Int32, jl_stI Inv 51 146 [vi a0, vi a1] hx hm
def jl_s18 (Inv : jx_H → jx_H → Prop) : Prop := ∀ hx hm, Inv hx hm → ∀ a0 : Int32, ∀ a1 : Int32, (a0 = 0 ∨ a0 = 1) → jl_stI Inv 53 147 [vi a0, vi a1] hx hm
def jl_s19 (Inv : jx_H → jx_H → Prop) : Prop := ∀ hx hm, Inv hx hm → jl_stI Inv 56 149 [] hx hm
def jl_s20 (Inv : jx_H → jx_H → Prop) : Prop := ∀ hx hm, Inv hx hm → jl_stI Inv 58 150 [] hx hm
def jl_s21 (Inv : jx_H → jx_H → Prop) : Prop := ∀ hx hm, Inv hx hm → ∀ a0 : Int32, jl_stI Inv 61 151 [vi a0] hx hm
def jl_s22 (Inv : jx_H → jx_H → Prop) : Prop := ∀ hx hm, Inv hx hm → ∀ a0 : Int32, jl_stI Inv 65 153 [vi a0] hx hm
def jl_s23 (Inv : jx_H → jx_H → Prop) : Prop := ∀ hx hm, Inv hx hm → ∀ a0 : Int32, jl_stI Inv 69 154 [vi a0] hx hm
def jl_s24 (Inv : jx_H → jx_H → Prop) : Prop := ∀ hx hm, Inv hx hm → jl_stI Inv 73 156 [] hx hm
def jl_s25 (Inv : jx_H → jx_H → Prop) : Prop := ∀ hx hm, Inv hx hm → jl_stI Inv 74 157 [] hx hm
def jl_s26 (Inv : jx_H → jx_H → Prop) : Prop := ∀ hx hm, Inv hx hm → jl_stI Inv 77 159 [] hx hm
def jl_s27 (Inv : jx_H → jx_H → Prop) : Prop := ∀ hx hm, Inv hx hm → jl_stL Inv 79 161 [] hx hm
def jl_s28 (Inv : jx_H → jx_H → Prop) : Prop := ∀ hx hm, Inv hx hm → ∀ a0 : Int32, jl_stI Inv 83 163 [vi a0] hx hm
def jl_s29 (Inv : jx_H → jx_H → Prop) : Prop := ∀ hx hm, Inv hx hm → jl_stI Inv 85 164 [] hx hm
def jl_s30 (Inv : jx_H → jx_H → Prop) : Prop := ∀ hx hm, Inv hx hm → jl_stI Inv 88 166 [] hx hm
def jl_s31 (Inv : jx_H → jx_H → Prop) : Prop := ∀ hx hm, Inv hx hm → jl_stL Inv 90 168 [] hx hm
def jl_s32 (Inv : jx_H → jx_H → Prop) : Prop := ∀ hx hm, Inv hx hm → ∀ a0 : Int32, jl_stI Inv 96 173 [vi a0] hx hm
def jl_s33 (Inv : jx_H → jx_H → Prop) : Prop := ∀ hx hm, Inv hx hm → jl_stI Inv 97 174 [] hx hm
def jl_s34 (Inv : jx_H → jx_H → Prop) : Prop := ∀ hx hm, Inv hx hm → ∀ a0 : Int32, ∀ a1 : Int32, jl_stI Inv 99 175 [vi a0, vi a1] hx hm
def jl_s35 (Inv : jx_H → jx_H → Prop) : Prop := ∀ hx hm, Inv hx hm → ∀ a0 : Int32, jl_stI Inv 102 176 [vi a0] hx hm
def jl_s36 (Inv : jx_H → jx_H → Prop) : Prop := ∀ hx hm, Inv hx hm → ∀ a0 : Int32, jl_stI Inv 105 178 [vi a0] hx hm
def jl_s37 (Inv : jx_H → jx_H → Prop) : Prop := ∀ hx hm, Inv hx hm → ∀ a0 : Int32, ∀ a1 : Int32, jl_stI Inv 106 179 [vi a0, vi a1] hx hm
def jl_s38 (Inv : jx_H → jx_H → Prop) : Prop := ∀ hx hm, Inv hx hm → ∀ a0 : Int32, jl_stI Inv 108 180 [vi a0] hx hm
def jl_steps (Inv : jx_H → jx_H → Prop) : Prop := jl_s0 Inv ∧ jl_s1 Inv ∧ jl_s2 Inv ∧ jl_s3 Inv ∧ jl_s4 Inv ∧ jl_s5 Inv ∧ jl_s6 Inv ∧ jl_s7 Inv ∧ jl_s8 Inv ∧ jl_s9 Inv ∧ jl_s10 Inv ∧ jl_s11 Inv ∧ jl_s12 Inv ∧ jl_s13 Inv ∧ jl_s14 Inv ∧ jl_s15 Inv ∧ jl_s16 Inv ∧ jl_s17 Inv ∧ jl_s18 Inv ∧ jl_s19 Inv ∧ jl_s20 Inv ∧ jl_s21 Inv ∧ jl_s22 Inv ∧ jl_s23 Inv ∧ jl_s24 Inv ∧ jl_s25 Inv ∧ jl_s26 Inv ∧ jl_s27 Inv ∧ jl_s28 Inv ∧ jl_s29 Inv ∧ jl_s30 Inv ∧ jl_s31 Inv ∧ jl_s32 Inv ∧ jl_s33 Inv ∧ jl_s34 Inv ∧ jl_s35 Inv ∧ jl_s36 Inv ∧ jl_s37 Inv ∧ jl_s38 Inv
theorem jl_b01 {x : Int32} : (if x = 0 then (0 : Int32) else 1) = 0 ∨ (if x = 0 then (0 : Int32) else 1) = 1 := by
  by_cases h : x = 0
  · exact Or.inl (if_pos h)
  · exact Or.inr (if_neg h)
section
variable {p : Program} {l : Launch} {e : Env} {s : State} {m : MethodId} {below : List Frame} {meth : Method} {c : Code} {b L : Nat} {xs : Nat → Int32} {wx wm : jx_Wd} {hx hm : jx_H} {i : Int32} {Inv : jx_H → jx_H → Prop}
set_option maxRecDepth 100000 in
theorem jl_c0 (C0 : lw_At p s m meth c b L xs) (hwx : jl_W s wx) (hwm : jl_W s wm) (hdis : jl_dis wx wm) (hmx : (0, 0) ∈ jx_pl wx) (hmm : (30, 0) ∈ jx_pl wm) (hL : L ≤ 3072) {j : Nat} (hi : i = nI j) (hjL : j + 6 ≤ L) (hst : jl_s0 Inv) (hI : Inv hx hm) (k : ∀ hx' hm', Inv hx' hm' → jl_Go p l e s m below meth c b wx wm hx' hm' i 1221 []) : jl_Go p l e s m below meth c b wx wm hx hm i 204 [] := by
  obtain ⟨r, hx', hm', h1, h2, h3⟩ := hst hx hm hI (if xs (j + 1) = 0 then 0 else 1) jl_b01
  exact jl_al1 C0 (by decide +kernel) <|
    jl_sb C0 (q := 1) (n := 1) hi rfl (by omega) hL (by decide +kernel) (by decide +kernel) (by decide +kernel) rfl (by decide +kernel) (by decide +kernel) (by decide +kernel) (by decide +kernel) (by decide +kernel) (by decide +kernel) <|
    jl_callx C0 hwx hdis (st := []) (a := [vi (if xs (j + 1) = 0 then 0 else 1)]) (idx := 13) (by decide +kernel) mf_3 wd_344 rfl rfl hmx h1 (jx_oc trivial (fun _ h => absurd h List.not_mem_nil)) rfl (Nat.le_of_ble_eq_true rfl) <|
    jl_al2 C0 (by decide +kernel) <|
    jl_sb C0 (q := 1) (n := 1) hi rfl (by omega) hL (by decide +kernel) (by decide +kernel) (by decide +kernel) rfl (by decide +kernel) (by decide +kernel) (by decide +kernel) (by decide +kernel) (by decide +kernel) (by decide +kernel) <|
    jl_callm C0 hwm hdis (st := [.int r]) (a := [vi (if xs (j + 1) = 0 then 0 else 1)]) (idx := 17) (by decide +kernel) mf_113 wd_896 rfl rfl hmm h2 (jx_oc trivial (fun _ h => absurd h List.not_mem_nil)) rfl (Nat.le_of_ble_eq_true rfl) <|
    jl_eq C0 rfl (off := 983) (t := 1221) (by decide +kernel) (by decide +kernel) <| k _ _ h3
set_option maxRecDepth 100000 in
theorem jl_c1 (C0 : lw_At p s m meth c b L xs) (hwx : jl_W s wx) (hwm : jl_W s wm) (hdis : jl_dis wx wm) (hmx : (0, 0) ∈ jx_pl wx) (hmm : (30, 0) ∈ jx_pl wm) (hL : L ≤ 3072) {j : Nat} (hi : i = nI j) (hjL : j + 6 ≤ L) (hst : jl_s1 Inv) (hI : Inv hx hm) (k : ∀ hx' hm', Inv hx' hm' → jl_Go p l e s m below meth c b wx wm hx' hm' i 1221 []) : jl_Go p l e s m below meth c b wx wm hx hm i 243 [] := by
  obtain ⟨r, hx', hm', h1, h2, h3⟩ := hst hx hm hI
  exact jl_al1 C0 (by decide +kernel) <|
    jl_callx C0 hwx hdis (st := []) (a := []) (idx := 18) (by decide +kernel) mf_7 wd_366 rfl rfl hmx h1 (fun _ h => absurd h List.not_mem_nil) rfl (Nat.le_of_ble_eq_true rfl) <|
    jl_al2 C0 (by decide +kernel) <|
    jl_callm C0 hwm hdis (st := [.int r]) (a := []) (idx := 22) (by decide +kernel) mf_116 wd_908 rfl rfl hmm h2 (fun _ h => absurd h List.not_mem_nil) rfl (Nat.le_of_ble_eq_true rfl) <|
    jl_eq C0 rfl (off := 970) (t := 1221) (by decide +kernel) (by decide +kernel) <| k _ _ h3
set_option maxRecDepth 100000 in
theorem jl_c2 (C0 : lw_At p s m meth c b L xs) (hwx : jl_W s wx) (hwm : jl_W s wm) (hdis : jl_dis wx wm) (hmx : (0, 0) ∈ jx_pl wx) (hmm : (30, 0) ∈ jx_pl wm) (hL : L ≤ 3072) {j : Nat} (hi : i = nI j) (hjL : j + 6 ≤ L) (hst : jl_s2 Inv) (hI : Inv hx hm) (k : ∀ hx' hm', Inv hx' hm' → jl_Go p l e s m below meth c b wx wm hx' hm' i 1221 []) : jl_Go p l e s m below meth c b wx wm hx hm i 256 [] := by
  obtain ⟨r, hx', hm', h1, h2, h3⟩ := hst hx hm hI (xs (j + 1)) (xs (j + 2))
  exact jl_al1 C0 (by decide +kernel) <|
    jl_sc C0 (q := 1) (n := 1) hi rfl (by omega) hL (by decide +kernel) (by decide +kernel) (by decide +kernel) rfl (by decide +kernel) (by decide +kernel) <|
    jl_sc C0 (q := 2) (n := 2) hi rfl (by omega) hL (by decide +kernel) (by decide +kernel) (by decide +kernel) rfl (by decide +kernel) (by decide +kernel) <|
    jl_callx C0 hwx hdis (st := []) (a := [vi (xs (j + 1)), vi (xs (j + 2))]) (idx := 23) (by decide +kernel) mf_10 wd_378 rfl rfl hmx h1 (jx_oc trivial (jx_oc trivial (fun _ h => absurd h List.not_mem_nil))) rfl (Nat.le_of_ble_eq_true rfl) <|
    jl_al2 C0 (by decide +kernel) <|
    jl_sc C0 (q := 1) (n := 1) hi rfl (by omega) hL (by decide +kernel) (by decide +kernel) (by decide +kernel) rfl (by decide +kernel) (by decide +kernel) <|
    jl_sc C0 (q := 2) (n := 2) hi rfl (by omega) hL (by decide +kernel) (by decide +kernel) (by decide +kernel) rfl (by decide +kernel) (by decide +kernel) <|
    jl_callm C0 hwm hdis (st := [.int r]) (a := [vi (xs (j + 1)), vi (xs (j + 2))]) (idx := 27) (by decide +kernel) mf_117 wd_912 rfl rfl hmm h2 (jx_oc trivial (jx_oc trivial (fun _ h => absurd h List.not_mem_nil))) rfl (Nat.le_of_ble_eq_true rfl) <|
    jl_eq C0 rfl (off := 937) (t := 1221) (by decide +kernel) (by decide +kernel) <| k _ _ h3
set_option maxRecDepth 100000 in
theorem jl_c3 (C0 : lw_At p s m meth c b L xs) (hwx : jl_W s wx) (hwm : jl_W s wm) (hdis : jl_dis wx wm) (hmx : (0, 0) ∈ jx_pl wx) (hmm : (30, 0) ∈ jx_pl wm) (hL : L ≤ 3072) {j : Nat} (hi : i = nI j) (hjL : j + 6 ≤ L) (hst : jl_s3 Inv) (hI : Inv hx hm) (k : ∀ hx' hm', Inv hx' hm' → jl_Go p l e s m below meth c b wx wm hx' hm' i 1221 []) : jl_Go p l e s m below meth c b wx wm hx hm i 289 [] := by
  obtain ⟨r, hx', hm', h1, h2, h3⟩ := hst hx hm hI (xs (j + 1)) (if xs (j + 2) = 0 then 0 else 1) (xs (j + 3)) jl_b01
  exact jl_al1 C0 (by decide +kernel) <|
    jl_sc C0 (q := 1) (n := 1) hi rfl (by omega) hL (by decide +kernel) (by decide +kernel) (by decide +kernel) rfl (by decide +kernel) (by decide +kernel) <|
    jl_sb C0 (q := 2) (n := 2) hi rfl (by omega) hL (by decide +kernel) (by decide +kernel) (by decide +kernel) rfl (by decide +kernel) (by decide +kernel) (by decide +kernel) (by decide +kernel) (by decide +kernel) (by decide +kernel) <|
    jl_sc C0 (q := 3) (n := 3) hi rfl (by omega) hL (by decide +kernel) (by decide +kernel) (by decide +kernel) rfl (by decide +kernel) (by decide +kernel) <|
    jl_callx C0 hwx hdis (st := []) (a := [vi (xs (j + 1)), vi (if xs (j + 2) = 0 then 0 else 1), vi (xs (j + 3))]) (idx := 28) (by decide +kernel) mf_14 wd_394 rfl rfl hmx h1 (jx_oc trivial (jx_oc trivial (jx_oc trivial (fun _ h => absurd h List.not_mem_nil)))) rfl (Nat.le_of_ble_eq_true rfl) <|
    jl_al2 C0 (by decide +kernel) <|
    jl_sc C0 (q := 1) (n := 1) hi rfl (by omega) hL (by decide +kernel) (by decide +kernel) (by decide +kernel) rfl (by decide +kernel) (by decide +kernel) <|
    jl_sb C0 (q := 2) (n := 2) hi rfl (by omega) hL (by decide +kernel) (by decide +kernel) (by decide +kernel) rfl (by decide +kernel) (by decide +kernel) (by decide +kernel) (by decide +kernel) (by decide +kernel) (by decide +kernel) <|
    jl_sc C0 (q := 3) (n := 3) hi rfl (by omega) hL (by decide +kernel) (by decide +kernel) (by decide +kernel) rfl (by decide +kernel) (by decide +kernel) <|
    jl_callm C0 hwm hdis (st := [.int r]) (a := [vi (xs (j + 1)), vi (if xs (j + 2) = 0 then 0 else 1), vi (xs (j + 3))]) (idx := 32) (by decide +kernel) mf_120 wd_924 rfl rfl hmm h2 (jx_oc trivial (jx_oc trivial (jx_oc trivial (fun _ h => absurd h List.not_mem_nil)))) rfl (Nat.le_of_ble_eq_true rfl) <|
    jl_eq C0 rfl (off := 878) (t := 1221) (by decide +kernel) (by decide +kernel) <| k _ _ h3
set_option maxRecDepth 100000 in
theorem jl_c4 (C0 : lw_At p s m meth c b L xs) (hwx : jl_W s wx) (hwm : jl_W s wm) (hdis : jl_dis wx wm) (hmx : (0, 0) ∈ jx_pl wx) (hmm : (30, 0) ∈ jx_pl wm) (hL : L ≤ 3072) {j : Nat} (hi : i = nI j) (hjL : j + 6 ≤ L) (hst : jl_s4 Inv) (hI : Inv hx hm) (k : ∀ hx' hm', Inv hx' hm' → jl_Go p l e s m below meth c b wx wm hx' hm' i 1221 []) : jl_Go p l e s m below meth c b wx wm hx hm i 348 [] := by
  obtain ⟨r, hx', hm', h1, h2, h3⟩ := hst hx hm hI (xs (j + 1))
  exact jl_al1 C0 (by decide +kernel) <|
    jl_sc C0 (q := 1) (n := 1) hi rfl (by omega) hL (by decide +kernel) (by decide +kernel) (by decide +kernel) rfl (by decide +kernel) (by decide +kernel) <|
    jl_callx C0 hwx hdis (st := []) (a := [vi (xs (j + 1))]) (idx := 33) (by decide +kernel) mf_16 wd_402 rfl rfl hmx h1 (jx_oc trivial (fun _ h => absurd h List.not_mem_nil)) rfl (Nat.le_of_ble_eq_true rfl) <|
    jl_al2 C0 (by decide +kernel) <|
    jl_sc C0 (q := 1) (n := 1) hi rfl (by omega) hL (by decide +kernel) (by decide +kernel) (by decide +kernel) rfl (by decide +kernel) (by decide +kernel) <|
    jl_callm C0 hwm hdis (st := [.int r]) (a := [vi (xs (j + 1))]) (idx := 37) (by decide +kernel) mf_122 wd_932 rfl rfl hmm h2 (jx_oc trivial (fun _ h => absurd h List.not_mem_nil)) rfl (Nat.le_of_ble_eq_true rfl) <|
    jl_eq C0 rfl (off := 855) (t := 1221) (by decide +kernel) (by decide +kernel) <| k _ _ h3
set_option maxRecDepth 100000 in
theorem jl_c5 (C0 : lw_At p s m meth c b L xs) (hwx : jl_W s wx) (hwm : jl_W s wm) (hdis : jl_dis wx wm) (hmx : (0, 0) ∈ jx_pl wx) (hmm : (30, 0) ∈ jx_pl wm) (hL : L ≤ 3072) {j : Nat} (hi : i = nI j) (hjL : j + 6 ≤ L) (hst : jl_s5 Inv) (hI : Inv hx hm) (k : ∀ hx' hm', Inv hx' hm' → jl_Go p l e s m below meth c b wx wm hx' hm' i 1221 []) : jl_Go p l e s m below meth c b wx wm hx hm i 371 [] := by
  obtain ⟨r, hx', hm', h1, h2, h3⟩ := hst hx hm hI (xs (j + 1)) (xs (j + 2))
  exact jl_al1 C0 (by decide +kernel) <|
    jl_sc C0 (q := 1) (n := 1) hi rfl (by omega) hL (by decide +kernel) (by decide +kernel) (by decide +kernel) rfl (by decide +kernel) (by decide +kernel) <|
    jl_sc C0 (q := 2) (n := 2) hi rfl (by omega) hL (by decide +kernel) (by decide +kernel) (by decide +kernel) rfl (by decide +kernel) (by decide +kernel) <|
    jl_callx C0 hwx hdis (st := []) (a := [vi (xs (j + 1)), vi (xs (j + 2))]) (idx := 38) (by decide +kernel) mf_20 wd_416 rfl rfl hmx h1 (jx_oc trivial (jx_oc trivial (fun _ h => absurd h List.not_mem_nil))) rfl (Nat.le_of_ble_eq_true rfl) <|
    jl_al2 C0 (by decide +kernel) <|
    jl_sc C0 (q := 1) (n := 1) hi rfl (by omega) hL (by decide +kernel) (by decide +kernel) (by decide +kernel) rfl (by decide +kernel) (by decide +kernel) <|
    jl_sc C0 (q := 2) (n := 2) hi rfl (by omega) hL (by decide +kernel) (by decide +kernel) (by decide +kernel) rfl (by decide +kernel) (by decide +kernel) <|
    jl_callm C0 hwm hdis (st := [.int r]) (a := [vi (xs (j + 1)), vi (xs (j + 2))]) (idx := 41) (by decide +kernel) mf_124 wd_940 rfl rfl hmm h2 (jx_oc trivial (jx_oc trivial (fun _ h => absurd h List.not_mem_nil))) rfl (Nat.le_of_ble_eq_true rfl) <|
    jl_eq C0 rfl (off := 822) (t := 1221) (by decide +kernel) (by decide +kernel) <| k _ _ h3
set_option maxRecDepth 100000 in
theorem jl_c6 (C0 : lw_At p s m meth c b L xs) (hwx : jl_W s wx) (hwm : jl_W s wm) (hdis : jl_dis wx wm) (hmx : (0, 0) ∈ jx_pl wx) (hmm : (30, 0) ∈ jx_pl wm) (hL : L ≤ 3072) {j : Nat} (hi : i = nI j) (hjL : j + 6 ≤ L) (hst : jl_s6 Inv) (hI : Inv hx hm) (k : ∀ hx' hm', Inv hx' hm' → jl_Go p l e s m below meth c b wx wm hx' hm' i 1221 []) : jl_Go p l e s m below meth c b wx wm hx hm i 404 [] := by
  obtain ⟨r, hx', hm', h1, h2, h3⟩ := hst hx hm hI (xs (j + 1)) (xs (j + 2))
  exact jl_al1 C0 (by decide +kernel) <|
    jl_sc C0 (q := 1) (n := 1) hi rfl (by omega) hL (by decide +kernel) (by decide +kernel) (by decide +kernel) rfl (by decide +kernel) (by decide +kernel) <|
    jl_sc C0 (q := 2) (n := 2) hi rfl (by omega) hL (by decide +kernel) (by decide +kernel) (by decide +kernel) rfl (by decide +kernel) (by decide +kernel) <|
    jl_callx C0 hwx hdis (st := []) (a := [vi (xs (j + 1)), vi (xs (j + 2))]) (idx := 42) (by decide +kernel) mf_23 wd_428 rfl rfl hmx h1 (jx_oc trivial (jx_oc trivial (fun _ h => absurd h List.not_mem_nil))) rfl (Nat.le_of_ble_eq_true rfl) <|
    jl_al2 C0 (by decide +kernel) <|
    jl_sc C0 (q := 1) (n := 1) hi rfl (by omega) hL (by decide +kernel) (by decide +kernel) (by decide +kernel) rfl (by decide +kernel) (by decide +kernel) <|
    jl_sc C0 (q := 2) (n := 2) hi rfl (by omega) hL (by decide +kernel) (by decide +kernel) (by decide +kernel) rfl (by decide +kernel) (by decide +kernel) <|
    jl_callm C0 hwm hdis (st := [.int r]) (a := [vi (xs (j + 1)), vi (xs (j + 2))]) (idx := 45) (by decide +kernel) mf_126 wd_947 rfl rfl hmm h2 (jx_oc trivial (jx_oc trivial (fun _ h => absurd h List.not_mem_nil))) rfl (Nat.le_of_ble_eq_true rfl) <|
    jl_eq C0 rfl (off := 789) (t := 1221) (by decide +kernel) (by decide +kernel) <| k _ _ h3
set_option maxRecDepth 100000 in
theorem jl_c7 (C0 : lw_At p s m meth c b L xs) (hwx : jl_W s wx) (hwm : jl_W s wm) (hdis : jl_dis wx wm) (hmx : (0, 0) ∈ jx_pl wx) (hmm : (30, 0) ∈ jx_pl wm) (hL : L ≤ 3072) {j : Nat} (hi : i = nI j) (hjL : j + 6 ≤ L) (hst : jl_s7 Inv) (hI : Inv hx hm) (k : ∀ hx' hm', Inv hx' hm' → jl_Go p l e s m below meth c b wx wm hx' hm' i 1221 []) : jl_Go p l e s m below meth c b wx wm hx hm i 437 [] := by
  obtain ⟨r, hx', hm', h1, h2, h3⟩ := hst hx hm hI
  exact jl_al1 C0 (by decide +kernel) <|
    jl_callx C0 hwx hdis (st := []) (a := []) (idx := 46) (by decide +kernel) mf_24 wd_432 rfl rfl hmx h1 (fun _ h => absurd h List.not_mem_nil) rfl (Nat.le_of_ble_eq_true rfl) <|
    jl_al2 C0 (by decide +kernel) <|
    jl_callm C0 hwm hdis (st := [.int r]) (a := []) (idx := 49) (by decide +kernel) mf_110 wd_884 rfl rfl hmm h2 (fun _ h => absurd h List.not_mem_nil) rfl (Nat.le_of_ble_eq_true rfl) <|
    jl_eq C0 rfl (off := 776) (t := 1221) (by decide +kernel) (by decide +kernel) <| k _ _ h3
set_option maxRecDepth 100000 in
theorem jl_c8 (C0 : lw_At p s m meth c b L xs) (hwx : jl_W s wx) (hwm : jl_W s wm) (hdis : jl_dis wx wm) (hmx : (0, 0) ∈ jx_pl wx) (hmm : (30, 0) ∈ jx_pl wm) (hL : L ≤ 3072) {j : Nat} (hi : i = nI j) (hjL : j + 6 ≤ L) (hst : jl_s8 Inv) (hI : Inv hx hm) (k : ∀ hx' hm', Inv hx' hm' → jl_Go p l e s m below meth c b wx wm hx' hm' i 1221 []) : jl_Go p l e s m below meth c b wx wm hx hm i 450 [] := by
  obtain ⟨r, hx', hm', h1, h2, h3⟩ := hst hx hm hI (xs (j + 1)) (xs (j + 2)) (xs (j + 3))
  exact jl_al1 C0 (by decide +kernel) <|
    jl_sc C0 (q := 1) (n := 1) hi rfl (by omega) hL (by decide +kernel) (by decide +kernel) (by decide +kernel) rfl (by decide +kernel) (by decide +kernel) <|
    jl_sc C0 (q := 2) (n := 2) hi rfl (by omega) hL (by decide +kernel) (by decide +kernel) (by decide +kernel) rfl (by decide +kernel) (by decide +kernel) <|
    jl_sc C0 (q := 3) (n := 3) hi rfl (by omega) hL (by decide +kernel) (by decide +kernel) (by decide +kernel) rfl (by decide +kernel) (by decide +kernel) <|
    jl_callx C0 hwx hdis (st := []) (a := [vi (xs (j + 1)), vi (xs (j + 2)), vi (xs (j + 3))]) (idx := 50) (by decide +kernel) mf_26 wd_440 rfl rfl hmx h1 (jx_oc trivial (jx_oc trivial (jx_oc trivial (fun _ h => absurd h List.not_mem_nil)))) rfl (Nat.le_of_ble_eq_true rfl) <|
    jl_al2 C0 (by decide +kernel) <|
    jl_sc C0 (q := 1) (n := 1) hi rfl (by omega) hL (by decide +kernel) (by decide +kernel) (by decide +kernel) rfl (by decide +kernel) (by decide +kernel) <|
    jl_sc C0 (q := 2) (n := 2) hi rfl (by omega) hL (by decide +kernel) (by decide +kernel) (by decide +kernel) rfl (by decide +kernel) (by decide +kernel) <|
    jl_sc C0 (q := 3) (n := 3) hi rfl (by omega) hL (by decide +kernel) (by decide +kernel) (by decide +kernel) rfl (by decide +kernel) (by decide +kernel) <|
    jl_callm C0 hwm hdis (st := [.int r]) (a := [vi (xs (j + 1)), vi (xs (j + 2)), vi (xs (j + 3))]) (idx := 54) (by decide +kernel) mf_127 wd_951 rfl rfl hmm h2 (jx_oc trivial (jx_oc trivial (jx_oc trivial (fun _ h => absurd h List.not_mem_nil)))) rfl (Nat.le_of_ble_eq_true rfl) <|
    jl_eq C0 rfl (off := 733) (t := 1221) (by decide +kernel) (by decide +kernel) <| k _ _ h3
set_option maxRecDepth 100000 in
theorem jl_c9 (C0 : lw_At p s m meth c b L xs) (hwx : jl_W s wx) (hwm : jl_W s wm) (hdis : jl_dis wx wm) (hmx : (0, 0) ∈ jx_pl wx) (hmm : (30, 0) ∈ jx_pl wm) (hL : L ≤ 3072) {j : Nat} (hi : i = nI j) (hjL : j + 6 ≤ L) (hst : jl_s9 Inv) (hI : Inv hx hm) (k : ∀ hx' hm', Inv hx' hm' → jl_Go p l e s m below meth c b wx wm hx' hm' i 1221 []) : jl_Go p l e s m below meth c b wx wm hx hm i 493 [] := by
  obtain ⟨r, hx', hm', h1, h2, h3⟩ := hst hx hm hI (xs (j + 1)) (xs (j + 2)) (xs (j + 3))
  exact jl_al1 C0 (by decide +kernel) <|
    jl_sc C0 (q := 1) (n := 1) hi rfl (by omega) hL (by decide +kernel) (by decide +kernel) (by decide +kernel) rfl (by decide +kernel) (by decide +kernel) <|
    jl_sc C0 (q := 2) (n := 2) hi rfl (by omega) hL (by decide +kernel) (by decide +kernel) (by decide +kernel) rfl (by decide +kernel) (by decide +kernel) <|
    jl_sc C0 (q := 3) (n := 3) hi rfl (by omega) hL (by decide +kernel) (by decide +kernel) (by decide +kernel) rfl (by decide +kernel) (by decide +kernel) <|
    jl_callx C0 hwx hdis (st := []) (a := [vi (xs (j + 1)), vi (xs (j + 2)), vi (xs (j + 3))]) (idx := 55) (by decide +kernel) mf_29 wd_451 rfl rfl hmx h1 (jx_oc trivial (jx_oc trivial (jx_oc trivial (fun _ h => absurd h List.not_mem_nil)))) rfl (Nat.le_of_ble_eq_true rfl) <|
    jl_al2 C0 (by decide +kernel) <|
    jl_sc C0 (q := 1) (n := 1) hi rfl (by omega) hL (by decide +kernel) (by decide +kernel) (by decide +kernel) rfl (by decide +kernel) (by decide +kernel) <|
    jl_sc C0 (q := 2) (n := 2) hi rfl (by omega) hL (by decide +kernel) (by decide +kernel) (by decide +kernel) rfl (by decide +kernel) (by decide +kernel) <|
    jl_sc C0 (q := 3) (n := 3) hi rfl (by omega) hL (by decide +kernel) (by decide +kernel) (by decide +kernel) rfl (by decide +kernel) (by decide +kernel) <|
    jl_callm C0 hwm hdis (st := [.int r]) (a := [vi (xs (j + 1)), vi (xs (j + 2)), vi (xs (j + 3))]) (idx := 58) (by decide +kernel) mf_129 wd_958 rfl rfl hmm h2 (jx_oc trivial (jx_oc trivial (jx_oc trivial (fun _ h => absurd h List.not_mem_nil)))) rfl (Nat.le_of_ble_eq_true rfl) <|
    jl_eq C0 rfl (off := 690) (t := 1221) (by decide +kernel) (by decide +kernel) <| k _ _ h3
set_option maxRecDepth 100000 in
theorem jl_c10 (C0 : lw_At p s m meth c b L xs) (hwx : jl_W s wx) (hwm : jl_W s wm) (hdis : jl_dis wx wm) (hmx : (0, 0) ∈ jx_pl wx) (hmm : (30, 0) ∈ jx_pl wm) (hL : L ≤ 3072) {j : Nat} (hi : i = nI j) (hjL : j + 6 ≤ L) (hst : jl_s10 Inv) (hI : Inv hx hm) (k : ∀ hx' hm', Inv hx' hm' → jl_Go p l e s m below meth c b wx wm hx' hm' i 1221 []) : jl_Go p l e s m below meth c b wx wm hx hm i 536 [] := by
  obtain ⟨r, hx', hm', h1, h2, h3⟩ := hst hx hm hI (xs (j + 1)) (xs (j + 2)) (xs (j + 3)) (xs (j + 4)) (xs (j + 5))
  exact jl_al1 C0 (by decide +kernel) <|
    jl_sc C0 (q := 1) (n := 1) hi rfl (by omega) hL (by decide +kernel) (by decide +kernel) (by decide +kernel) rfl (by decide +kernel) (by decide +kernel) <|
    jl_sc C0 (q := 2) (n := 2) hi rfl (by omega) hL (by decide +kernel) (by decide +kernel) (by decide +kernel) rfl (by decide +kernel) (by decide +kernel) <|
    jl_sc C0 (q := 3) (n := 3) hi rfl (by omega) hL (by decide +kernel) (by decide +kernel) (by decide +kernel) rfl (by decide +kernel) (by decide +kernel) <|
    jl_sc C0 (q := 4) (n := 4) hi rfl (by omega) hL (by decide +kernel) (by decide +kernel) (by decide +kernel) rfl (by decide +kernel) (by decide +kernel) <|
    jl_sc C0 (q := 5) (n := 5) hi rfl (by omega) hL (by decide +kernel) (by decide +kernel) (by decide +kernel) rfl (by decide +kernel) (by decide +kernel) <|
    jl_callx C0 hwx hdis (st := []) (a := [vi (xs (j + 1)), vi (xs (j + 2)), vi (xs (j + 3)), vi (xs (j + 4)), vi (xs (j + 5))]) (idx := 59) (by decide +kernel) mf_32 wd_464 rfl rfl hmx h1 (jx_oc trivial (jx_oc trivial (jx_oc trivial (jx_oc trivial (jx_oc trivial (fun _ h => absurd h List.not_mem_nil)))))) rfl (Nat.le_of_ble_eq_true rfl) <|
    jl_al2 C0 (by decide +kernel) <|
    jl_sc C0 (q := 1) (n := 1) hi rfl (by omega) hL (by decide +kernel) (by decide +kernel) (by decide +kernel) rfl (by decide +kernel) (by decide +kernel) <|
    jl_sc C0 (q := 2) (n := 2) hi rfl (by omega) hL (by decide +kernel) (by decide +kernel) (by decide +kernel) rfl (by decide +kernel) (by decide +kernel) <|
    jl_sc C0 (q := 3) (n := 3) hi rfl (by omega) hL (by decide +kernel) (by decide +kernel) (by decide +kernel) rfl (by decide +kernel) (by decide +kernel) <|
    jl_sc C0 (q := 4) (n := 4) hi rfl (by omega) hL (by decide +kernel) (by decide +kernel) (by decide +kernel) rfl (by decide +kernel) (by decide +kernel) <|
    jl_sc C0 (q := 5) (n := 5) hi rfl (by omega) hL (by decide +kernel) (by decide +kernel) (by decide +kernel) rfl (by decide +kernel) (by decide +kernel) <|
    jl_callm C0 hwm hdis (st := [.int r]) (a := [vi (xs (j + 1)), vi (xs (j + 2)), vi (xs (j + 3)), vi (xs (j + 4)), vi (xs (j + 5))]) (idx := 63) (by decide +kernel) mf_130 wd_962 rfl rfl hmm h2 (jx_oc trivial (jx_oc trivial (jx_oc trivial (jx_oc trivial (jx_oc trivial (fun _ h => absurd h List.not_mem_nil)))))) rfl (Nat.le_of_ble_eq_true rfl) <|
    jl_eq C0 rfl (off := 627) (t := 1221) (by decide +kernel) (by decide +kernel) <| k _ _ h3
set_option maxRecDepth 100000 in
theorem jl_c11 (C0 : lw_At p s m meth c b L xs) (hwx : jl_W s wx) (hwm : jl_W s wm) (hdis : jl_dis wx wm) (hmx : (0, 0) ∈ jx_pl wx) (hmm : (30, 0) ∈ jx_pl wm) (hL : L ≤ 3072) {j : Nat} (hi : i = nI j) (hjL : j + 6 ≤ L) (hst : jl_s11 Inv) (hI : Inv hx hm) (k : ∀ hx' hm', Inv hx' hm' → jl_Go p l e s m below meth c b wx wm hx' hm' i 1221 []) : jl_Go p l e s m below meth c b wx wm hx hm i 599 [] := by
  obtain ⟨r, hx', hm', h1, h2, h3⟩ := hst hx hm hI (xs (j + 1))
  exact jl_al1 C0 (by decide +kernel) <|
    jl_sc C0 (q := 1) (n := 1) hi rfl (by omega) hL (by decide +kernel) (by decide +kernel) (by decide +kernel) rfl (by decide +kernel) (by decide +kernel) <|
    jl_callx C0 hwx hdis (st := []) (a := [vi (xs (j + 1))]) (idx := 64) (by decide +kernel) mf_34 wd_473 rfl rfl hmx h1 (jx_oc trivial (fun _ h => absurd h List.not_mem_nil)) rfl (Nat.le_of_ble_eq_true rfl) <|
    jl_al2 C0 (by decide +kernel) <|
    jl_sc C0 (q := 1) (n := 1) hi rfl (by omega) hL (by decide +kernel) (by decide +kernel) (by decide +kernel) rfl (by decide +kernel) (by decide +kernel) <|
    jl_callm C0 hwm hdis (st := [.int r]) (a := [vi (xs (j + 1))]) (idx := 67) (by decide +kernel) mf_132 wd_970 rfl rfl hmm h2 (jx_oc trivial (fun _ h => absurd h List.not_mem_nil)) rfl (Nat.le_of_ble_eq_true rfl) <|
    jl_eq C0 rfl (off := 604) (t := 1221) (by decide +kernel) (by decide +kernel) <| k _ _ h3
set_option maxRecDepth 100000 in
theorem jl_c12 (C0 : lw_At p s m meth c b L xs) (hwx : jl_W s wx) (hwm : jl_W s wm) (hdis : jl_dis wx wm) (hmx : (0, 0) ∈ jx_pl wx) (hmm : (30, 0) ∈ jx_pl wm) (hL : L ≤ 3072) {j : Nat} (hi : i = nI j) (hjL : j + 6 ≤ L) (hst : jl_s12 Inv) (hI : Inv hx hm) (k : ∀ hx' hm', Inv hx' hm' → jl_Go p l e s m below meth c b wx wm hx' hm' i 1221 []) : jl_Go p l e s m below meth c b wx wm hx hm i 622 [] := by
  obtain ⟨r, hx', hm', h1, h2, h3⟩ := hst hx hm hI (xs (j + 1)) (xs (j + 2))
  exact jl_al1 C0 (by decide +kernel) <|
    jl_sc C0 (q := 1) (n := 1) hi rfl (by omega) hL (by decide +kernel) (by decide +kernel) (by decide +kernel) rfl (by decide +kernel) (by decide +kernel) <|
    jl_sc C0 (q := 2) (n := 2) hi rfl (by omega) hL (by decide +kernel) (by decide +kernel) (by decide +kernel) rfl (by decide +kernel) (by decide +kernel) <|
    jl_callx C0 hwx hdis (st := []) (a := [vi (xs (j + 1)), vi (xs (j + 2))]) (idx := 68) (by decide +kernel) mf_37 wd_485 rfl rfl hmx h1 (jx_oc trivial (jx_oc trivial (fun _ h => absurd h List.not_mem_nil))) rfl (Nat.le_of_ble_eq_true rfl) <|
    jl_al2 C0 (by decide +kernel) <|
    jl_sc C0 (q := 1) (n := 1) hi rfl (by omega) hL (by decide +kernel) (by decide +kernel) (by decide +kernel) rfl (by decide +kernel) (by decide +kernel) <|
    jl_sc C0 (q := 2) (n := 2) hi rfl (by omega) hL (by decide +kernel) (by decide +kernel) (by decide +kernel) rfl (by decide +kernel) (by decide +kernel) <|
    jl_callm C0 hwm hdis (st := [.int r]) (a := [vi (xs (j + 1)), vi (xs (j + 2))]) (idx := 71) (by decide +kernel) mf_133 wd_974 rfl rfl hmm h2 (jx_oc trivial (jx_oc trivial (fun _ h => absurd h List.not_mem_nil))) rfl (Nat.le_of_ble_eq_true rfl) <|
    jl_eq C0 rfl (off := 571) (t := 1221) (by decide +kernel) (by decide +kernel) <| k _ _ h3
set_option maxRecDepth 100000 in
theorem jl_c13 (C0 : lw_At p s m meth c b L xs) (hwx : jl_W s wx) (hwm : jl_W s wm) (hdis : jl_dis wx wm) (hmx : (0, 0) ∈ jx_pl wx) (hmm : (30, 0) ∈ jx_pl wm) (hL : L ≤ 3072) {j : Nat} (hi : i = nI j) (hjL : j + 6 ≤ L) (hst : jl_s13 Inv) (hI : Inv hx hm) (k : ∀ hx' hm', Inv hx' hm' → jl_Go p l e s m below meth c b wx wm hx' hm' i 1221 []) : jl_Go p l e s m below meth c b wx wm hx hm i 655 [] := by
  obtain ⟨r, hx', hm', h1, h2, h3⟩ := hst hx hm hI (xs (j + 1)) (xs (j + 2))
  exact jl_al1 C0 (by decide +kernel) <|
    jl_sc C0 (q := 1) (n := 1) hi rfl (by omega) hL (by decide +kernel) (by decide +kernel) (by decide +kernel) rfl (by decide +kernel) (by decide +kernel) <|
    jl_sc C0 (q := 2) (n := 2) hi rfl (by omega) hL (by decide +kernel) (by decide +kernel) (by decide +kernel) rfl (by decide +kernel) (by decide +kernel) <|
    jl_callx C0 hwx hdis (st := []) (a := [vi (xs (j + 1)), vi (xs (j + 2))]) (idx := 72) (by decide +kernel) mf_41 wd_510 rfl rfl hmx h1 (jx_oc trivial (jx_oc trivial (fun _ h => absurd h List.not_mem_nil))) rfl (Nat.le_of_ble_eq_true rfl) <|
    jl_al2 C0 (by decide +kernel) <|
    jl_sc C0 (q := 1) (n := 1) hi rfl (by omega) hL (by decide +kernel) (by decide +kernel) (by decide +kernel) rfl (by decide +kernel) (by decide +kernel) <|
    jl_sc C0 (q := 2) (n := 2) hi rfl (by omega) hL (by decide +kernel) (by decide +kernel) (by decide +kernel) rfl (by decide +kernel) (by decide +kernel) <|
    jl_callm C0 hwm hdis (st := [.int r]) (a := [vi (xs (j + 1)), vi (xs (j + 2))]) (idx := 75) (by decide +kernel) mf_139 wd_997 rfl rfl hmm h2 (jx_oc trivial (jx_oc trivial (fun _ h => absurd h List.not_mem_nil))) rfl (Nat.le_of_ble_eq_true rfl) <|
    jl_eq C0 rfl (off := 538) (t := 1221) (by decide +kernel) (by decide +kernel) <| k _ _ h3
set_option maxRecDepth 100000 in
theorem jl_c14 (C0 : lw_At p s m meth c b L xs) (hwx : jl_W s wx) (hwm : jl_W s wm) (hdis : jl_dis wx wm) (hmx : (0, 0) ∈ jx_pl wx) (hmm : (30, 0) ∈ jx_pl wm) (hL : L ≤ 3072) {j : Nat} (hi : i = nI j) (hjL : j + 6 ≤ L) (hst : jl_s14 Inv) (hI : Inv hx hm) (k : ∀ hx' hm', Inv hx' hm' → jl_Go p l e s m below meth c b wx wm hx' hm' i 1221 []) : jl_Go p l e s m below meth c b wx wm hx hm i 688 [] := by
  obtain ⟨r, hx', hm', h1, h2, h3⟩ := hst hx hm hI
  exact jl_al1 C0 (by decide +kernel) <|
    jl_callx C0 hwx hdis (st := []) (a := []) (idx := 76) (by decide +kernel) mf_43 wd_519 rfl rfl hmx h1 (fun _ h => absurd h List.not_mem_nil) rfl (Nat.le_of_ble_eq_true rfl) <|
    jl_al2 C0 (by decide +kernel) <|
    jl_callm C0 hwm hdis (st := [.int r]) (a := []) (idx := 79) (by decide +kernel) mf_141 wd_1004 rfl rfl hmm h2 (fun _ h => absurd h List.not_mem_nil) rfl (Nat.le_of_ble_eq_true rfl) <|
    jl_eq C0 rfl (off := 525) (t := 1221) (by decide +kernel) (by decide +kernel) <| k _ _ h3
set_option maxRecDepth 100000 in
theorem jl_c15 (C0 : lw_At p s m meth c b L xs) (hwx : jl_W s wx) (hwm : jl_W s wm) (hdis : jl_dis wx wm) (hmx : (0, 0) ∈ jx_pl wx) (hmm : (30, 0) ∈ jx_pl wm) (hL : L ≤ 3072) {j : Nat} (hi : i = nI j) (hjL : j + 6 ≤ L) (hst : jl_s15 Inv) (hI : Inv hx hm) (k : ∀ hx' hm', Inv hx' hm' → jl_Go p l e s m below meth c b wx wm hx' hm' i 1221 []) : jl_Go p l e s m below meth c b wx wm hx hm i 701 [] := by
  obtain ⟨r, hx', hm', h1, h2, h3⟩ := hst hx hm hI (xs (j + 1))
  exact jl_al1 C0 (by decide +kernel) <|
    jl_sc C0 (q := 1) (n := 1) hi rfl (by omega) hL (by decide +kernel) (by decide +kernel) (by decide +kernel) rfl (by decide +kernel) (by decide +kernel) <|
    jl_callx C0 hwx hdis (st := []) (a := [vi (xs (j + 1))]) (idx := 80) (by decide +kernel) mf_45 wd_527 rfl rfl hmx h1 (jx_oc trivial (fun _ h => absurd h List.not_mem_nil)) rfl (Nat.le_of_ble_eq_true rfl) <|
    jl_al2 C0 (by decide +kernel) <|
    jl_sc C0 (q := 1) (n := 1) hi rfl (by omega) hL (by decide +kernel) (by decide +kernel) (by decide +kernel) rfl (by decide +kernel) (by decide +kernel) <|
    jl_callm C0 hwm hdis (st := [.int r]) (a := [vi (xs (j + 1))]) (idx := 83) (by decide +kernel) mf_143 wd_1012 rfl rfl hmm h2 (jx_oc trivial (fun _ h => absurd h List.not_mem_nil)) rfl (Nat.le_of_ble_eq_true rfl) <|
    jl_eq C0 rfl (off := 502) (t := 1221) (by decide +kernel) (by decide +kernel) <| k _ _ h3
set_option maxRecDepth 100000 in
theorem jl_c16 (C0 : lw_At p s m meth c b L xs) (hwx : jl_W s wx) (hwm : jl_W s wm) (hdis : jl_dis wx wm) (hmx : (0, 0) ∈ jx_pl wx) (hmm : (30, 0) ∈ jx_pl wm) (hL : L ≤ 3072) {j : Nat} (hi : i = nI j) (hjL : j + 6 ≤ L) (hst : jl_s16 Inv) (hI : Inv hx hm) (k : ∀ hx' hm', Inv hx' hm' → jl_Go p l e s m below meth c b wx wm hx' hm' i 1221 []) : jl_Go p l e s m below meth c b wx wm hx hm i 724 [] := by
  obtain ⟨r, hx', hm', h1, h2, h3⟩ := hst hx hm hI (xs (j + 1)) (xs (j + 2))
  exact jl_al1 C0 (by decide +kernel) <|
    jl_sc C0 (q := 1) (n := 1) hi rfl (by omega) hL (by decide +kernel) (by decide +kernel) (by decide +kernel) rfl (by decide +kernel) (by decide +kernel) <|
    jl_sc C0 (q := 2) (n := 2) hi rfl (by omega) hL (by decide +kernel) (by decide +kernel) (by decide +kernel) rfl (by decide +kernel) (by decide +kernel) <|
    jl_callx C0 hwx hdis (st := []) (a := [vi (xs (j + 1)), vi (xs (j + 2))]) (idx := 84) (by decide +kernel) mf_48 wd_539 rfl rfl hmx h1 (jx_oc trivial (jx_oc trivial (fun _ h => absurd h List.not_mem_nil))) rfl (Nat.le_of_ble_eq_true rfl) <|
    jl_al2 C0 (by decide +kernel) <|
    jl_sc C0 (q := 1) (n := 1) hi rfl (by omega) hL (by decide +kernel) (by decide +kernel) (by decide +kernel) rfl (by decide +kernel) (by decide +kernel) <|
    jl_sc C0 (q := 2) (n := 2) hi rfl (by omega) hL (by decide +kernel) (by decide +kernel) (by decide +kernel) rfl (by decide +kernel) (by decide +kernel) <|
    jl_callm C0 hwm hdis (st := [.int r]) (a := [vi (xs (j + 1)), vi (xs (j + 2))]) (idx := 87) (by decide +kernel) mf_144 wd_1017 rfl rfl hmm h2 (jx_oc trivial (jx_oc trivial (fun _ h => absurd h List.not_mem_nil))) rfl (Nat.le_of_ble_eq_true rfl) <|
    jl_eq C0 rfl (off := 469) (t := 1221) (by decide +kernel) (by decide +kernel) <| k _ _ h3
set_option maxRecDepth 100000 in
theorem jl_c17 (C0 : lw_At p s m meth c b L xs) (hwx : jl_W s wx) (hwm : jl_W s wm) (hdis : jl_dis wx wm) (hmx : (0, 0) ∈ jx_pl wx) (hmm : (30, 0) ∈ jx_pl wm) (hL : L ≤ 3072) {j : Nat} (hi : i = nI j) (hjL : j + 6 ≤ L) (hst : jl_s17 Inv) (hI : Inv hx hm) (k : ∀ hx' hm', Inv hx' hm' → jl_Go p l e s m below meth c b wx wm hx' hm' i 1221 []) : jl_Go p l e s m below meth c b wx wm hx hm i 757 [] := by
  obtain ⟨r, hx', hm', h1, h2, h3⟩ := hst hx hm hI (xs (j + 1)) (xs (j + 2))
  exact jl_al1 C0 (by decide +kernel) <|
    jl_sc C0 (q := 1) (n := 1) hi rfl (by omega) hL (by decide +kernel) (by decide +kernel) (by decide +kernel) rfl (by decide +kernel) (by decide +kernel) <|
    jl_sc C0 (q := 2) (n := 2) hi rfl (by omega) hL (by decide +kernel) (by decide +kernel) (by decide +kernel) rfl (by decide +kernel) (by decide +kernel) <|
    jl_callx C0 hwx hdis (st := []) (a := [vi (xs (j + 1)), vi (xs (j + 2))]) (idx := 88) (by decide +kernel) mf_51 wd_551 rfl rfl hmx h1 (jx_oc trivial (jx_oc trivial (fun _ h => absurd h List.not_mem_nil))) rfl (Nat.le_of_ble_eq_true rfl) <|
    jl_al2 C0 (by decide +kernel) <|
    jl_sc C0 (q := 1) (n := 1) hi rfl (by omega) hL (by decide +kernel) (by decide +kernel) (by decide +kernel) rfl (by decide +kernel) (by decide +kernel) <|
    jl_sc C0 (q := 2) (n := 2) hi rfl (by omega) hL (by decide +kernel) (by decide +kernel) (by decide +kernel) rfl (by decide +kernel) (by decide +kernel) <|
    jl_callm C0 hwm hdis (st := [.int r]) (a := [vi (xs (j + 1)), vi (xs (j + 2))]) (idx := 91) (by decide +kernel) mf_146 wd_1025 rfl rfl hmm h2 (jx_oc trivial (jx_oc trivial (fun _ h => absurd h List.not_mem_nil))) rfl (Nat.le_of_ble_eq_true rfl) <|
    jl_eq C0 rfl (off := 436) (t := 1221) (by decide +kernel) (by decide +kernel) <| k _ _ h3
set_option maxRecDepth 100000 in
theorem jl_c18 (C0 : lw_At p s m meth c b L xs) (hwx : jl_W s wx) (hwm : jl_W s wm) (hdis : jl_dis wx wm) (hmx : (0, 0) ∈ jx_pl wx) (hmm : (30, 0) ∈ jx_pl wm) (hL : L ≤ 3072) {j : Nat} (hi : i = nI j) (hjL : j + 6 ≤ L) (hst : jl_s18 Inv) (hI : Inv hx hm) (k : ∀ hx' hm', Inv hx' hm' → jl_Go p l e s m below meth c b wx wm hx' hm' i 1221 []) : jl_Go p l e s m below meth c b wx wm hx hm i 790 [] := by
  obtain ⟨r, hx', hm', h1, h2, h3⟩ := hst hx hm hI (if xs (j + 1) = 0 then 0 else 1) (xs (j + 2)) jl_b01
  exact jl_al1 C0 (by decide +kernel) <|
    jl_sb C0 (q := 1) (n := 1) hi rfl (by omega) hL (by decide +kernel) (by decide +kernel) (by decide +kernel) rfl (by decide +kernel) (by decide +kernel) (by decide +kernel) (by decide +kernel) (by decide +kernel) (by decide +kernel) <|
    jl_sc C0 (q := 2) (n := 2) hi rfl (by omega) hL (by decide +kernel) (by decide +kernel) (by decide +kernel) rfl (by decide +kernel) (by decide +kernel) <|
    jl_callx C0 hwx hdis (st := []) (a := [vi (if xs (j + 1) = 0 then 0 else 1), vi (xs (j + 2))]) (idx := 92) (by decide +kernel) mf_53 wd_559 rfl rfl hmx h1 (jx_oc trivial (jx_oc trivial (fun _ h => absurd h List.not_mem_nil))) rfl (Nat.le_of_ble_eq_true rfl) <|
    jl_al2 C0 (by decide +kernel) <|
    jl_sb C0 (q := 1) (n := 1) hi rfl (by omega) hL (by decide +kernel) (by decide +kernel) (by decide +kernel) rfl (by decide +kernel) (by decide +kernel) (by decide +kernel) (by decide +kernel) (by decide +kernel) (by decide +kernel) <|
    jl_sc C0 (q := 2) (n := 2) hi rfl (by omega) hL (by decide +kernel) (by decide +kernel) (by decide +kernel) rfl (by decide +kernel) (by decide +kernel) <|
    jl_callm C0 hwm hdis (st := [.int r]) (a := [vi (if xs (j + 1) = 0 then 0 else 1), vi (xs (j + 2))]) (idx := 96) (by decide +kernel) mf_147 wd_1029 rfl rfl hmm h2 (jx_oc trivial (jx_oc trivial (fun _ h => absurd h List.not_mem_nil))) rfl (Nat.le_of_ble_eq_true rfl) <|
    jl_eq C0 rfl (off := 387) (t := 1221) (by decide +kernel) (by decide +kernel) <| k _ _ h3
set_option maxRecDepth 100000 in
theorem jl_c19 (C0 : lw_At p s m meth c b L xs) (hwx : jl_W s wx) (hwm : jl_W s wm) (hdis : jl_dis wx wm) (hmx : (0, 0) ∈ jx_pl wx) (hmm : (30, 0) ∈ jx_pl wm) (hL : L ≤ 3072) {j : Nat} (hi : i = nI j) (hjL : j + 6 ≤ L) (hst : jl_s19 Inv) (hI : Inv hx hm) (k : ∀ hx' hm', Inv hx' hm' → jl_Go p l e s m below meth c b wx wm hx' hm' i 1221 []) : jl_Go p l e s m below meth c b wx wm hx hm i 839 [] := by
  obtain ⟨r, hx', hm', h1, h2, h3⟩ := hst hx hm hI
  exact jl_al1 C0 (by decide +kernel) <|
    jl_callx C0 hwx hdis (st := []) (a := []) (idx := 97) (by decide +kernel) mf_56 wd_571 rfl rfl hmx h1 (fun _ h => absurd h List.not_mem_nil) rfl (Nat.le_of_ble_eq_true rfl) <|
    jl_al2 C0 (by decide +kernel) <|
    jl_callm C0 hwm hdis (st := [.int r]) (a := []) (idx := 100) (by decide +kernel) mf_149 wd_1037 rfl rfl hmm h2 (fun _ h => absurd h List.not_mem_nil) rfl (Nat.le_of_ble_eq_true rfl) <|
    jl_eq C0 rfl (off := 374) (t := 1221) (by decide +kernel) (by decide +kernel) <| k _ _ h3
set_option maxRecDepth 100000 in
theorem jl_c20 (C0 : lw_At p s m meth c b L xs) (hwx : jl_W s wx) (hwm : jl_W s wm) (hdis : jl_dis wx wm) (hmx : (0, 0) ∈ jx_pl wx) (hmm : (30, 0) ∈ jx_pl wm) (hL : L ≤ 3072) {j : Nat} (hi : i = nI j) (hjL : j + 6 ≤ L) (hst : jl_s20 Inv) (hI : Inv hx hm) (k : ∀ hx' hm', Inv hx' hm' → jl_Go p l e s m below meth c b wx wm hx' hm' i 1221 []) : jl_Go p l e s m below meth c b wx wm hx hm i 852 [] := by
  obtain ⟨r, hx', hm', h1, h2, h3⟩ := hst hx hm hI
  exact jl_al1 C0 (by decide +kernel) <|
    jl_callx C0 hwx hdis (st := []) (a := []) (idx := 101) (by decide +kernel) mf_58 wd_579 rfl rfl hmx h1 (fun _ h => absurd h List.not_mem_nil) rfl (Nat.le_of_ble_eq_true rfl) <|
    jl_al2 C0 (by decide +kernel) <|
    jl_callm C0 hwm hdis (st := [.int r]) (a := []) (idx := 104) (by decide +kernel) mf_150 wd_1041 rfl rfl hmm h2 (fun _ h => absurd h List.not_mem_nil) rfl (Nat.le_of_ble_eq_true rfl) <|
    jl_eq C0 rfl (off := 361) (t := 1221) (by decide +kernel) (by decide +kernel) <| k _ _ h3
set_option maxRecDepth 100000 in
theorem jl_c21 (C0 : lw_At p s m meth c b L xs) (hwx : jl_W s wx) (hwm : jl_W s wm) (hdis : jl_dis wx wm) (hmx : (0, 0) ∈ jx_pl wx) (hmm : (30, 0) ∈ jx_pl wm) (hL : L ≤ 3072) {j : Nat} (hi : i = nI j) (hjL : j + 6 ≤ L) (hst : jl_s21 Inv) (hI : Inv hx hm) (k : ∀ hx' hm', Inv hx' hm' → jl_Go p l e s m below meth c b wx wm hx' hm' i 1221 []) : jl_Go p l e s m below meth c b wx wm hx hm i 865 [] := by
  obtain ⟨r, hx', hm', h1, h2, h3⟩ := hst hx hm hI (xs (j + 1))
  exact jl_al1 C0 (by decide +kernel) <|
    jl_sc C0 (q := 1) (n := 1) hi rfl (by omega) hL (by decide +kernel) (by decide +kernel) (by decide +kernel) rfl (by decide +kernel) (by decide +kernel) <|
    jl_callx C0 hwx hdis (st := []) (a := [vi (xs (j + 1))]) (idx := 105) (by decide +kernel) mf_61 wd_591 rfl rfl hmx h1 (jx_oc trivial (fun _ h => absurd h List.not_mem_nil)) rfl (Nat.le_of_ble_eq_true rfl) <|
    jl_al2 C0 (by decide +kernel) <|
    jl_sc C0 (q := 1) (n := 1) hi rfl (by omega) hL (by decide +kernel) (by decide +kernel) (by decide +kernel) rfl (by decide +kernel) (by decide +kernel) <|
    jl_callm C0 hwm hdis (st := [.int r]) (a := [vi (xs (j + 1))]) (idx := 108) (by decide +kernel) mf_151 wd_1045 rfl rfl hmm h2 (jx_oc trivial (fun _ h => absurd h List.not_mem_nil)) rfl (Nat.le_of_ble_eq_true rfl) <|
    jl_eq C0 rfl (off := 338) (t := 1221) (by decide +kernel) (by decide +kernel) <| k _ _ h3
set_option maxRecDepth 100000 in
theorem jl_c22 (C0 : lw_At p s m meth c b L xs) (hwx : jl_W s wx) (hwm : jl_W s wm) (hdis : jl_dis wx wm) (hmx : (0, 0) ∈ jx_pl wx) (hmm : (30, 0) ∈ jx_pl wm) (hL : L ≤ 3072) {j : Nat} (hi : i = nI j) (hjL : j + 6 ≤ L) (hst : jl_s22 Inv) (hI : Inv hx hm) (k : ∀ hx' hm', Inv hx' hm' → jl_Go p l e s m below meth c b wx wm hx' hm' i 1221 []) : jl_Go p l e s m below meth c b wx wm hx hm i 888 [] := by
  obtain ⟨r, hx', hm', h1, h2, h3⟩ := hst hx hm hI (xs (j + 1))
  exact jl_al1 C0 (by decide +kernel) <|
    jl_sc C0 (q := 1) (n := 1) hi rfl (by omega) hL (by decide +kernel) (by decide +kernel) (by decide +kernel) rfl (by decide +kernel) (by decide +kernel) <|
    jl_callx C0 hwx hdis (st := []) (a := [vi (xs (j + 1))]) (idx := 109) (by decide +kernel) mf_65 wd_608 rfl rfl hmx h1 (jx_oc trivial (fun _ h => absurd h List.not_mem_nil)) rfl (Nat.le_of_ble_eq_true rfl) <|
    jl_al2 C0 (by decide +kernel) <|
    jl_sc C0 (q := 1) (n := 1) hi rfl (by omega) hL (by decide +kernel) (by decide +kernel) (by decide +kernel) rfl (by decide +kernel) (by decide +kernel) <|
    jl_callm C0 hwm hdis (st := [.int r]) (a := [vi (xs (j + 1))]) (idx := 112) (by decide +kernel) mf_153 wd_1053 rfl rfl hmm h2 (jx_oc trivial (fun _ h => absurd h List.not_mem_nil)) rfl (Nat.le_of_ble_eq_true rfl) <|
    jl_eq C0 rfl (off := 315) (t := 1221) (by decide +kernel) (by decide +kernel) <| k _ _ h3
set_option maxRecDepth 100000 in
theorem jl_c23 (C0 : lw_At p s m meth c b L xs) (hwx : jl_W s wx) (hwm : jl_W s wm) (hdis : jl_dis wx wm) (hmx : (0, 0) ∈ jx_pl wx) (hmm : (30, 0) ∈ jx_pl wm) (hL : L ≤ 3072) {j : Nat} (hi : i = nI j) (hjL : j + 6 ≤ L) (hst : jl_s23 Inv) (hI : Inv hx hm) (k : ∀ hx' hm', Inv hx' hm' → jl_Go p l e s m below meth c b wx wm hx' hm' i 1221 []) : jl_Go p l e s m below meth c b wx wm hx hm i 911 [] := by
  obtain ⟨r, hx', hm', h1, h2, h3⟩ := hst hx hm hI (xs (j + 1))
  exact jl_al1 C0 (by decide +kernel) <|
    jl_sc C0 (q := 1) (n := 1) hi rfl (by omega) hL (by decide +kernel) (by decide +kernel) (by decide +kernel) rfl (by decide +kernel) (by decide +kernel) <|
    jl_callx C0 hwx hdis (st := []) (a := [vi (xs (j + 1))]) (idx := 113) (by decide +kernel) mf_69 wd_627 rfl rfl hmx h1 (jx_oc trivial (fun _ h => absurd h List.not_mem_nil)) rfl (Nat.le_of_ble_eq_true rfl) <|
    jl_al2 C0 (by decide +kernel) <|
    jl_sc C0 (q := 1) (n := 1) hi rfl (by omega) hL (by decide +kernel) (by decide +kernel) (by decide +kernel) rfl (by decide +kernel) (by decide +kernel) <|
    jl_callm C0 hwm hdis (st := [.int r]) (a := [vi (xs (j + 1))]) (idx := 116) (by decide +kernel) mf_154 wd_1057 rfl rfl hmm h2 (jx_oc trivial (fun _ h => absurd h List.not_mem_nil)) rfl (Nat.le_of_ble_eq_true rfl) <|
    jl_eq C0 rfl (off := 292) (t := 1221) (by decide +kernel) (by decide +kernel) <| k _ _ h3
set_option maxRecDepth 100000 in
theorem jl_c24 (C0 : lw_At p s m meth c b L xs) (hwx : jl_W s wx) (hwm : jl_W s wm) (hdis : jl_dis wx wm) (hmx : (0, 0) ∈ jx_pl wx) (hmm : (30, 0) ∈ jx_pl wm) (hL : L ≤ 3072) {j : Nat} (hi : i = nI j) (hjL : j + 6 ≤ L) (hst : jl_s24 Inv) (hI : Inv hx hm) (k : ∀ hx' hm', Inv hx' hm' → jl_Go p l e s m below meth c b wx wm hx' hm' i 1221 []) : jl_Go p l e s m below meth c b wx wm hx hm i 934 [] := by
  obtain ⟨r, hx', hm', h1, h2, h3⟩ := hst hx hm hI
  exact jl_al1 C0 (by decide +kernel) <|
    jl_callx C0 hwx hdis (st := []) (a := []) (idx := 117) (by decide +kernel) mf_73 wd_645 rfl rfl hmx h1 (fun _ h => absurd h List.not_mem_nil) rfl (Nat.le_of_ble_eq_true rfl) <|
    jl_al2 C0 (by decide +kernel) <|
    jl_callm C0 hwm hdis (st := [.int r]) (a := []) (idx := 120) (by decide +kernel) mf_156 wd_1065 rfl rfl hmm h2 (fun _ h => absurd h List.not_mem_nil) rfl (Nat.le_of_ble_eq_true rfl) <|
    jl_eq C0 rfl (off := 279) (t := 1221) (by decide +kernel) (by decide +kernel) <| k _ _ h3
set_option maxRecDepth 100000 in
theorem jl_c25 (C0 : lw_At p s m meth c b L xs) (hwx : jl_W s wx) (hwm : jl_W s wm) (hdis : jl_dis wx wm) (hmx : (0, 0) ∈ jx_pl wx) (hmm : (30, 0) ∈ jx_pl wm) (hL : L ≤ 3072) {j : Nat} (hi : i = nI j) (hjL : j + 6 ≤ L) (hst : jl_s25 Inv) (hI : Inv hx hm) (k : ∀ hx' hm', Inv hx' hm' → jl_Go p l e s m below meth c b wx wm hx' hm' i 1221 []) : jl_Go p l e s m below meth c b wx wm hx hm i 947 [] := by
  obtain ⟨r, hx', hm', h1, h2, h3⟩ := hst hx hm hI
  exact jl_al1 C0 (by decide +kernel) <|
    jl_callx C0 hwx hdis (st := []) (a := []) (idx := 121) (by decide +kernel) mf_74 wd_649 rfl rfl hmx h1 (fun _ h => absurd h List.not_mem_nil) rfl (Nat.le_of_ble_eq_true rfl) <|
    jl_al2 C0 (by decide +kernel) <|
    jl_callm C0 hwm hdis (st := [.int r]) (a := []) (idx := 124) (by decide +kernel) mf_157 wd_1069 rfl rfl hmm h2 (fun _ h => absurd h List.not_mem_nil) rfl (Nat.le_of_ble_eq_true rfl) <|
    jl_eq C0 rfl (off := 266) (t := 1221) (by decide +kernel) (by decide +kernel) <| k _ _ h3
set_option maxRecDepth 100000 in
theorem jl_c26 (C0 : lw_At p s m meth c b L xs) (hwx : jl_W s wx) (hwm : jl_W s wm) (hdis : jl_dis wx wm) (hmx : (0, 0) ∈ jx_pl wx) (hmm : (30, 0) ∈ jx_pl wm) (hL : L ≤ 3072) {j : Nat} (hi : i = nI j) (hjL : j + 6 ≤ L) (hst : jl_s26 Inv) (hI : Inv hx hm) (k : ∀ hx' hm', Inv hx' hm' → jl_Go p l e s m below meth c b wx wm hx' hm' i 1221 []) : jl_Go p l e s m below meth c b wx wm hx hm i 960 [] := by
  obtain ⟨r, hx', hm', h1, h2, h3⟩ := hst hx hm hI
  exact jl_al1 C0 (by decide +kernel) <|
    jl_callx C0 hwx hdis (st := []) (a := []) (idx := 125) (by decide +kernel) mf_77 wd_664 rfl rfl hmx h1 (fun _ h => absurd h List.not_mem_nil) rfl (Nat.le_of_ble_eq_true rfl) <|
    jl_al2 C0 (by decide +kernel) <|
    jl_callm C0 hwm hdis (st := [.int r]) (a := []) (idx := 128) (by decide +kernel) mf_159 wd_1077 rfl rfl hmm h2 (fun _ h => absurd h List.not_mem_nil) rfl (Nat.le_of_ble_eq_true rfl) <|
    jl_eq C0 rfl (off := 253) (t := 1221) (by decide +kernel) (by decide +kernel) <| k _ _ h3
set_option maxRecDepth 100000 in
theorem jl_c27 (C0 : lw_At p s m meth c b L xs) (hwx : jl_W s wx) (hwm : jl_W s wm) (hdis : jl_dis wx wm) (hmx : (0, 0) ∈ jx_pl wx) (hmm : (30, 0) ∈ jx_pl wm) (hL : L ≤ 3072) {j : Nat} (hi : i = nI j) (hjL : j + 6 ≤ L) (hst : jl_s27 Inv) (hI : Inv hx hm) (k : ∀ hx' hm', Inv hx' hm' → jl_Go p l e s m below meth c b wx wm hx' hm' i 1221 []) : jl_Go p l e s m below meth c b wx wm hx hm i 973 [] := by
  obtain ⟨r, hx', hm', h1, h2, h3⟩ := hst hx hm hI
  exact jl_al1 C0 (by decide +kernel) <|
    jl_callx C0 hwx hdis (st := []) (a := []) (idx := 129) (by decide +kernel) mf_79 wd_673 rfl rfl hmx h1 (fun _ h => absurd h List.not_mem_nil) rfl (Nat.le_of_ble_eq_true rfl) <|
    jl_al2 C0 (by decide +kernel) <|
    jl_callm C0 hwm hdis (st := [.long r]) (a := []) (idx := 133) (by decide +kernel) mf_161 wd_1085 rfl rfl hmm h2 (fun _ h => absurd h List.not_mem_nil) rfl (Nat.le_of_ble_eq_true rfl) <|
    jl_eql C0 rfl (off := 239) (t := 1221) (by decide +kernel) (by decide +kernel) (by decide +kernel) <| k _ _ h3
set_option maxRecDepth 100000 in
theorem jl_c28 (C0 : lw_At p s m meth c b L xs) (hwx : jl_W s wx) (hwm : jl_W s wm) (hdis : jl_dis wx wm) (hmx : (0, 0) ∈ jx_pl wx) (hmm : (30, 0) ∈ jx_pl wm) (hL : L ≤ 3072) {j : Nat} (hi : i = nI j) (hjL : j + 6 ≤ L) (hst : jl_s28 Inv) (hI : Inv hx hm) (k : ∀ hx' hm', Inv hx' hm' → jl_Go p l e s m below meth c b wx wm hx' hm' i 1221 []) : jl_Go p l e s m below meth c b wx wm hx hm i 987 [] := by
  obtain ⟨r, hx', hm', h1, h2, h3⟩ := hst hx hm hI (xs (j + 1))
  exact jl_al1 C0 (by decide +kernel) <|
    jl_sc C0 (q := 1) (n := 1) hi rfl (by omega) hL (by decide +kernel) (by decide +kernel) (by decide +kernel) rfl (by decide +kernel) (by decide +kernel) <|
    jl_callx C0 hwx hdis (st := []) (a := [vi (xs (j + 1))]) (idx := 134) (by decide +kernel) mf_83 wd_689 rfl rfl hmx h1 (jx_oc trivial (fun _ h => absurd h List.not_mem_nil)) rfl (Nat.le_of_ble_eq_true rfl) <|
    jl_al2 C0 (by decide +kernel) <|
    jl_sc C0 (q := 1) (n := 1) hi rfl (by omega) hL (by decide +kernel) (by decide +kernel) (by decide +kernel) rfl (by decide +kernel) (by decide +kernel) <|
    jl_callm C0 hwm hdis (st := [.int r]) (a := [vi (xs (j + 1))]) (idx := 137) (by decide +kernel) mf_163 wd_1093 rfl rfl hmm h2 (jx_oc trivial (fun _ h => absurd h List.not_mem_nil)) rfl (Nat.le_of_ble_eq_true rfl) <|
    jl_eq C0 rfl (off := 216) (t := 1221) (by decide +kernel) (by decide +kernel) <| k _ _ h3
set_option maxRecDepth 100000 in
theorem jl_c29 (C0 : lw_At p s m meth c b L xs) (hwx : jl_W s wx) (hwm : jl_W s wm) (hdis : jl_dis wx wm) (hmx : (0, 0) ∈ jx_pl wx) (hmm : (30, 0) ∈ jx_pl wm) (hL : L ≤ 3072) {j : Nat} (hi : i = nI j) (hjL : j + 6 ≤ L) (hst : jl_s29 Inv) (hI : Inv hx hm) (k : ∀ hx' hm', Inv hx' hm' → jl_Go p l e s m below meth c b wx wm hx' hm' i 1221 []) : jl_Go p l e s m below meth c b wx wm hx hm i 1010 [] := by
  obtain ⟨r, hx', hm', h1, h2, h3⟩ := hst hx hm hI
  exact jl_al1 C0 (by decide +kernel) <|
    jl_callx C0 hwx hdis (st := []) (a := []) (idx := 138) (by decide +kernel) mf_85 wd_697 rfl rfl hmx h1 (fun _ h => absurd h List.not_mem_nil) rfl (Nat.le_of_ble_eq_true rfl) <|
    jl_al2 C0 (by decide +kernel) <|
    jl_callm C0 hwm hdis (st := [.int r]) (a := []) (idx := 141) (by decide +kernel) mf_164 wd_1097 rfl rfl hmm h2 (fun _ h => absurd h List.not_mem_nil) rfl (Nat.le_of_ble_eq_true rfl) <|
    jl_eq C0 rfl (off := 203) (t := 1221) (by decide +kernel) (by decide +kernel) <| k _ _ h3
set_option maxRecDepth 100000 in
theorem jl_c30 (C0 : lw_At p s m meth c b L xs) (hwx : jl_W s wx) (hwm : jl_W s wm) (hdis : jl_dis wx wm) (hmx : (0, 0) ∈ jx_pl wx) (hmm : (30, 0) ∈ jx_pl wm) (hL : L ≤ 3072) {j : Nat} (hi : i = nI j) (hjL : j + 6 ≤ L) (hst : jl_s30 Inv) (hI : Inv hx hm) (k : ∀ hx' hm', Inv hx' hm' → jl_Go p l e s m below meth c b wx wm hx' hm' i 1221 []) : jl_Go p l e s m below meth c b wx wm hx hm i 1023 [] := by
  obtain ⟨r, hx', hm', h1, h2, h3⟩ := hst hx hm hI
  exact jl_al1 C0 (by decide +kernel) <|
    jl_callx C0 hwx hdis (st := []) (a := []) (idx := 142) (by decide +kernel) mf_88 wd_710 rfl rfl hmx h1 (fun _ h => absurd h List.not_mem_nil) rfl (Nat.le_of_ble_eq_true rfl) <|
    jl_al2 C0 (by decide +kernel) <|
    jl_callm C0 hwm hdis (st := [.int r]) (a := []) (idx := 145) (by decide +kernel) mf_166 wd_1105 rfl rfl hmm h2 (fun _ h => absurd h List.not_mem_nil) rfl (Nat.le_of_ble_eq_true rfl) <|
    jl_eq C0 rfl (off := 190) (t := 1221) (by decide +kernel) (by decide +kernel) <| k _ _ h3
set_option maxRecDepth 100000 in
theorem jl_c31 (C0 : lw_At p s m meth c b L xs) (hwx : jl_W s wx) (hwm : jl_W s wm) (hdis : jl_dis wx wm) (hmx : (0, 0) ∈ jx_pl wx) (hmm : (30, 0) ∈ jx_pl wm) (hL : L ≤ 3072) {j : Nat} (hi : i = nI j) (hjL : j + 6 ≤ L) (hst : jl_s31 Inv) (hI : Inv hx hm) (k : ∀ hx' hm', Inv hx' hm' → jl_Go p l e s m below meth c b wx wm hx' hm' i 1221 []) : jl_Go p l e s m below meth c b wx wm hx hm i 1036 [] := by
  obtain ⟨r, hx', hm', h1, h2, h3⟩ := hst hx hm hI
  exact jl_al1 C0 (by decide +kernel) <|
    jl_callx C0 hwx hdis (st := []) (a := []) (idx := 146) (by decide +kernel) mf_90 wd_718 rfl rfl hmx h1 (fun _ h => absurd h List.not_mem_nil) rfl (Nat.le_of_ble_eq_true rfl) <|
    jl_al2 C0 (by decide +kernel) <|
    jl_callm C0 hwm hdis (st := [.long r]) (a := []) (idx := 149) (by decide +kernel) mf_168 wd_1113 rfl rfl hmm h2 (fun _ h => absurd h List.not_mem_nil) rfl (Nat.le_of_ble_eq_true rfl) <|
    jl_eql C0 rfl (off := 176) (t := 1221) (by decide +kernel) (by decide +kernel) (by decide +kernel) <| k _ _ h3
set_option maxRecDepth 100000 in
theorem jl_c32 (C0 : lw_At p s m meth c b L xs) (hwx : jl_W s wx) (hwm : jl_W s wm) (hdis : jl_dis wx wm) (hmx : (0, 0) ∈ jx_pl wx) (hmm : (30, 0) ∈ jx_pl wm) (hL : L ≤ 3072) {j : Nat} (hi : i = nI j) (hjL : j + 6 ≤ L) (hst : jl_s32 Inv) (hI : Inv hx hm) (k : ∀ hx' hm', Inv hx' hm' → jl_Go p l e s m below meth c b wx wm hx' hm' i 1221 []) : jl_Go p l e s m below meth c b wx wm hx hm i 1050 [] := by
  obtain ⟨r, hx', hm', h1, h2, h3⟩ := hst hx hm hI (xs (j + 1))
  exact jl_al1 C0 (by decide +kernel) <|
    jl_sc C0 (q := 1) (n := 1) hi rfl (by omega) hL (by decide +kernel) (by decide +kernel) (by decide +kernel) rfl (by decide +kernel) (by decide +kernel) <|
    jl_callx C0 hwx hdis (st := []) (a := [vi (xs (j + 1))]) (idx := 150) (by decide +kernel) mf_96 wd_747 rfl rfl hmx h1 (jx_oc trivial (fun _ h => absurd h List.not_mem_nil)) rfl (Nat.le_of_ble_eq_true rfl) <|
    jl_al2 C0 (by decide +kernel) <|
    jl_sc C0 (q := 1) (n := 1) hi rfl (by omega) hL (by decide +kernel) (by decide +kernel) (by decide +kernel) rfl (by decide +kernel) (by decide +kernel) <|
    jl_callm C0 hwm hdis (st := [.int r]) (a := [vi (xs (j + 1))]) (idx := 153) (by decide +kernel) mf_173 wd_1134 rfl rfl hmm h2 (jx_oc trivial (fun _ h => absurd h List.not_mem_nil)) rfl (Nat.le_of_ble_eq_true rfl) <|
    jl_eq C0 rfl (off := 153) (t := 1221) (by decide +kernel) (by decide +kernel) <| k _ _ h3
set_option maxRecDepth 100000 in
theorem jl_c33 (C0 : lw_At p s m meth c b L xs) (hwx : jl_W s wx) (hwm : jl_W s wm) (hdis : jl_dis wx wm) (hmx : (0, 0) ∈ jx_pl wx) (hmm : (30, 0) ∈ jx_pl wm) (hL : L ≤ 3072) {j : Nat} (hi : i = nI j) (hjL : j + 6 ≤ L) (hst : jl_s33 Inv) (hI : Inv hx hm) (k : ∀ hx' hm', Inv hx' hm' → jl_Go p l e s m below meth c b wx wm hx' hm' i 1221 []) : jl_Go p l e s m below meth c b wx wm hx hm i 1073 [] := by
  obtain ⟨r, hx', hm', h1, h2, h3⟩ := hst hx hm hI
  exact jl_al1 C0 (by decide +kernel) <|
    jl_callx C0 hwx hdis (st := []) (a := []) (idx := 154) (by decide +kernel) mf_97 wd_751 rfl rfl hmx h1 (fun _ h => absurd h List.not_mem_nil) rfl (Nat.le_of_ble_eq_true rfl) <|
    jl_al2 C0 (by decide +kernel) <|
    jl_callm C0 hwm hdis (st := [.int r]) (a := []) (idx := 157) (by decide +kernel) mf_174 wd_1138 rfl rfl hmm h2 (fun _ h => absurd h List.not_mem_nil) rfl (Nat.le_of_ble_eq_true rfl) <|
    jl_eq C0 rfl (off := 140) (t := 1221) (by decide +kernel) (by decide +kernel) <| k _ _ h3
set_option maxRecDepth 100000 in
theorem jl_c34 (C0 : lw_At p s m meth c b L xs) (hwx : jl_W s wx) (hwm : jl_W s wm) (hdis : jl_dis wx wm) (hmx : (0, 0) ∈ jx_pl wx) (hmm : (30, 0) ∈ jx_pl wm) (hL : L ≤ 3072) {j : Nat} (hi : i = nI j) (hjL : j + 6 ≤ L) (hst : jl_s34 Inv) (hI : Inv hx hm) (k : ∀ hx' hm', Inv hx' hm' → jl_Go p l e s m below meth c b wx wm hx' hm' i 1221 []) : jl_Go p l e s m below meth c b wx wm hx hm i 1086 [] := by
  obtain ⟨r, hx', hm', h1, h2, h3⟩ := hst hx hm hI (xs (j + 1)) (xs (j + 2))
  exact jl_al1 C0 (by decide +kernel) <|
    jl_sc C0 (q := 1) (n := 1) hi rfl (by omega) hL (by decide +kernel) (by decide +kernel) (by decide +kernel) rfl (by decide +kernel) (by decide +kernel) <|
    jl_sc C0 (q := 2) (n := 2) hi rfl (by omega) hL (by decide +kernel) (by decide +kernel) (by decide +kernel) rfl (by decide +kernel) (by decide +kernel) <|
    jl_callx C0 hwx hdis (st := []) (a := [vi (xs (j + 1)), vi (xs (j + 2))]) (idx := 158) (by decide +kernel) mf_99 wd_759 rfl rfl hmx h1 (jx_oc trivial (jx_oc trivial (fun _ h => absurd h List.not_mem_nil))) rfl (Nat.le_of_ble_eq_true rfl) <|
    jl_al2 C0 (by decide +kernel) <|
    jl_sc C0 (q := 1) (n := 1) hi rfl (by omega) hL (by decide +kernel) (by decide +kernel) (by decide +kernel) rfl (by decide +kernel) (by decide +kernel) <|
    jl_sc C0 (q := 2) (n := 2) hi rfl (by omega) hL (by decide +kernel) (by decide +kernel) (by decide +kernel) rfl (by decide +kernel) (by decide +kernel) <|
    jl_callm C0 hwm hdis (st := [.int r]) (a := [vi (xs (j + 1)), vi (xs (j + 2))]) (idx := 161) (by decide +kernel) mf_175 wd_1142 rfl rfl hmm h2 (jx_oc trivial (jx_oc trivial (fun _ h => absurd h List.not_mem_nil))) rfl (Nat.le_of_ble_eq_true rfl) <|
    jl_eq C0 rfl (off := 107) (t := 1221) (by decide +kernel) (by decide +kernel) <| k _ _ h3
set_option maxRecDepth 100000 in
theorem jl_c35 (C0 : lw_At p s m meth c b L xs) (hwx : jl_W s wx) (hwm : jl_W s wm) (hdis : jl_dis wx wm) (hmx : (0, 0) ∈ jx_pl wx) (hmm : (30, 0) ∈ jx_pl wm) (hL : L ≤ 3072) {j : Nat} (hi : i = nI j) (hjL : j + 6 ≤ L) (hst : jl_s35 Inv) (hI : Inv hx hm) (k : ∀ hx' hm', Inv hx' hm' → jl_Go p l e s m below meth c b wx wm hx' hm' i 1221 []) : jl_Go p l e s m below meth c b wx wm hx hm i 1119 [] := by
  obtain ⟨r, hx', hm', h1, h2, h3⟩ := hst hx hm hI (xs (j + 1))
  exact jl_al1 C0 (by decide +kernel) <|
    jl_sc C0 (q := 1) (n := 1) hi rfl (by omega) hL (by decide +kernel) (by decide +kernel) (by decide +kernel) rfl (by decide +kernel) (by decide +kernel) <|
    jl_callx C0 hwx hdis (st := []) (a := [vi (xs (j + 1))]) (idx := 162) (by decide +kernel) mf_102 wd_771 rfl rfl hmx h1 (jx_oc trivial (fun _ h => absurd h List.not_mem_nil)) rfl (Nat.le_of_ble_eq_true rfl) <|
    jl_al2 C0 (by decide +kernel) <|
    jl_sc C0 (q := 1) (n := 1) hi rfl (by omega) hL (by decide +kernel) (by decide +kernel) (by decide +kernel) rfl (by decide +kernel) (by decide +kernel) <|
    jl_callm C0 hwm hdis (st := [.int r]) (a := [vi (xs (j + 1))]) (idx := 165) (by decide +kernel) mf_176 wd_1146 rfl rfl hmm h2 (jx_oc trivial (fun _ h => absurd h List.not_mem_nil)) rfl (Nat.le_of_ble_eq_true rfl) <|
    jl_eq C0 rfl (off := 84) (t := 1221) (by decide +kernel) (by decide +kernel) <| k _ _ h3
set_option maxRecDepth 100000 in
theorem jl_c36 (C0 : lw_At p s m meth c b L xs) (hwx : jl_W s wx) (hwm : jl_W s wm) (hdis : jl_dis wx wm) (hmx : (0, 0) ∈ jx_pl wx) (hmm : (30, 0) ∈ jx_pl wm) (hL : L ≤ 3072) {j : Nat} (hi : i = nI j) (hjL : j + 6 ≤ L) (hst : jl_s36 Inv) (hI : Inv hx hm) (k : ∀ hx' hm', Inv hx' hm' → jl_Go p l e s m below meth c b wx wm hx' hm' i 1221 []) : jl_Go p l e s m below meth c b wx wm hx hm i 1142 [] := by
  obtain ⟨r, hx', hm', h1, h2, h3⟩ := hst hx hm hI (xs (j + 1))
  exact jl_al1 C0 (by decide +kernel) <|
    jl_sc C0 (q := 1) (n := 1) hi rfl (by omega) hL (by decide +kernel) (by decide +kernel) (by decide +kernel) rfl (by decide +kernel) (by decide +kernel) <|
    jl_callx C0 hwx hdis (st := []) (a := [vi (xs (j + 1))]) (idx := 166) (by decide +kernel) mf_105 wd_783 rfl rfl hmx h1 (jx_oc trivial (fun _ h => absurd h List.not_mem_nil)) rfl (Nat.le_of_ble_eq_true rfl) <|
    jl_al2 C0 (by decide +kernel) <|
    jl_sc C0 (q := 1) (n := 1) hi rfl (by omega) hL (by decide +kernel) (by decide +kernel) (by decide +kernel) rfl (by decide +kernel) (by decide +kernel) <|
    jl_callm C0 hwm hdis (st := [.int r]) (a := [vi (xs (j + 1))]) (idx := 169) (by decide +kernel) mf_178 wd_1153 rfl rfl hmm h2 (jx_oc trivial (fun _ h => absurd h List.not_mem_nil)) rfl (Nat.le_of_ble_eq_true rfl) <|
    jl_eq C0 rfl (off := 61) (t := 1221) (by decide +kernel) (by decide +kernel) <| k _ _ h3
set_option maxRecDepth 100000 in
theorem jl_c37 (C0 : lw_At p s m meth c b L xs) (hwx : jl_W s wx) (hwm : jl_W s wm) (hdis : jl_dis wx wm) (hmx : (0, 0) ∈ jx_pl wx) (hmm : (30, 0) ∈ jx_pl wm) (hL : L ≤ 3072) {j : Nat} (hi : i = nI j) (hjL : j + 6 ≤ L) (hst : jl_s37 Inv) (hI : Inv hx hm) (k : ∀ hx' hm', Inv hx' hm' → jl_Go p l e s m below meth c b wx wm hx' hm' i 1221 []) : jl_Go p l e s m below meth c b wx wm hx hm i 1165 [] := by
  obtain ⟨r, hx', hm', h1, h2, h3⟩ := hst hx hm hI (xs (j + 1)) (xs (j + 2))
  exact jl_al1 C0 (by decide +kernel) <|
    jl_sc C0 (q := 1) (n := 1) hi rfl (by omega) hL (by decide +kernel) (by decide +kernel) (by decide +kernel) rfl (by decide +kernel) (by decide +kernel) <|
    jl_sc C0 (q := 2) (n := 2) hi rfl (by omega) hL (by decide +kernel) (by decide +kernel) (by decide +kernel) rfl (by decide +kernel) (by decide +kernel) <|
    jl_callx C0 hwx hdis (st := []) (a := [vi (xs (j + 1)), vi (xs (j + 2))]) (idx := 170) (by decide +kernel) mf_106 wd_787 rfl rfl hmx h1 (jx_oc trivial (jx_oc trivial (fun _ h => absurd h List.not_mem_nil))) rfl (Nat.le_of_ble_eq_true rfl) <|
    jl_al2 C0 (by decide +kernel) <|
    jl_sc C0 (q := 1) (n := 1) hi rfl (by omega) hL (by decide +kernel) (by decide +kernel) (by decide +kernel) rfl (by decide +kernel) (by decide +kernel) <|
    jl_sc C0 (q := 2) (n := 2) hi rfl (by omega) hL (by decide +kernel) (by decide +kernel) (by decide +kernel) rfl (by decide +kernel) (by decide +kernel) <|
    jl_callm C0 hwm hdis (st := [.int r]) (a := [vi (xs (j + 1)), vi (xs (j + 2))]) (idx := 173) (by decide +kernel) mf_179 wd_1157 rfl rfl hmm h2 (jx_oc trivial (jx_oc trivial (fun _ h => absurd h List.not_mem_nil))) rfl (Nat.le_of_ble_eq_true rfl) <|
    jl_eq C0 rfl (off := 28) (t := 1221) (by decide +kernel) (by decide +kernel) <| k _ _ h3
set_option maxRecDepth 100000 in
theorem jl_c38 (C0 : lw_At p s m meth c b L xs) (hwx : jl_W s wx) (hwm : jl_W s wm) (hdis : jl_dis wx wm) (hmx : (0, 0) ∈ jx_pl wx) (hmm : (30, 0) ∈ jx_pl wm) (hL : L ≤ 3072) {j : Nat} (hi : i = nI j) (hjL : j + 6 ≤ L) (hst : jl_s38 Inv) (hI : Inv hx hm) (k : ∀ hx' hm', Inv hx' hm' → jl_Go p l e s m below meth c b wx wm hx' hm' i 1221 []) : jl_Go p l e s m below meth c b wx wm hx hm i 1198 [] := by
  obtain ⟨r, hx', hm', h1, h2, h3⟩ := hst hx hm hI (xs (j + 1))
  exact jl_al1 C0 (by decide +kernel) <|
    jl_sc C0 (q := 1) (n := 1) hi rfl (by omega) hL (by decide +kernel) (by decide +kernel) (by decide +kernel) rfl (by decide +kernel) (by decide +kernel) <|
    jl_callx C0 hwx hdis (st := []) (a := [vi (xs (j + 1))]) (idx := 174) (by decide +kernel) mf_108 wd_796 rfl rfl hmx h1 (jx_oc trivial (fun _ h => absurd h List.not_mem_nil)) rfl (Nat.le_of_ble_eq_true rfl) <|
    jl_al2 C0 (by decide +kernel) <|
    jl_sc C0 (q := 1) (n := 1) hi rfl (by omega) hL (by decide +kernel) (by decide +kernel) (by decide +kernel) rfl (by decide +kernel) (by decide +kernel) <|
    jl_callm C0 hwm hdis (st := [.int r]) (a := [vi (xs (j + 1))]) (idx := 177) (by decide +kernel) mf_180 wd_1161 rfl rfl hmm h2 (jx_oc trivial (fun _ h => absurd h List.not_mem_nil)) rfl (Nat.le_of_ble_eq_true rfl) <|
    jl_eq C0 rfl (off := 5) (t := 1221) (by decide +kernel) (by decide +kernel) <| k _ _ h3
set_option maxRecDepth 100000 in
/-- the law's loop -/
theorem jl_loop (C0 : lw_At p s m meth c b L xs) (hwx : jl_W s wx) (hwm : jl_W s wm) (hdis : jl_dis wx wm) (hmx : (0, 0) ∈ jx_pl wx) (hmm : (30, 0) ∈ jx_pl wm) (hL : L ≤ 3072) (hst : jl_steps Inv) : ∀ (n j : Nat) (hx hm : jx_H), L + 6 ≤ j + 6 * n → j ≤ 3072 + 6 → Inv hx hm → jl_Go p l e s m below meth c b wx wm hx hm (nI j) 18 [] := by
  obtain ⟨hs0, hs1, hs2, hs3, hs4, hs5, hs6, hs7, hs8, hs9, hs10, hs11, hs12, hs13, hs14, hs15, hs16, hs17, hs18, hs19, hs20, hs21, hs22, hs23, hs24, hs25, hs26, hs27, hs28, hs29, hs30, hs31, hs32, hs33, hs34, hs35, hs36, hs37, hs38⟩ := hst
  intro n
  induction n with
  | zero =>
    intro j hx hm h1 h2 hI
    intro H locs ls hPx hPm hS hl
    obtain ⟨hx1, hb, hr, hml, hown, hts0, hX, hbl, hlocks, hgv⟩ := C0
    refine lv_iload_n (k := 3) hx1 hb (by decide +kernel) rfl (lv_at hl 0 rfl) ?_
    refine lv_aload_n (k := 0) hx1 hb (by decide +kernel) rfl (lv_at hl 3 rfl) ?_
    refine va_slen hx1 hb hX hbl (Nat.not_le.mpr hbl) hS (by decide +kernel) ?_
    refine lv_bipush (n := 6) (v := 6) hx1 hb (by decide +kernel) (by decide +kernel) ?_
    refine lv_isub hx1 hb (by decide +kernel) ?_
    refine lv_icmp_gt (off := 1203) (tgt := 1227) hx1 hb (by decide +kernel) (by decide +kernel) (fun g => ?_) (fun g => ?_)
    · refine lv_iconst (n := 1) (v := 1) hx1 hb (by decide +kernel) (by decide +kernel) ?_
      refine va_forget (fun q hq => hS.2.2 q hq) ?_
      refine W.widen (k := 600000) (n := 7302250) (by decide) (by decide) ?_
      exact lw_ret hx1 hb hr hlocks (by decide +kernel)
    · exfalso
      apply g
      rw [Int32.lt_iff_toInt_lt, show (6 : Int32) = nI 6 from rfl, show Int32.ofNat L = nI L from rfl, pk_sub_toInt (by omega) (by omega), nI_toInt (by omega)]
      omega
  | succ n ih =>
    intro j hx hm h1 h2 hI
    by_cases hjL : j + 6 ≤ L
    · have kk : ∀ hx' hm', Inv hx' hm' → jl_Go p l e s m below meth c b wx wm hx' hm' (nI j) 1221 [] := fun hx' hm' hI' => jl_next C0 (by decide +kernel) (by decide +kernel) (by
        have e6 : nI j + 6 = nI (j + 6) := by rw [show (6 : Int32) = nI 6 from rfl, nI_add]
        rw [e6]
        exact ih (j + 6) hx' hm' (by omega) (by omega) hI')
      have hin : vp_in (nI j) L := vp_in_nI (by omega) (by omega)
      intro H locs ls hPx hPm hS hl
      have C1 := C0
      obtain ⟨hx1, hb, hr, hml, hown, hts0, hX, hbl, hlocks, hgv⟩ := C0
      refine lv_iload_n (k := 3) hx1 hb (by decide +kernel) rfl (lv_at hl 0 rfl) ?_
      refine lv_aload_n (k := 0) hx1 hb (by decide +kernel) rfl (lv_at hl 3 rfl) ?_
      refine va_slen hx1 hb hX hbl (Nat.not_le.mpr hbl) hS (by decide +kernel) ?_
      refine lv_bipush (n := 6) (v := 6) hx1 hb (by decide +kernel) (by decide +kernel) ?_
      refine lv_isub hx1 hb (by decide +kernel) ?_
      refine lv_icmp_gt (off := 1203) (tgt := 1227) hx1 hb (by decide +kernel) (by decide +kernel) (fun g => ?_) (fun g => ?_)
      · exfalso
        rw [Int32.lt_iff_toInt_lt, show (6 : Int32) = nI 6 from rfl, show Int32.ofNat L = nI L from rfl, pk_sub_toInt (by omega) (by omega), nI_toInt (by omega)] at g
        omega
      · refine lv_aload_n (k := 0) hx1 hb (by decide +kernel) rfl (lv_at hl 3 rfl) ?_
        refine lv_iload_n (k := 3) hx1 hb (by decide +kernel) rfl (lv_at hl 0 rfl) ?_
        refine va_sld hx1 hb hX hbl (Nat.not_le.mpr hbl) hS hin (by decide +kernel) ?_
        refine lv_bipush (n := 63) (v := 63) hx1 hb (by decide +kernel) (by decide +kernel) ?_
        refine lv_iand hx1 hb (by decide +kernel) ?_
        obtain ⟨q, hq, eq⟩ := pk_andE (xs (nI j).toNatClampNeg) (m := 63) 6 (by decide)
        rw [eq]
        have hsw : decode code 33 = .ok (.tableswitch 1188 0 38 #[171, 210, 223, 256, 315, 338, 371, 404, 417, 460, 503, 566, 589, 622, 655, 668, 691, 724, 757, 806, 819, 832, 855, 878, 901, 914, 927, 940, 954, 977, 990, 1003, 1017, 1040, 1053, 1086, 1109, 1132, 1165], 171) := (by decide +kernel)
        rcases (show q = 0 ∨ q = 1 ∨ q = 2 ∨ q = 3 ∨ q = 4 ∨ q = 5 ∨ q = 6 ∨ q = 7 ∨ q = 8 ∨ q = 9 ∨ q = 10 ∨ q = 11 ∨ q = 12 ∨ q = 13 ∨ q = 14 ∨ q = 15 ∨ q = 16 ∨ q = 17 ∨ q = 18 ∨ q = 19 ∨ q = 20 ∨ q = 21 ∨ q = 22 ∨ q = 23 ∨ q = 24 ∨ q = 25 ∨ q = 26 ∨ q = 27 ∨ q = 28 ∨ q = 29 ∨ q = 30 ∨ q = 31 ∨ q = 32 ∨ q = 33 ∨ q = 34 ∨ q = 35 ∨ q = 36 ∨ q = 37 ∨ q = 38 ∨ (39 ≤ q ∧ q < 64) by omega) with rfl | rfl | rfl | rfl | rfl | rfl | rfl | rfl | rfl | rfl | rfl | rfl | rfl | rfl | rfl | rfl | rfl | rfl | rfl | rfl | rfl | rfl | rfl | rfl | rfl | rfl | rfl | rfl | rfl | rfl | rfl | rfl | rfl | rfl | rfl | rfl | rfl | rfl | rfl | hq2
        · exact lv_tableIn hx1 hb hsw (off := 171) (tgt := 204) (by decide) (by decide) (by decide) (by decide) (jl_c0 C1 hwx hwm hdis hmx hmm hL rfl hjL hs0 hI kk H locs ls hPx hPm hS hl)
        · exact lv_tableIn hx1 hb hsw (off := 210) (tgt := 243) (by decide) (by decide) (by decide) (by decide) (jl_c1 C1 hwx hwm hdis hmx hmm hL rfl hjL hs1 hI kk H locs ls hPx hPm hS hl)
        · exact lv_tableIn hx1 hb hsw (off := 223) (tgt := 256) (by decide) (by decide) (by decide) (by decide) (jl_c2 C1 hwx hwm hdis hmx hmm hL rfl hjL hs2 hI kk H locs ls hPx hPm hS hl)
        · exact lv_tableIn hx1 hb hsw (off := 256) (tgt := 289) (by decide) (by decide) (by decide) (by decide) (jl_c3 C1 hwx hwm hdis hmx hmm hL rfl hjL hs3 hI kk H locs ls hPx hPm hS hl)
        · exact lv_tableIn hx1 hb hsw (off := 315) (tgt := 348) (by decide) (by decide) (by decide) (by decide) (jl_c4 C1 hwx hwm hdis hmx hmm hL rfl hjL hs4 hI kk H locs ls hPx hPm hS hl)
        · exact lv_tableIn hx1 hb hsw (off := 338) (tgt := 371) (by decide) (by decide) (by decide) (by decide) (jl_c5 C1 hwx hwm hdis hmx hmm hL rfl hjL hs5 hI kk H locs ls hPx hPm hS hl)
        · exact lv_tableIn hx1 hb hsw (off := 371) (tgt := 404) (by decide) (by decide) (by decide) (by decide) (jl_c6 C1 hwx hwm hdis hmx hmm hL rfl hjL hs6 hI kk H locs ls hPx hPm hS hl)
        · exact lv_tableIn hx1 hb hsw (off := 404) (tgt := 437) (by decide) (by decide) (by decide) (by decide) (jl_c7 C1 hwx hwm hdis hmx hmm hL rfl hjL hs7 hI kk H locs ls hPx hPm hS hl)
        · exact lv_tableIn hx1 hb hsw (off := 417) (tgt := 450) (by decide) (by decide) (by decide) (by decide) (jl_c8 C1 hwx hwm hdis hmx hmm hL rfl hjL hs8 hI kk H locs ls hPx hPm hS hl)
        · exact lv_tableIn hx1 hb hsw (off := 460) (tgt := 493) (by decide) (by decide) (by decide) (by decide) (jl_c9 C1 hwx hwm hdis hmx hmm hL rfl hjL hs9 hI kk H locs ls hPx hPm hS hl)
        · exact lv_tableIn hx1 hb hsw (off := 503) (tgt := 536) (by decide) (by decide) (by decide) (by decide) (jl_c10 C1 hwx hwm hdis hmx hmm hL rfl hjL hs10 hI kk H locs ls hPx hPm hS hl)
        · exact lv_tableIn hx1 hb hsw (off := 566) (tgt := 599) (by decide) (by decide) (by decide) (by decide) (jl_c11 C1 hwx hwm hdis hmx hmm hL rfl hjL hs11 hI kk H locs ls hPx hPm hS hl)
        · exact lv_tableIn hx1 hb hsw (off := 589) (tgt := 622) (by decide) (by decide) (by decide) (by decide) (jl_c12 C1 hwx hwm hdis hmx hmm hL rfl hjL hs12 hI kk H locs ls hPx hPm hS hl)
        · exact lv_tableIn hx1 hb hsw (off := 622) (tgt := 655) (by decide) (by decide) (by decide) (by decide) (jl_c13 C1 hwx hwm hdis hmx hmm hL rfl hjL hs13 hI kk H locs ls hPx hPm hS hl)
        · exact lv_tableIn hx1 hb hsw (off := 655) (tgt := 688) (by decide) (by decide) (by decide) (by decide) (jl_c14 C1 hwx hwm hdis hmx hmm hL rfl hjL hs14 hI kk H locs ls hPx hPm hS hl)
        · exact lv_tableIn hx1 hb hsw (off := 668) (tgt := 701) (by decide) (by decide) (by decide) (by decide) (jl_c15 C1 hwx hwm hdis hmx hmm hL rfl hjL hs15 hI kk H locs ls hPx hPm hS hl)
        · exact lv_tableIn hx1 hb hsw (off := 691) (tgt := 724) (by decide) (by decide) (by decide) (by decide) (jl_c16 C1 hwx hwm hdis hmx hmm hL rfl hjL hs16 hI kk H locs ls hPx hPm hS hl)
        · exact lv_tableIn hx1 hb hsw (off := 724) (tgt := 757) (by decide) (by decide) (by decide) (by decide) (jl_c17 C1 hwx hwm hdis hmx hmm hL rfl hjL hs17 hI kk H locs ls hPx hPm hS hl)
        · exact lv_tableIn hx1 hb hsw (off := 757) (tgt := 790) (by decide) (by decide) (by decide) (by decide) (jl_c18 C1 hwx hwm hdis hmx hmm hL rfl hjL hs18 hI kk H locs ls hPx hPm hS hl)
        · exact lv_tableIn hx1 hb hsw (off := 806) (tgt := 839) (by decide) (by decide) (by decide) (by decide) (jl_c19 C1 hwx hwm hdis hmx hmm hL rfl hjL hs19 hI kk H locs ls hPx hPm hS hl)
        · exact lv_tableIn hx1 hb hsw (off := 819) (tgt := 852) (by decide) (by decide) (by decide) (by decide) (jl_c20 C1 hwx hwm hdis hmx hmm hL rfl hjL hs20 hI kk H locs ls hPx hPm hS hl)
        · exact lv_tableIn hx1 hb hsw (off := 832) (tgt := 865) (by decide) (by decide) (by decide) (by decide) (jl_c21 C1 hwx hwm hdis hmx hmm hL rfl hjL hs21 hI kk H locs ls hPx hPm hS hl)
        · exact lv_tableIn hx1 hb hsw (off := 855) (tgt := 888) (by decide) (by decide) (by decide) (by decide) (jl_c22 C1 hwx hwm hdis hmx hmm hL rfl hjL hs22 hI kk H locs ls hPx hPm hS hl)
        · exact lv_tableIn hx1 hb hsw (off := 878) (tgt := 911) (by decide) (by decide) (by decide) (by decide) (jl_c23 C1 hwx hwm hdis hmx hmm hL rfl hjL hs23 hI kk H locs ls hPx hPm hS hl)
        · exact lv_tableIn hx1 hb hsw (off := 901) (tgt := 934) (by decide) (by decide) (by decide) (by decide) (jl_c24 C1 hwx hwm hdis hmx hmm hL rfl hjL hs24 hI kk H locs ls hPx hPm hS hl)
        · exact lv_tableIn hx1 hb hsw (off := 914) (tgt := 947) (by decide) (by decide) (by decide) (by decide) (jl_c25 C1 hwx hwm hdis hmx hmm hL rfl hjL hs25 hI kk H locs ls hPx hPm hS hl)
        · exact lv_tableIn hx1 hb hsw (off := 927) (tgt := 960) (by decide) (by decide) (by decide) (by decide) (jl_c26 C1 hwx hwm hdis hmx hmm hL rfl hjL hs26 hI kk H locs ls hPx hPm hS hl)
        · exact lv_tableIn hx1 hb hsw (off := 940) (tgt := 973) (by decide) (by decide) (by decide) (by decide) (jl_c27 C1 hwx hwm hdis hmx hmm hL rfl hjL hs27 hI kk H locs ls hPx hPm hS hl)
        · exact lv_tableIn hx1 hb hsw (off := 954) (tgt := 987) (by decide) (by decide) (by decide) (by decide) (jl_c28 C1 hwx hwm hdis hmx hmm hL rfl hjL hs28 hI kk H locs ls hPx hPm hS hl)
        · exact lv_tableIn hx1 hb hsw (off := 977) (tgt := 1010) (by decide) (by decide) (by decide) (by decide) (jl_c29 C1 hwx hwm hdis hmx hmm hL rfl hjL hs29 hI kk H locs ls hPx hPm hS hl)
        · exact lv_tableIn hx1 hb hsw (off := 990) (tgt := 1023) (by decide) (by decide) (by decide) (by decide) (jl_c30 C1 hwx hwm hdis hmx hmm hL rfl hjL hs30 hI kk H locs ls hPx hPm hS hl)
        · exact lv_tableIn hx1 hb hsw (off := 1003) (tgt := 1036) (by decide) (by decide) (by decide) (by decide) (jl_c31 C1 hwx hwm hdis hmx hmm hL rfl hjL hs31 hI kk H locs ls hPx hPm hS hl)
        · exact lv_tableIn hx1 hb hsw (off := 1017) (tgt := 1050) (by decide) (by decide) (by decide) (by decide) (jl_c32 C1 hwx hwm hdis hmx hmm hL rfl hjL hs32 hI kk H locs ls hPx hPm hS hl)
        · exact lv_tableIn hx1 hb hsw (off := 1040) (tgt := 1073) (by decide) (by decide) (by decide) (by decide) (jl_c33 C1 hwx hwm hdis hmx hmm hL rfl hjL hs33 hI kk H locs ls hPx hPm hS hl)
        · exact lv_tableIn hx1 hb hsw (off := 1053) (tgt := 1086) (by decide) (by decide) (by decide) (by decide) (jl_c34 C1 hwx hwm hdis hmx hmm hL rfl hjL hs34 hI kk H locs ls hPx hPm hS hl)
        · exact lv_tableIn hx1 hb hsw (off := 1086) (tgt := 1119) (by decide) (by decide) (by decide) (by decide) (jl_c35 C1 hwx hwm hdis hmx hmm hL rfl hjL hs35 hI kk H locs ls hPx hPm hS hl)
        · exact lv_tableIn hx1 hb hsw (off := 1109) (tgt := 1142) (by decide) (by decide) (by decide) (by decide) (jl_c36 C1 hwx hwm hdis hmx hmm hL rfl hjL hs36 hI kk H locs ls hPx hPm hS hl)
        · exact lv_tableIn hx1 hb hsw (off := 1132) (tgt := 1165) (by decide) (by decide) (by decide) (by decide) (jl_c37 C1 hwx hwm hdis hmx hmm hL rfl hjL hs37 hI kk H locs ls hPx hPm hS hl)
        · exact lv_tableIn hx1 hb hsw (off := 1165) (tgt := 1198) (by decide) (by decide) (by decide) (by decide) (jl_c38 C1 hwx hwm hdis hmx hmm hL rfl hjL hs38 hI kk H locs ls hPx hPm hS hl)
        · refine lv_tableOut (tgt := 1221) hx1 hb hsw (Or.inr ?_) (by decide) (kk hx hm hI H locs ls hPx hPm hS hl)
          rw [nI_toInt (by omega)]
          omega
    · intro H locs ls hPx hPm hS hl
      obtain ⟨hx1, hb, hr, hml, hown, hts0, hX, hbl, hlocks, hgv⟩ := C0
      refine lv_iload_n (k := 3) hx1 hb (by decide +kernel) rfl (lv_at hl 0 rfl) ?_
      refine lv_aload_n (k := 0) hx1 hb (by decide +kernel) rfl (lv_at hl 3 rfl) ?_
      refine va_slen hx1 hb hX hbl (Nat.not_le.mpr hbl) hS (by decide +kernel) ?_
      refine lv_bipush (n := 6) (v := 6) hx1 hb (by decide +kernel) (by decide +kernel) ?_
      refine lv_isub hx1 hb (by decide +kernel) ?_
      refine lv_icmp_gt (off := 1203) (tgt := 1227) hx1 hb (by decide +kernel) (by decide +kernel) (fun g => ?_) (fun g => ?_)
      · refine lv_iconst (n := 1) (v := 1) hx1 hb (by decide +kernel) (by decide +kernel) ?_
        refine va_forget (fun q hq => hS.2.2 q hq) ?_
        refine W.widen (k := 600000) (n := 7302250) (by decide) (by decide) ?_
        exact lw_ret hx1 hb hr hlocks (by decide +kernel)
      · exfalso
        apply g
        rw [Int32.lt_iff_toInt_lt, show (6 : Int32) = nI 6 from rfl, show Int32.ofNat L = nI L from rfl, pk_sub_toInt (by omega) (by omega), nI_toInt (by omega)]
        omega
end
