theorem wi_0 : Cond.instantiable RX0 3 ∈ jx_tg := jx_tgm 286 (by decide +kernel) (by decide +kernel)
theorem wi_1 : Cond.instantiable RX1 5 ∈ jx_tg := jx_tgm 225 (by decide +kernel) (by decide +kernel)
theorem wi_2 : Cond.instantiable RX2 1 ∈ jx_tg := jx_tgm 215 (by decide +kernel) (by decide +kernel)
theorem wi_3 : Cond.instantiable RX3 7 ∈ jx_tg := jx_tgm 72 (by decide +kernel) (by decide +kernel)
theorem wi_4 : Cond.instantiable RX4 4 ∈ jx_tg := jx_tgm 247 (by decide +kernel) (by decide +kernel)
theorem wi_5 : Cond.instantiable RX5 3 ∈ jx_tg := jx_tgm 120 (by decide +kernel) (by decide +kernel)
theorem wi_6 : Cond.instantiable RX6 11 ∈ jx_tg := jx_tgm 160 (by decide +kernel) (by decide +kernel)
theorem wi_7 : Cond.instantiable RX7 3 ∈ jx_tg := jx_tgm 141 (by decide +kernel) (by decide +kernel)
theorem wi_8 : Cond.instantiable RX8 4 ∈ jx_tg := jx_tgm 267 (by decide +kernel) (by decide +kernel)
theorem wi_9 : Cond.instantiable RX9 14 ∈ jx_tg := jx_tgm 64 (by decide +kernel) (by decide +kernel)
theorem wi_10 : Cond.instantiable RX10 24 ∈ jx_tg := jx_tgm 805 (by decide +kernel) (by decide +kernel)
theorem wi_l9 : Cond.classLink R_law 7 RX9 ∈ jx_tg := jx_tgm 63 (by decide +kernel) (by decide +kernel)
theorem wi_l10 : Cond.classLink R_law 10 RX10 ∈ jx_tg := jx_tgm 804 (by decide +kernel) (by decide +kernel)
section
variable {p : Program} {l : Launch} {e : Env} {s : State} {m : MethodId} {below : List Frame} {meth : Method} {c : Code} {b L : Nat} {xs : Nat → Int32} {w : jx_Wd} {b0 n : Nat} {cf : Nat → va_E} {cells slots pc : Nat} {st : List Value} {H : Heap} {locs : List Loc} {ls : Array Slot} {Q : State → Prop}
theorem jl_new (C0 : lw_At p s m meth c b L xs) (hK : va_K (jx_dd w) jx_cl (jx_tys w) s) (hP : va_P (jx_dd w) jx_cl (jc_ws b0 n cf) H) (hz : H.size = b0 + n) (hS : va_S (fun q => s.heap.size ≤ q) s.heap H locs) {ci idx N : Nat} {CN : String} {T : u_T} {ty : Nat → FieldType} {fs : List Value} (hd : decode code pc = .ok (.new idx, 3)) (hc : jx_cl[ci]? = some (CN, T, N)) (hin : ∀ x ∈ u_ws CN T N, x ∈ jx_tg) (hty : ∀ k, k < N → parseFieldDescriptor (T k).2.2.1 = some (ty k)) (hcl : Cond.classLink R_law idx CN ∈ jx_tg) (hinst : Cond.instantiable CN N ∈ jx_tg) (hini : Cond.initialized CN ∈ jx_tg) (hfs : ∀ j, j < N → defaultValue (ty j) = vp_V fs j) (h1 : cells + 1 ≤ room_1.cells) (h2 : slots + N ≤ room_1.slots)
    (k : ∀ H1, va_P (jx_dd w) jx_cl (jc_ws b0 (n + 1) (va_up cf n (.inr (ci, fs)))) H1 → H1.size = b0 + (n + 1) → va_S (fun q => s.heap.size ≤ q) s.heap H1 locs → W p l e room_1 s m #[Value.ref b] below meth c H1 locs (cells + 1) (slots + N) Q (F0 m (pc + 3) ls (.ref (b0 + n) :: st))) : W p l e room_1 s m #[Value.ref b] below meth c H locs cells slots Q (F0 m pc ls st) := by
  obtain ⟨hx, hb, hr, hml, hown, hts0, hX, hbl, hlocks, hgv⟩ := C0
  have hts : ∀ x ∈ jx_tg, x.before #[Value.ref b] s = true := fun x hx => hts0 x (jx_tg_in hx)
  have hKn := hK.1 ci _ hc
  refine W.newcK hx hb hown (hts _ hcl) (hts _ hinst) (hts _ hini) rfl hd h1 h2 hKn.2.1 hz fun H1 kC hkC e1 z1 o1 => ?_
  have hk : ∀ (k : Nat) (x : Nat × va_E), (jc_ws b0 n cf)[k]? = some x → H1[x.1]? = H[x.1]? := fun k x hx => o1 x.1 (by rw [← hz]; exact (hP k x hx).lt)
  refine k H1 ?_ (by rw [z1]; omega) ⟨Nat.le_trans hS.1 (by omega), fun x h1 h2 => (o1 x (by rw [← hz]; exact Nat.lt_of_lt_of_le h1 hS.1)).trans (hS.2.1 x h1 h2), hS.2.2⟩
  rw [← jc_push]
  refine (hP.kept hk).app (fun k x hx => ?_)
  have hz : k < 1 := (List.getElem?_eq_some_iff.mp hx).1
  rw [show k = 0 by omega] at hx
  cases hx
  exact ⟨_, hc, (u_born ty hts hin hKn hkC e1 hty).to hfs⟩
theorem jl_ctor (C0 : lw_At p s m meth c b L xs) (hK : va_K (jx_dd w) jx_cl (jx_tys w) s ∧ (∀ x ∈ jx_nest, va_Nw x s) ∧ va_AO RX3 s ∧ va_AO RX7 s) (hb0 : b0 = s.heap.size) (hP : va_P (jx_dd w) jx_cl (jc_ws b0 n cf) H) (hz : H.size = b0 + n) (hS : va_S (fun q => s.heap.size ≤ q) s.heap H locs) (hl : ls.size = 4) {y : MethodName} {bytes : ByteArray} {maxL idx d' mc' ms' j n' : Nat} {cf' : Nat → va_E} (hd : decode code pc = .ok (.invokespecial idx, 3)) (hM : jc_MT l w b0 y bytes maxL d' mc' ms' j n cf n' cf') (hlk : Cond.methodLink R_law idx y ∈ jx_tg) (hin : Cond.instanceMethod y ∈ jx_tg) (hco : Cond.code y bytes maxL none ∈ jx_tg) (hini : Cond.initialized y.cls ∈ jx_tg) (hy1 : y.name = "<init>") (hyd : y.cls ≠ "java/lang/invoke/MethodHandle" ∧ y.cls ≠ "java/lang/invoke/VarHandle" ∧ (parseMethodDescriptor y.desc).map (fun d => d.parameters.length) = some 0) (hd' : d' ≤ 100) (hmL : maxL ≤ 40) (h8 : (st.map fun v => v.category).sum ≤ 8) (h1 : cells + mc' ≤ room_1.cells) (h2 : slots + ms' ≤ room_1.slots)
    (k : ∀ H1 locs1, va_P (jx_dd w) jx_cl (jc_ws b0 n' cf') H1 → H1.size = b0 + n' → va_S (fun q => s.heap.size ≤ q) s.heap H1 locs1 → W p l e room_1 s m #[Value.ref b] below meth c H1 locs1 (cells + mc') (slots + ms') Q (F0 m (pc + 3) ls st)) : W p l e room_1 s m #[Value.ref b] below meth c H locs cells slots Q (F0 m pc ls (.ref (b0 + j) :: st)) := by
  obtain ⟨hx, hb, hr, hml, hown, hts0, hX, hbl, hlocks, hgv⟩ := C0
  have hts : ∀ x ∈ jx_tg, x.before #[Value.ref b] s = true := fun x hx => hts0 x (jx_tg_in hx)
  have hroom : (jc_rm d' mc' ms').frames + 1 ≤ room_1.frames ∧ 8 + (maxL + 11) + (jc_rm d' mc' ms').locals ≤ room_1.locals := by
    refine ⟨?_, ?_⟩
    · show d' + 1 ≤ 2048
      omega
    · show 8 + (maxL + 11) + 64 * d' ≤ 84000
      omega
  have hG : GoodIn jx_tg (Cond.code y bytes maxL none :: jx_tg) := fun x hx => by
    rcases List.mem_cons.mp hx with rfl | hx
    · exact jx_good hco
    · exact jx_good hx
  have hpre : PreS s H (va_Pc [.ref (b0 + j)] (jc_U w b0 n cf)) (.ref (b0 + j) :: []) := by
    refine ⟨jc_U_blind w b0 n cf _, fun U hU hW => ⟨rfl, by rw [hU]; exact hP, by rw [hU]; exact hz, va_K.moved hW.alike hK.1, fun x hx => ?_, va_AO.moved hW.alike hK.2.2.1, va_AO.moved hW.alike hK.2.2.2⟩⟩
    obtain ⟨a2, i, y2, b, rfl⟩ := jx_nest_f x hx
    exact va_Nw.warmM hW (hK.2.1 _ hx)
  have hrun : va_Run p l e room_1 s m #[Value.ref b] below meth c H locs cells slots mc' ms' (F0 m pc ls (.ref (b0 + j) :: st)) st (jc_Po w b0 n' cf' #[.ref (b0 + j)]) (fun q => b0 ≤ q) :=
    va_runI (n := 0) (rest := st) (As := []) (b := b0 + j) (g := F0 m pc ls (.ref (b0 + j) :: st)) ⟨hx, hb, hml, hown, hts⟩ hM (cwI 0 hts hG rfl rfl rfl (hts _ hini) (hts _ hlk) (hts _ hin) hy1 hyd hroom) hpre rfl rfl hl rfl (lv_room h8) hd ⟨h1, h2⟩
  intro T hT X
  obtain ⟨v, st₀, t, T', L, h0, X', hL, e1, e2, ⟨hv, hP1, hz1, hz2, hk⟩, stp⟩ := hrun T hT X
  cases hv
  rw [h0] at hz2 hk
  obtain ⟨t2, a1, b1⟩ := k T'.heap (locs ++ L) (by rw [e1]; exact hP1) (by rw [e1]; exact hz1) ⟨Nat.le_trans hS.1 (by rw [e1]; exact hz2), fun q h1 h2 => by rw [e1, hk q (Nat.lt_of_lt_of_le h1 hS.1) (by rw [hb0]; exact h2)]; exact hS.2.1 q h1 h2, fun q hq => by
    rcases List.mem_append.mp hq with h | h
    · exact hS.2.2 q h
    · have := hL q h
      rw [hb0] at this
      exact this⟩ T' rfl X'
  exact ⟨t2, stp t2 a1, b1⟩
end
theorem wi_a3 : Cond.arrayOver (.object RX3) ∈ lw_tbl := List.mem_of_getElem? (i := 126) (by decide +kernel)
theorem wi_a7 : Cond.arrayOver (.object RX7) ∈ lw_tbl := List.mem_of_getElem? (i := 140) (by decide +kernel)
theorem wi_ls : Cond.laysStatic RX9 "KIND_ABOVE" "[I" ∈ lw_tbl := List.mem_of_getElem? (i := 792) (by decide +kernel)
theorem jl_ar_ge {pl : List (Nat × Nat)} {b0 t : Nat} {dC : Nat → ClassId} {dI : Nat → Nat → Nat} {ca : Nat → ClassId} (h5 : ∀ q ∈ pl, q.1 ≠ 60) {q : Nat} (h : jx_ar (pl, jl_ad b0 t, dC, dI, ca) q) : ∃ r ∈ pl, q = b0 + jl_off r.1 r.2 := by
  obtain ⟨r, hr, e⟩ := h
  refine ⟨r, hr, ?_⟩
  rw [e]
  show jl_ad b0 t r.1 r.2 = _
  unfold jl_ad
  have : Nat.beq r.1 60 = false := by
    cases hb : Nat.beq r.1 60 with
    | false => rfl
    | true => exact absurd (jx_beq hb) (h5 r hr)
  rw [this]
  rfl
set_option maxRecDepth 100000 in
set_option maxHeartbeats 4000000 in
/-- the law from its entry, out of a relation that the constructors' ends have and each call keeps -/
theorem jl_start {Inv : jx_H → jx_H → Prop} (hI : Inv jl_h0 jl_h0) (hst : jl_steps Inv) {p : Program} {e : Env} {s : State} {m : MethodId} {below : List Frame} {meth : Method} {c : Code} (l : Launch) {b L : Nat} {xs : Nat → Int32} (hL : L ≤ 3072) (C0 : lw_At p s m meth c b L xs) : W p l e room_1 s m #[Value.ref b] below meth c s.heap [] 0 0 (lw_Z below #[Value.ref b] s) (entryFrame m ([Value.ref b] : List Value).toArray 4) := by
  have C1 := C0
  obtain ⟨hx, hb, hr, hml, hown, hts0, hX, hbl, hlocks, hgv⟩ := C0
  have hts : ∀ x ∈ jx_tg, x.before #[Value.ref b] s = true := fun x hx => hts0 x (jx_tg_in hx)
  obtain ⟨c0, iS0, hKn0⟩ := u_known (C := RX0) (T := TX0) (N := 3) (n := 3) hts jx_in0 (hts _ wi_0)
  obtain ⟨c1, iS1, hKn1⟩ := u_known (C := RX1) (T := TX1) (N := 5) (n := 5) hts jx_in1 (hts _ wi_1)
  obtain ⟨c2, iS2, hKn2⟩ := u_known (C := RX2) (T := TX2) (N := 1) (n := 1) hts jx_in2 (hts _ wi_2)
  obtain ⟨c3, iS3, hKn3⟩ := u_known (C := RX3) (T := TX3) (N := 7) (n := 7) hts jx_in3 (hts _ wi_3)
  obtain ⟨c4, iS4, hKn4⟩ := u_known (C := RX4) (T := TX4) (N := 4) (n := 4) hts jx_in4 (hts _ wi_4)
  obtain ⟨c5, iS5, hKn5⟩ := u_known (C := RX5) (T := TX5) (N := 3) (n := 3) hts jx_in5 (hts _ wi_5)
  obtain ⟨c6, iS6, hKn6⟩ := u_known (C := RX6) (T := TX6) (N := 11) (n := 11) hts jx_in6 (hts _ wi_6)
  obtain ⟨c7, iS7, hKn7⟩ := u_known (C := RX7) (T := TX7) (N := 3) (n := 3) hts jx_in7 (hts _ wi_7)
  obtain ⟨c8, iS8, hKn8⟩ := u_known (C := RX8) (T := TX8) (N := 4) (n := 4) hts jx_in8 (hts _ wi_8)
  obtain ⟨c9, iS9, hKn9⟩ := u_known (C := RX9) (T := TX9) (N := 14) (n := 14) hts jx_in9 (hts _ wi_9)
  obtain ⟨c10, iS10, hKn10⟩ := u_known (C := RX10) (T := TX10) (N := 24) (n := 24) hts jx_in10 (hts _ wi_10)
  obtain ⟨a0, k0, m0, f0, g0, q0⟩ := Cond.arrayClass_spec (hts _ wc_int)
  obtain ⟨a1, k1, m1, f1, g1, q1⟩ := Cond.arrayClass_spec (hts _ wc_long)
  obtain ⟨a2, k2, m2, f2, g2, q2⟩ := Cond.arrayClass_spec (hts _ wc_boolean)
  obtain ⟨m3, a3, k3, r3, -, g3, q3, f3⟩ := Cond.arrayOver_spec (hts0 _ wi_a3)
  obtain ⟨m4, a4, k4, r4, -, g4, q4, f4⟩ := Cond.arrayOver_spec (hts0 _ wi_a7)
  have hs := flat_of_before _ hgv
  obtain ⟨t, ht, hT⟩ := va_Tof (args := #[Value.ref b]) (s := s) (tm := (.static "RoadBench" "KIND_ABOVE" "[I")) (ty := .int) (N := 4) (f := fun j => .int (jx_ka j)) (A := fun q => s.heap.size ≤ q) (by decide) (hs (.arrayOf (.static "RoadBench" "KIND_ABOVE" "[I") .int) (by decide +kernel)) (va_eqt (hs (.eq (.length (.static "RoadBench" "KIND_ABOVE" "[I")) (.int 4)) (by decide +kernel))) (by
    intro j hj
    rcases (show j = 0 ∨ j = 1 ∨ j = 2 ∨ j = 3 by omega) with rfl | rfl | rfl | rfl
    · exact va_eqt (hs (.eq (.elem (.static "RoadBench" "KIND_ABOVE" "[I") (.int 0)) (.int (-1))) (by decide +kernel))
    · exact va_eqt (hs (.eq (.elem (.static "RoadBench" "KIND_ABOVE" "[I") (.int 1)) (.int 0)) (by decide +kernel))
    · exact va_eqt (hs (.eq (.elem (.static "RoadBench" "KIND_ABOVE" "[I") (.int 2)) (.int 1)) (by decide +kernel))
    · exact va_eqt (hs (.eq (.elem (.static "RoadBench" "KIND_ABOVE" "[I") (.int 3)) (.int 0)) (by decide +kernel))) (fun a h => Nat.not_le.mpr h)
  have hZ := va_Zof (A := fun q => s.heap.size ≤ q) (hts0 _ wi_ls) (hts _ wd_49) ht (fun a h => Nat.not_le.mpr h)
  obtain ⟨dC, hdC⟩ : ∃ f : Nat → ClassId, f = fun k => match k with | 0 => c0 | 1 => c1 | 2 => c2 | 3 => c3 | 4 => c4 | 5 => c5 | 6 => c6 | 7 => c7 | 8 => c8 | 9 => c9 | _ => c10 := ⟨_, rfl⟩
  obtain ⟨dI, hdI⟩ : ∃ f : Nat → Nat → Nat, f = fun k => match k with | 0 => iS0 | 1 => iS1 | 2 => iS2 | 3 => iS3 | 4 => iS4 | 5 => iS5 | 6 => iS6 | 7 => iS7 | 8 => iS8 | 9 => iS9 | _ => iS10 := ⟨_, rfl⟩
  obtain ⟨ca, hca⟩ : ∃ f : Nat → ClassId, f = fun k => match k with | 0 => a0 | 1 => a1 | 2 => a2 | 3 => a3 | _ => a4 := ⟨_, rfl⟩
  have hKc : ∀ (k : Nat) (q : vw_C), jx_cl[k]? = some q → u_Kn s q.1 q.2.1 q.2.2 (dC k) (dI k) := by
    intro k q hq
    subst hdC
    subst hdI
    match k, hq with
    | 0, hq => cases hq; exact hKn0
    | 1, hq => cases hq; exact hKn1
    | 2, hq => cases hq; exact hKn2
    | 3, hq => cases hq; exact hKn3
    | 4, hq => cases hq; exact hKn4
    | 5, hq => cases hq; exact hKn5
    | 6, hq => cases hq; exact hKn6
    | 7, hq => cases hq; exact hKn7
    | 8, hq => cases hq; exact hKn8
    | 9, hq => cases hq; exact hKn9
    | 10, hq => cases hq; exact hKn10
    | k + 11, hq => simp [jx_cl] at hq
  have hK0 : ∀ pl ad, va_K (dC, dI) jx_cl (jx_tys (pl, ad, dC, dI, ca)) s := by
    intro pl ad
    refine ⟨hKc, fun k q hk => ?_⟩
    subst hca
    match k, hk with
    | 0, hk => cases hk; exact ⟨fun n z => ⟨(fun k h => by cases h), k0, g0, m0, q0⟩, f0⟩
    | 1, hk => cases hk; exact ⟨fun n z => ⟨(fun k h => by cases h), k1, g1, m1, q1⟩, f1⟩
    | 2, hk => cases hk; exact ⟨fun n z => ⟨(fun k h => by cases h), k2, g2, m2, q2⟩, f2⟩
    | 3, hk => cases hk; exact ⟨fun n z => ⟨(fun k h => by cases h), k3, g3, m3, q3⟩, k3, m3, g3, q3, r3, f3⟩
    | 4, hk => cases hk; exact ⟨fun n z => ⟨(fun k h => by cases h), k4, g4, m4, q4⟩, k4, m4, g4, q4, r4, f4⟩
    | k + 5, hk => simp [jx_tys] at hk
  have hN : ∀ x ∈ jx_nest, va_Nw x s := by
    intro x hx
    have := hts0 x (jx_nest_in x hx)
    obtain ⟨a9, i9, y9, b9, rfl⟩ := jx_nest_f x hx
    exact va_Nw.of rfl this
  have hA3 : va_AO RX3 s := va_AO.of (hts0 _ wi_a3)
  have hA7 : va_AO RX7 s := va_AO.of (hts0 _ wi_a7)
  have hwx : jl_W s (jl_px, jl_ad s.heap.size t, dC, dI, ca) := ⟨jl_wf jl_px_nd jl_px_inj jl_px_3 jl_px_4 jl_px60, ⟨hK0 _ _, hN, va_Z.narrow hZ (fun q hq => by obtain ⟨r, -, e⟩ := jl_ar_ge jl_px60 hq; rw [e]; exact Nat.le_add_right _ _), va_T.narrow hT (fun q hq => by obtain ⟨r, -, e⟩ := jl_ar_ge jl_px60 hq; rw [e]; exact Nat.le_add_right _ _)⟩, fun q hq => by obtain ⟨r, -, e⟩ := jl_ar_ge jl_px60 hq; rw [e]; exact Nat.le_add_right _ _⟩
  have hwm : jl_W s (jl_pm, jl_ad s.heap.size t, dC, dI, ca) := ⟨jl_wf jl_pm_nd jl_pm_inj jl_pm_3 jl_pm_4 jl_pm60, ⟨hK0 _ _, hN, va_Z.narrow hZ (fun q hq => by obtain ⟨r, -, e⟩ := jl_ar_ge jl_pm60 hq; rw [e]; exact Nat.le_add_right _ _), va_T.narrow hT (fun q hq => by obtain ⟨r, -, e⟩ := jl_ar_ge jl_pm60 hq; rw [e]; exact Nat.le_add_right _ _)⟩, fun q hq => by obtain ⟨r, -, e⟩ := jl_ar_ge jl_pm60 hq; rw [e]; exact Nat.le_add_right _ _⟩
  have hdis : jl_dis (jl_px, jl_ad s.heap.size t, dC, dI, ca) (jl_pm, jl_ad s.heap.size t, dC, dI, ca) := by
    intro q h1 h2
    obtain ⟨r, hr1, e1⟩ := jl_ar_ge jl_px60 h1
    obtain ⟨r', hr2, e2⟩ := jl_ar_ge jl_pm60 h2
    have h3 := List.all_eq_true.mp (List.all_eq_true.mp jl_px_m r hr1) r' hr2
    have e3 : jl_off r.1 r.2 = jl_off r'.1 r'.2 := by omega
    rw [e3, show Nat.beq (jl_off r'.1 r'.2) (jl_off r'.1 r'.2) = true from Nat.beq_refl _] at h3
    cases h3
  have hl := lv_entry ([.ref b]) (n := 4) (Nat.le_of_ble_eq_true rfl)
  rw [lg_entry_eq]
  generalize (lg_sl ([.ref b]) ++ List.replicate (4 - (lg_sl ([.ref b])).length) Slot.unset).toArray = ls at hl ⊢
  have hl : lv_has ls 4 [(0, .ref b)] := hl
  refine jl_new C1 (w := (jl_px, jl_ad s.heap.size t, dC, dI, ca)) (hK0 _ _) (b0 := s.heap.size) (n := 0) (cf := fun _ => .inr (0, [])) (fun k q h => by simp [jc_ws] at h) rfl va_S.rf (ci := 9) (fs := [.null, .null, .null, .null, .null, .null, .int 0, .int 0, .null, .null, .null, .null, .null, .null]) (ty := tyX9) (by decide +kernel) rfl jx_in9 tyX9_ok wi_l9 wi_9 wd_49 (by decide +kernel) (by decide) (by decide) (fun H1 hP1 hz1 hS1 => ?_)
  refine lv_dup hx hb (by decide +kernel) rfl ?_
  refine jl_ctor C1 (w := (jl_px, jl_ad s.heap.size t, dC, dI, ca)) ⟨hK0 _ _, hN, hA3, hA7⟩ rfl hP1 hz1 hS1 hl.1 (idx := 9) (by decide +kernel) (ct_RB l _ _ 0 1 _ (by decide) jc_ue) wd_65 wd_66 wd_67 wd_49 rfl ⟨(by decide +kernel), (by decide +kernel), (by decide +kernel)⟩ (by decide) (by decide) (Nat.le_of_ble_eq_true rfl) (by decide) (by decide) (fun H2 locs2 hP2 hz2 hS2 => ?_)
  refine lv_astore_n (k := 1) (lv' := [(1, .ref (s.heap.size + 0)), (0, .ref b)]) hx hb (by decide +kernel) rfl hl (by decide) rfl (fun ls hl => ?_)
  refine jl_new C1 (w := (jl_px, jl_ad s.heap.size t, dC, dI, ca)) (hK0 _ _) hP2 hz2 hS2 (ci := 10) (fs := [.int 0, .int 0, .int 0, .null, .null, .null, .null, .int 0, .null, .null, .null, .null, .null, .null, .int 0, .null, .int 0, .null, .null, .null, .null, .null, .null, .null]) (ty := tyX10) (by decide +kernel) rfl jx_in10 tyX10_ok wi_l10 wi_10 wd_59 (by decide +kernel) (by decide) (by decide) (fun H3 hP3 hz3 hS3 => ?_)
  refine lv_dup hx hb (by decide +kernel) rfl ?_
  refine jl_ctor C1 (w := (jl_px, jl_ad s.heap.size t, dC, dI, ca)) ⟨hK0 _ _, hN, hA3, hA7⟩ rfl hP3 hz3 hS3 hl.1 (idx := 12) (by decide +kernel) (ct_Mod l _ _ 204 205 _ (by decide) jc_ue) wd_806 wd_807 wd_808 wd_59 rfl ⟨(by decide +kernel), (by decide +kernel), (by decide +kernel)⟩ (by decide) (by decide) (Nat.le_of_ble_eq_true rfl) (by decide) (by decide) (fun H4 locs4 hP4 hz4 hS4 => ?_)
  refine lv_astore_n (k := 2) (lv' := [(2, .ref (s.heap.size + 204)), (1, .ref (s.heap.size + 0)), (0, .ref b)]) hx hb (by decide +kernel) rfl hl (by decide) rfl (fun ls hl => ?_)
  refine lv_iconst (n := 0) (v := 0) hx hb (by decide +kernel) (by decide +kernel) ?_
  refine lv_istore_n (k := 3) (lv' := [(3, .int 0), (2, .ref (s.heap.size + 204)), (1, .ref (s.heap.size + 0)), (0, .ref b)]) hx hb (by decide +kernel) rfl hl (by decide) rfl (fun ls hl => ?_)
  have hPx : va_P (dC, dI) jx_cl (jx_ws (jl_px, jl_ad s.heap.size t, dC, dI, ca) jl_h0) H4 := jl_toP (jl_qx_w hP4)
  have hPm : va_P (dC, dI) jx_cl (jx_ws (jl_pm, jl_ad s.heap.size t, dC, dI, ca) jl_h0) H4 := jl_toP (jl_qm_w hP4)
  exact jl_loop (l := l) (e := e) (below := below) C1 hwx hwm hdis (show (0, 0) ∈ jl_px from by decide +kernel) (show (30, 0) ∈ jl_pm from by decide +kernel) hL hst 600 0 jl_h0 jl_h0 (by omega) (by omega) hI H4 locs4 ls hPx hPm hS4 hl
