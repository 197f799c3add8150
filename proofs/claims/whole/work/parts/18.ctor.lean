theorem wc_125 : (Cond.classLink RX5 9 RX3) ∈ jx_tg := jx_tgm 125 (by decide +kernel) (by decide +kernel)
theorem wc_72 : (Cond.instantiable RX3 7) ∈ jx_tg := jx_tgm 72 (by decide +kernel) (by decide +kernel)
theorem wc_71 : (Cond.classLink RX9 9 RX3) ∈ jx_tg := jx_tgm 71 (by decide +kernel) (by decide +kernel)
theorem wc_139 : (Cond.classLink RX9 31 RX7) ∈ jx_tg := jx_tgm 139 (by decide +kernel) (by decide +kernel)
theorem wc_141 : (Cond.instantiable RX7 3) ∈ jx_tg := jx_tgm 141 (by decide +kernel) (by decide +kernel)
theorem wc_159 : (Cond.classLink RX9 41 RX6) ∈ jx_tg := jx_tgm 159 (by decide +kernel) (by decide +kernel)
theorem wc_160 : (Cond.instantiable RX6 11) ∈ jx_tg := jx_tgm 160 (by decide +kernel) (by decide +kernel)
theorem wc_214 : (Cond.classLink RX9 48 RX2) ∈ jx_tg := jx_tgm 214 (by decide +kernel) (by decide +kernel)
theorem wc_215 : (Cond.instantiable RX2 1) ∈ jx_tg := jx_tgm 215 (by decide +kernel) (by decide +kernel)
theorem wc_224 : (Cond.classLink RX9 55 RX1) ∈ jx_tg := jx_tgm 224 (by decide +kernel) (by decide +kernel)
theorem wc_225 : (Cond.instantiable RX1 5) ∈ jx_tg := jx_tgm 225 (by decide +kernel) (by decide +kernel)
theorem wc_246 : (Cond.classLink RX9 62 RX4) ∈ jx_tg := jx_tgm 246 (by decide +kernel) (by decide +kernel)
theorem wc_247 : (Cond.instantiable RX4 4) ∈ jx_tg := jx_tgm 247 (by decide +kernel) (by decide +kernel)
theorem wc_266 : (Cond.classLink RX9 69 RX8) ∈ jx_tg := jx_tgm 266 (by decide +kernel) (by decide +kernel)
theorem wc_267 : (Cond.instantiable RX8 4) ∈ jx_tg := jx_tgm 267 (by decide +kernel) (by decide +kernel)
theorem wc_285 : (Cond.classLink RX9 76 RX0) ∈ jx_tg := jx_tgm 285 (by decide +kernel) (by decide +kernel)
theorem wc_286 : (Cond.instantiable RX0 3) ∈ jx_tg := jx_tgm 286 (by decide +kernel) (by decide +kernel)
theorem wc_119 : (Cond.classLink RX9 16 RX5) ∈ jx_tg := jx_tgm 119 (by decide +kernel) (by decide +kernel)
theorem wc_120 : (Cond.instantiable RX5 3) ∈ jx_tg := jx_tgm 120 (by decide +kernel) (by decide +kernel)
theorem wc_obj : Cond.code Lib.objectInit ⟨#[0xb1]⟩ 1 none ∈ jx_tg := jx_tgm 70 (by decide +kernel) (by decide +kernel)
theorem wc_int : Cond.arrayClass .int ∈ jx_tg := jx_tgm 118 (by decide +kernel) (by decide +kernel)
theorem wc_long : Cond.arrayClass .long ∈ jx_tg := jx_tgm 265 (by decide +kernel) (by decide +kernel)
theorem wc_boolean : Cond.arrayClass .boolean ∈ jx_tg := jx_tgm 883 (by decide +kernel) (by decide +kernel)
theorem jc_ue {cf : Nat → va_E} {k : Nat} {e : va_E} : va_up cf k e k = e := if_pos rfl
theorem jc_un {cf : Nat → va_E} {k j : Nat} {e : va_E} (h : j ≠ k) : va_up cf k e j = cf j := if_neg h
def jc_fNet (w : jx_Wd) (b0 k n : Nat) (cf : Nat → va_E) : Nat → va_E := (va_up (va_up (va_up (va_up (va_up (va_up (va_up (va_up cf (n + 0) (jc_arr w 0 20)) k (.inr (3, ([.int 0, .int 0, .int 0, .ref (b0 + (n + 0)), .null, .null, .null] : List Value)))) (n + 1) (jc_arr w 0 20)) k (.inr (3, ([.int 0, .int 0, .int 0, .ref (b0 + (n + 0)), .ref (b0 + (n + 1)), .null, .null] : List Value)))) (n + 2) (jc_arr w 0 20)) k (.inr (3, ([.int 0, .int 0, .int 0, .ref (b0 + (n + 0)), .ref (b0 + (n + 1)), .ref (b0 + (n + 2)), .null] : List Value)))) (n + 3) (jc_arr w 0 20)) k (.inr (3, ([.int 0, .int 0, .int 0, .ref (b0 + (n + 0)), .ref (b0 + (n + 1)), .ref (b0 + (n + 2)), .ref (b0 + (n + 3))] : List Value))))
theorem jc_oNet {w : jx_Wd} {b0 k n q : Nat} {cf : Nat → va_E} (h1 : q < n) (h2 : q ≠ k) : jc_fNet w b0 k n cf q = cf q := (jc_un h2).trans <| (jc_un (by omega)).trans <| (jc_un h2).trans <| (jc_un (by omega)).trans <| (jc_un h2).trans <| (jc_un (by omega)).trans <| (jc_un h2).trans <| jc_un (by omega)
set_option maxRecDepth 100000 in
theorem ct_Net (l : Launch) (w : jx_Wd) (b0 k n : Nat) (cf : Nat → va_E) (hkn : k < n) (hk : cf k = .inr (3, ([.int 0, .int 0, .int 0, .null, .null, .null, .null] : List Value))) : jc_MT l w b0 yX3_init cX3_init 1 1 4 80 k n cf (n + 4) (jc_fNet w b0 k n cf) :=
  jc_met (by decide +kernel) rfl (by decide) fun p e R s m args below meth c C =>
  jc_aload C (by decide +kernel) 0 rfl <|
  jc_obj C (by decide +kernel) wd_76 wd_69 wc_obj (by decide) <|
  jc_aload C (by decide +kernel) 0 rfl <|
  jc_bipush C (i := 20) (v := 20) (by decide +kernel) (by decide +kernel) <|
  jc_newa C (atype := .int) (t := 0) (N := 20) (by decide +kernel) wc_int rfl (fun z => z) ⟨_, rfl, fun _ => rfl⟩ (by decide +kernel) (by decide +kernel) (by decide +kernel) (by decide) (by decide) <|
  jc_putF C (fs := ([.int 0, .int 0, .int 0, .null, .null, .null, .null] : List Value)) (ci := 3) (f := 3) (T := TX3) (j := k) (by decide +kernel) rfl jx_in3 tyX3_ok nmX3 wd_89 rfl rfl rfl rfl (by decide) (Nat.le_of_ble_eq_true rfl) (by omega) ((jc_un (by omega)).trans hk) <|
  jc_aload C (by decide +kernel) 0 rfl <|
  jc_bipush C (i := 20) (v := 20) (by decide +kernel) (by decide +kernel) <|
  jc_newa C (atype := .int) (t := 0) (N := 20) (by decide +kernel) wc_int rfl (fun z => z) ⟨_, rfl, fun _ => rfl⟩ (by decide +kernel) (by decide +kernel) (by decide +kernel) (by decide) (by decide) <|
  jc_putF C (fs := ([.int 0, .int 0, .int 0, .ref (b0 + (n + 0)), .null, .null, .null] : List Value)) (ci := 3) (f := 4) (T := TX3) (j := k) (by decide +kernel) rfl jx_in3 tyX3_ok nmX3 wd_93 rfl rfl rfl rfl (by decide) (Nat.le_of_ble_eq_true rfl) (by omega) ((jc_un (by omega)).trans jc_ue) <|
  jc_aload C (by decide +kernel) 0 rfl <|
  jc_bipush C (i := 20) (v := 20) (by decide +kernel) (by decide +kernel) <|
  jc_newa C (atype := .int) (t := 0) (N := 20) (by decide +kernel) wc_int rfl (fun z => z) ⟨_, rfl, fun _ => rfl⟩ (by decide +kernel) (by decide +kernel) (by decide +kernel) (by decide) (by decide) <|
  jc_putF C (fs := ([.int 0, .int 0, .int 0, .ref (b0 + (n + 0)), .ref (b0 + (n + 1)), .null, .null] : List Value)) (ci := 3) (f := 5) (T := TX3) (j := k) (by decide +kernel) rfl jx_in3 tyX3_ok nmX3 wd_97 rfl rfl rfl rfl (by decide) (Nat.le_of_ble_eq_true rfl) (by omega) ((jc_un (by omega)).trans jc_ue) <|
  jc_aload C (by decide +kernel) 0 rfl <|
  jc_bipush C (i := 20) (v := 20) (by decide +kernel) (by decide +kernel) <|
  jc_newa C (atype := .int) (t := 0) (N := 20) (by decide +kernel) wc_int rfl (fun z => z) ⟨_, rfl, fun _ => rfl⟩ (by decide +kernel) (by decide +kernel) (by decide +kernel) (by decide) (by decide) <|
  jc_putF C (fs := ([.int 0, .int 0, .int 0, .ref (b0 + (n + 0)), .ref (b0 + (n + 1)), .ref (b0 + (n + 2)), .null] : List Value)) (ci := 3) (f := 6) (T := TX3) (j := k) (by decide +kernel) rfl jx_in3 tyX3_ok nmX3 wd_100 rfl rfl rfl rfl (by decide) (Nat.le_of_ble_eq_true rfl) (by omega) ((jc_un (by omega)).trans jc_ue) <|
  jc_ret C (by decide +kernel)
def jc_fSheet (w : jx_Wd) (b0 k n : Nat) (cf : Nat → va_E) : Nat → va_E := (va_up (va_up cf (n + 0) (jc_arr w 0 24)) k (.inr (7, ([.int 0, .int 0, .ref (b0 + (n + 0))] : List Value))))
theorem jc_oSheet {w : jx_Wd} {b0 k n q : Nat} {cf : Nat → va_E} (h1 : q < n) (h2 : q ≠ k) : jc_fSheet w b0 k n cf q = cf q := (jc_un h2).trans <| jc_un (by omega)
set_option maxRecDepth 100000 in
theorem ct_Sheet (l : Launch) (w : jx_Wd) (b0 k n : Nat) (cf : Nat → va_E) (hkn : k < n) (hk : cf k = .inr (7, ([.int 0, .int 0, .null] : List Value))) : jc_MT l w b0 yX7_init cX7_init 1 1 1 24 k n cf (n + 1) (jc_fSheet w b0 k n cf) :=
  jc_met (by decide +kernel) rfl (by decide) fun p e R s m args below meth c C =>
  jc_aload C (by decide +kernel) 0 rfl <|
  jc_obj C (by decide +kernel) wd_145 wd_69 wc_obj (by decide) <|
  jc_aload C (by decide +kernel) 0 rfl <|
  jc_bipush C (i := 24) (v := 24) (by decide +kernel) (by decide +kernel) <|
  jc_newa C (atype := .int) (t := 0) (N := 24) (by decide +kernel) wc_int rfl (fun z => z) ⟨_, rfl, fun _ => rfl⟩ (by decide +kernel) (by decide +kernel) (by decide +kernel) (by decide) (by decide) <|
  jc_putF C (fs := ([.int 0, .int 0, .null] : List Value)) (ci := 7) (f := 2) (T := TX7) (j := k) (by decide +kernel) rfl jx_in7 tyX7_ok nmX7 wd_150 rfl rfl rfl rfl (by decide) (Nat.le_of_ble_eq_true rfl) (by omega) ((jc_un (by omega)).trans hk) <|
  jc_ret C (by decide +kernel)
def jc_fPlan (w : jx_Wd) (b0 k n : Nat) (cf : Nat → va_E) : Nat → va_E := (va_up (va_up (va_up (va_up (va_up (va_up (va_up (va_up cf (n + 0) (jc_arr w 0 256)) k (.inr (6, ([.int 0, .int 0, .int 0, .int 0, .int 0, .int 0, .int 0, .ref (b0 + (n + 0)), .null, .null, .null] : List Value)))) (n + 1) (jc_arr w 0 256)) k (.inr (6, ([.int 0, .int 0, .int 0, .int 0, .int 0, .int 0, .int 0, .ref (b0 + (n + 0)), .ref (b0 + (n + 1)), .null, .null] : List Value)))) (n + 2) (jc_arr w 0 256)) k (.inr (6, ([.int 0, .int 0, .int 0, .int 0, .int 0, .int 0, .int 0, .ref (b0 + (n + 0)), .ref (b0 + (n + 1)), .ref (b0 + (n + 2)), .null] : List Value)))) (n + 3) (jc_arr w 0 256)) k (.inr (6, ([.int 0, .int 0, .int 0, .int 0, .int 0, .int 0, .int 0, .ref (b0 + (n + 0)), .ref (b0 + (n + 1)), .ref (b0 + (n + 2)), .ref (b0 + (n + 3))] : List Value))))
theorem jc_oPlan {w : jx_Wd} {b0 k n q : Nat} {cf : Nat → va_E} (h1 : q < n) (h2 : q ≠ k) : jc_fPlan w b0 k n cf q = cf q := (jc_un h2).trans <| (jc_un (by omega)).trans <| (jc_un h2).trans <| (jc_un (by omega)).trans <| (jc_un h2).trans <| (jc_un (by omega)).trans <| (jc_un h2).trans <| jc_un (by omega)
set_option maxRecDepth 100000 in
theorem ct_Plan (l : Launch) (w : jx_Wd) (b0 k n : Nat) (cf : Nat → va_E) (hkn : k < n) (hk : cf k = .inr (6, ([.int 0, .int 0, .int 0, .int 0, .int 0, .int 0, .int 0, .null, .null, .null, .null] : List Value))) : jc_MT l w b0 yX6_init cX6_init 1 1 4 1024 k n cf (n + 4) (jc_fPlan w b0 k n cf) :=
  jc_met (by decide +kernel) rfl (by decide) fun p e R s m args below meth c C =>
  jc_aload C (by decide +kernel) 0 rfl <|
  jc_obj C (by decide +kernel) wd_164 wd_69 wc_obj (by decide) <|
  jc_aload C (by decide +kernel) 0 rfl <|
  jc_sipush C (i := 256) (v := 256) (by decide +kernel) (by decide +kernel) <|
  jc_newa C (atype := .int) (t := 0) (N := 256) (by decide +kernel) wc_int rfl (fun z => z) ⟨_, rfl, fun _ => rfl⟩ (by decide +kernel) (by decide +kernel) (by decide +kernel) (by decide) (by decide) <|
  jc_putF C (fs := ([.int 0, .int 0, .int 0, .int 0, .int 0, .int 0, .int 0, .null, .null, .null, .null] : List Value)) (ci := 6) (f := 7) (T := TX6) (j := k) (by decide +kernel) rfl jx_in6 tyX6_ok nmX6 wd_182 rfl rfl rfl rfl (by decide) (Nat.le_of_ble_eq_true rfl) (by omega) ((jc_un (by omega)).trans hk) <|
  jc_aload C (by decide +kernel) 0 rfl <|
  jc_sipush C (i := 256) (v := 256) (by decide +kernel) (by decide +kernel) <|
  jc_newa C (atype := .int) (t := 0) (N := 256) (by decide +kernel) wc_int rfl (fun z => z) ⟨_, rfl, fun _ => rfl⟩ (by decide +kernel) (by decide +kernel) (by decide +kernel) (by decide) (by decide) <|
  jc_putF C (fs := ([.int 0, .int 0, .int 0, .int 0, .int 0, .int 0, .int 0, .ref (b0 + (n + 0)), .null, .null, .null] : List Value)) (ci := 6) (f := 8) (T := TX6) (j := k) (by decide +kernel) rfl jx_in6 tyX6_ok nmX6 wd_185 rfl rfl rfl rfl (by decide) (Nat.le_of_ble_eq_true rfl) (by omega) ((jc_un (by omega)).trans jc_ue) <|
  jc_aload C (by decide +kernel) 0 rfl <|
  jc_sipush C (i := 256) (v := 256) (by decide +kernel) (by decide +kernel) <|
  jc_newa C (atype := .int) (t := 0) (N := 256) (by decide +kernel) wc_int rfl (fun z => z) ⟨_, rfl, fun _ => rfl⟩ (by decide +kernel) (by decide +kernel) (by decide +kernel) (by decide) (by decide) <|
  jc_putF C (fs := ([.int 0, .int 0, .int 0, .int 0, .int 0, .int 0, .int 0, .ref (b0 + (n + 0)), .ref (b0 + (n + 1)), .null, .null] : List Value)) (ci := 6) (f := 9) (T := TX6) (j := k) (by decide +kernel) rfl jx_in6 tyX6_ok nmX6 wd_188 rfl rfl rfl rfl (by decide) (Nat.le_of_ble_eq_true rfl) (by omega) ((jc_un (by omega)).trans jc_ue) <|
  jc_aload C (by decide +kernel) 0 rfl <|
  jc_sipush C (i := 256) (v := 256) (by decide +kernel) (by decide +kernel) <|
  jc_newa C (atype := .int) (t := 0) (N := 256) (by decide +kernel) wc_int rfl (fun z => z) ⟨_, rfl, fun _ => rfl⟩ (by decide +kernel) (by decide +kernel) (by decide +kernel) (by decide) (by decide) <|
  jc_putF C (fs := ([.int 0, .int 0, .int 0, .int 0, .int 0, .int 0, .int 0, .ref (b0 + (n + 0)), .ref (b0 + (n + 1)), .ref (b0 + (n + 2)), .null] : List Value)) (ci := 6) (f := 10) (T := TX6) (j := k) (by decide +kernel) rfl jx_in6 tyX6_ok nmX6 wd_189 rfl rfl rfl rfl (by decide) (Nat.le_of_ble_eq_true rfl) (by omega) ((jc_un (by omega)).trans jc_ue) <|
  jc_ret C (by decide +kernel)
def jc_fHard (w : jx_Wd) (b0 k n : Nat) (cf : Nat → va_E) : Nat → va_E := (va_up (va_up cf (n + 0) (jc_arr w 0 256)) k (.inr (2, ([.ref (b0 + (n + 0))] : List Value))))
theorem jc_oHard {w : jx_Wd} {b0 k n q : Nat} {cf : Nat → va_E} (h1 : q < n) (h2 : q ≠ k) : jc_fHard w b0 k n cf q = cf q := (jc_un h2).trans <| jc_un (by omega)
set_option maxRecDepth 100000 in
theorem ct_Hard (l : Launch) (w : jx_Wd) (b0 k n : Nat) (cf : Nat → va_E) (hkn : k < n) (hk : cf k = .inr (2, ([.null] : List Value))) : jc_MT l w b0 yX2_init cX2_init 1 1 1 256 k n cf (n + 1) (jc_fHard w b0 k n cf) :=
  jc_met (by decide +kernel) rfl (by decide) fun p e R s m args below meth c C =>
  jc_aload C (by decide +kernel) 0 rfl <|
  jc_obj C (by decide +kernel) wd_219 wd_69 wc_obj (by decide) <|
  jc_aload C (by decide +kernel) 0 rfl <|
  jc_sipush C (i := 256) (v := 256) (by decide +kernel) (by decide +kernel) <|
  jc_newa C (atype := .int) (t := 0) (N := 256) (by decide +kernel) wc_int rfl (fun z => z) ⟨_, rfl, fun _ => rfl⟩ (by decide +kernel) (by decide +kernel) (by decide +kernel) (by decide) (by decide) <|
  jc_putF C (fs := ([.null] : List Value)) (ci := 2) (f := 0) (T := TX2) (j := k) (by decide +kernel) rfl jx_in2 tyX2_ok nmX2 wd_220 rfl rfl rfl rfl (by decide) (Nat.le_of_ble_eq_true rfl) (by omega) ((jc_un (by omega)).trans hk) <|
  jc_ret C (by decide +kernel)
def jc_fCheap (w : jx_Wd) (b0 k n : Nat) (cf : Nat → va_E) : Nat → va_E := cf
theorem jc_oCheap {w : jx_Wd} {b0 k n q : Nat} {cf : Nat → va_E} (h1 : q < n) (h2 : q ≠ k) : jc_fCheap w b0 k n cf q = cf q := rfl
set_option maxRecDepth 100000 in
theorem ct_Cheap (l : Launch) (w : jx_Wd) (b0 k n : Nat) (cf : Nat → va_E) (hkn : k < n) (hk : cf k = .inr (1, ([.null, .null, .int 0, .int 0, .int 0] : List Value))) : jc_MT l w b0 yX1_init cX1_init 1 1 0 0 k n cf (n + 0) (jc_fCheap w b0 k n cf) :=
  jc_met (by decide +kernel) rfl (by decide) fun p e R s m args below meth c C =>
  jc_aload C (by decide +kernel) 0 rfl <|
  jc_obj C (by decide +kernel) wd_229 wd_69 wc_obj (by decide) <|
  jc_ret C (by decide +kernel)
def jc_fPack (w : jx_Wd) (b0 k n : Nat) (cf : Nat → va_E) : Nat → va_E := (va_up (va_up (va_up (va_up cf (n + 0) (jc_arr w 0 8)) k (.inr (4, ([.null, .int 0, .ref (b0 + (n + 0)), .null] : List Value)))) (n + 1) (jc_arr w 1 256)) k (.inr (4, ([.null, .int 0, .ref (b0 + (n + 0)), .ref (b0 + (n + 1))] : List Value))))
theorem jc_oPack {w : jx_Wd} {b0 k n q : Nat} {cf : Nat → va_E} (h1 : q < n) (h2 : q ≠ k) : jc_fPack w b0 k n cf q = cf q := (jc_un h2).trans <| (jc_un (by omega)).trans <| (jc_un h2).trans <| jc_un (by omega)
set_option maxRecDepth 100000 in
theorem ct_Pack (l : Launch) (w : jx_Wd) (b0 k n : Nat) (cf : Nat → va_E) (hkn : k < n) (hk : cf k = .inr (4, ([.null, .int 0, .null, .null] : List Value))) : jc_MT l w b0 yX4_init cX4_init 1 1 2 264 k n cf (n + 2) (jc_fPack w b0 k n cf) :=
  jc_met (by decide +kernel) rfl (by decide) fun p e R s m args below meth c C =>
  jc_aload C (by decide +kernel) 0 rfl <|
  jc_obj C (by decide +kernel) wd_251 wd_69 wc_obj (by decide) <|
  jc_aload C (by decide +kernel) 0 rfl <|
  jc_bipush C (i := 8) (v := 8) (by decide +kernel) (by decide +kernel) <|
  jc_newa C (atype := .int) (t := 0) (N := 8) (by decide +kernel) wc_int rfl (fun z => z) ⟨_, rfl, fun _ => rfl⟩ (by decide +kernel) (by decide +kernel) (by decide +kernel) (by decide) (by decide) <|
  jc_putF C (fs := ([.null, .int 0, .null, .null] : List Value)) (ci := 4) (f := 2) (T := TX4) (j := k) (by decide +kernel) rfl jx_in4 tyX4_ok nmX4 wd_254 rfl rfl rfl rfl (by decide) (Nat.le_of_ble_eq_true rfl) (by omega) ((jc_un (by omega)).trans hk) <|
  jc_aload C (by decide +kernel) 0 rfl <|
  jc_sipush C (i := 256) (v := 256) (by decide +kernel) (by decide +kernel) <|
  jc_newa C (atype := .long) (t := 1) (N := 256) (by decide +kernel) wc_long rfl (fun z => z) ⟨_, rfl, fun _ => rfl⟩ (by decide +kernel) (by decide +kernel) (by decide +kernel) (by decide) (by decide) <|
  jc_putF C (fs := ([.null, .int 0, .ref (b0 + (n + 0)), .null] : List Value)) (ci := 4) (f := 3) (T := TX4) (j := k) (by decide +kernel) rfl jx_in4 tyX4_ok nmX4 wd_255 rfl rfl rfl rfl (by decide) (Nat.le_of_ble_eq_true rfl) (by omega) ((jc_un (by omega)).trans jc_ue) <|
  jc_ret C (by decide +kernel)
def jc_fWalk (w : jx_Wd) (b0 k n : Nat) (cf : Nat → va_E) : Nat → va_E := cf
theorem jc_oWalk {w : jx_Wd} {b0 k n q : Nat} {cf : Nat → va_E} (h1 : q < n) (h2 : q ≠ k) : jc_fWalk w b0 k n cf q = cf q := rfl
set_option maxRecDepth 100000 in
theorem ct_Walk (l : Launch) (w : jx_Wd) (b0 k n : Nat) (cf : Nat → va_E) (hkn : k < n) (hk : cf k = .inr (8, ([.null, .int 0, .int 0, .int 0] : List Value))) : jc_MT l w b0 yX8_init cX8_init 1 1 0 0 k n cf (n + 0) (jc_fWalk w b0 k n cf) :=
  jc_met (by decide +kernel) rfl (by decide) fun p e R s m args below meth c C =>
  jc_aload C (by decide +kernel) 0 rfl <|
  jc_obj C (by decide +kernel) wd_271 wd_69 wc_obj (by decide) <|
  jc_ret C (by decide +kernel)
def jc_fChan (w : jx_Wd) (b0 k n : Nat) (cf : Nat → va_E) : Nat → va_E := (va_up (va_up cf (n + 0) (jc_arr w 1 256)) k (.inr (0, ([.null, .null, .ref (b0 + (n + 0))] : List Value))))
theorem jc_oChan {w : jx_Wd} {b0 k n q : Nat} {cf : Nat → va_E} (h1 : q < n) (h2 : q ≠ k) : jc_fChan w b0 k n cf q = cf q := (jc_un h2).trans <| jc_un (by omega)
set_option maxRecDepth 100000 in
theorem ct_Chan (l : Launch) (w : jx_Wd) (b0 k n : Nat) (cf : Nat → va_E) (hkn : k < n) (hk : cf k = .inr (0, ([.null, .null, .null] : List Value))) : jc_MT l w b0 yX0_init cX0_init 1 1 1 256 k n cf (n + 1) (jc_fChan w b0 k n cf) :=
  jc_met (by decide +kernel) rfl (by decide) fun p e R s m args below meth c C =>
  jc_aload C (by decide +kernel) 0 rfl <|
  jc_obj C (by decide +kernel) wd_290 wd_69 wc_obj (by decide) <|
  jc_aload C (by decide +kernel) 0 rfl <|
  jc_sipush C (i := 256) (v := 256) (by decide +kernel) (by decide +kernel) <|
  jc_newa C (atype := .long) (t := 1) (N := 256) (by decide +kernel) wc_long rfl (fun z => z) ⟨_, rfl, fun _ => rfl⟩ (by decide +kernel) (by decide +kernel) (by decide +kernel) (by decide) (by decide) <|
  jc_putF C (fs := ([.null, .null, .null] : List Value)) (ci := 0) (f := 2) (T := TX0) (j := k) (by decide +kernel) rfl jx_in0 tyX0_ok nmX0 wd_293 rfl rfl rfl rfl (by decide) (Nat.le_of_ble_eq_true rfl) (by omega) ((jc_un (by omega)).trans hk) <|
  jc_ret C (by decide +kernel)
/-- the five cells of a net at place a -/
def jc_nc (w : jx_Wd) (b0 a r : Nat) : va_E := match r with
  | 0 => .inr (3, ([.int 0, .int 0, .int 0, .ref (b0 + (a + 1 + 0)), .ref (b0 + (a + 1 + 1)), .ref (b0 + (a + 1 + 2)), .ref (b0 + (a + 1 + 3))] : List Value))
  | _ => jc_arr w 0 20
def jc_nets (w : jx_Wd) (b0 n1 i : Nat) (cf : Nat → va_E) : Nat → va_E := fun q => if n1 ≤ q ∧ q < n1 + 5 * i then jc_nc w b0 (n1 + 5 * ((q - n1) / 5)) ((q - n1) % 5) else cf q
theorem jc_nets_0 {w : jx_Wd} {b0 n1 : Nat} {cf : Nat → va_E} : jc_nets w b0 n1 0 cf = cf := by
  funext q
  unfold jc_nets
  rw [if_neg (by omega)]
theorem jc_fNet_in {w : jx_Wd} {b0 a r : Nat} {cf : Nat → va_E} (h : r < 5) : jc_fNet w b0 a (a + 1) cf (a + r) = jc_nc w b0 a r := by
  unfold jc_fNet
  rcases (show r = 0 ∨ r = 1 ∨ r = 2 ∨ r = 3 ∨ r = 4 by omega) with rfl | rfl | rfl | rfl | rfl
  · exact jc_ue
  · exact (jc_un (by omega)).trans <| (jc_un (by omega)).trans <| (jc_un (by omega)).trans <| (jc_un (by omega)).trans <| (jc_un (by omega)).trans <| (jc_un (by omega)).trans <| (jc_un (by omega)).trans <| jc_ue
  · exact (jc_un (by omega)).trans <| (jc_un (by omega)).trans <| (jc_un (by omega)).trans <| (jc_un (by omega)).trans <| (jc_un (by omega)).trans <| jc_ue
  · exact (jc_un (by omega)).trans <| (jc_un (by omega)).trans <| (jc_un (by omega)).trans <| jc_ue
  · exact (jc_un (by omega)).trans <| jc_ue
theorem jc_fNet_above {w : jx_Wd} {b0 k n q : Nat} {cf : Nat → va_E} (h : n + 4 ≤ q) (h2 : q ≠ k) : jc_fNet w b0 k n cf q = cf q := by
  unfold jc_fNet
  rw [jc_un (by omega), jc_un (by omega), jc_un (by omega), jc_un (by omega), jc_un (by omega), jc_un (by omega), jc_un (by omega), jc_un (by omega)]
theorem jc_nets_s {w : jx_Wd} {b0 n1 i : Nat} {cf : Nat → va_E} {e : va_E} : jc_fNet w b0 (n1 + 5 * i) (n1 + 5 * i + 1) (va_up (jc_nets w b0 n1 i cf) (n1 + 5 * i) e) = jc_nets w b0 n1 (i + 1) cf := by
  funext q
  by_cases h1 : q < n1 + 5 * i
  · rw [jc_oNet (by omega) (by omega), jc_un (by omega)]
    unfold jc_nets
    by_cases h2 : n1 ≤ q
    · rw [if_pos ⟨h2, h1⟩, if_pos ⟨h2, by omega⟩]
    · rw [if_neg (by omega), if_neg (by omega)]
  · by_cases h2 : q < n1 + 5 * i + 5
    · obtain ⟨r, rfl⟩ : ∃ r, q = n1 + 5 * i + r := ⟨q - (n1 + 5 * i), by omega⟩
      rw [jc_fNet_in (by omega)]
      unfold jc_nets
      rw [if_pos ⟨by omega, by omega⟩]
      have e1 : (n1 + 5 * i + r - n1) / 5 = i := by omega
      have e2 : (n1 + 5 * i + r - n1) % 5 = r := by omega
      rw [e1, e2]
    · rw [jc_fNet_above (by omega) (by omega), jc_un (by omega)]
      unfold jc_nets
      rw [if_neg (by omega), if_neg (by omega)]
theorem jc_nets_up {w : jx_Wd} {b0 n1 i j : Nat} {cf : Nat → va_E} {e : va_E} (h : j < n1) : jc_nets w b0 n1 i (va_up cf j e) = va_up (jc_nets w b0 n1 i cf) j e := by
  funext q
  unfold jc_nets va_up
  by_cases h1 : n1 ≤ q ∧ q < n1 + 5 * i
  · simp only [if_pos h1]
    rw [if_neg (by omega)]
  · simp only [if_neg h1]
theorem jc_nets_lo {w : jx_Wd} {b0 n1 i j : Nat} {cf : Nat → va_E} (h : j < n1) : jc_nets w b0 n1 i cf j = cf j := by
  unfold jc_nets
  rw [if_neg (by omega)]
/-- what an array of nets holds when i are made -/
def jc_na (b0 n1 i : Nat) : Nat → Option Nat := fun j => if j < i then some (b0 + (n1 + 5 * j)) else none
theorem jc_na_s {b0 n1 i : Nat} : va_up (jc_na b0 n1 i) i (some (b0 + (n1 + 5 * i))) = jc_na b0 n1 (i + 1) := by
  funext j
  unfold va_up jc_na
  by_cases h : j = i
  · subst h
    rw [if_pos rfl, if_pos (by omega)]
  · rw [if_neg h]
    by_cases h2 : j < i
    · rw [if_pos h2, if_pos (by omega)]
    · rw [if_neg h2, if_neg (by omega)]
theorem jc_na_0 {b0 n1 : Nat} : jc_na b0 n1 0 = fun _ => none := by
  funext j
  exact if_neg (by omega)
theorem jc_uu {cf : Nat → va_E} {k : Nat} {e e' : va_E} : va_up (va_up cf k e) k e' = va_up cf k e' := bx_uu cf k e e'

def jc_fPast (w : jx_Wd) (b0 k n : Nat) (cf : Nat → va_E) : Nat → va_E := va_up (jc_nets w b0 (n + 1) 30 (va_up (va_up cf n (jc_rar w 3 30 (fun _ => none))) k (.inr (5, ([.null, .int 0, .int 0] : List Value).set 0 (.ref (b0 + n)))))) n (jc_rar w 3 30 (jc_na b0 (n + 1) 30))
theorem jc_oPast {w : jx_Wd} {b0 k n q : Nat} {cf : Nat → va_E} (h1 : q < n) (h2 : q ≠ k) : jc_fPast w b0 k n cf q = cf q := by
  unfold jc_fPast
  rw [jc_un (by omega), jc_nets_lo (by omega), jc_un h2, jc_un (by omega)]
set_option maxRecDepth 100000 in
theorem jc_lPast {p : Program} {l : Launch} {e : Env} {R : Room} {s : State} {m : MethodId} {args : Array Value} {below : List Frame} {meth : Method} {c : Code} {w : jx_Wd} {b0 : Nat} {Q : State → Prop} (C : jc_Cx p R s m args meth c w cX5_init 2 RX5 b0 1 151 2640) {k n1 pa : Nat} {cf : Nat → va_E} {fs : List Value} (hk : k < n1) (hpa : pa < n1) (hkp : k ≠ pa) (hcf : cf k = .inr (5, fs)) (hfs : fs[0]? = some (.ref (b0 + pa)))
    (kk : jc_Go p l e R s m args below meth c w 2 b0 Q (n1 + 5 * 30) (va_up (jc_nets w b0 n1 30 cf) pa (jc_rar w 3 30 (jc_na b0 n1 30))) (1 + 5 * 30) (30 + 87 * 30) 40 [(1, .int 30), (0, .ref (b0 + k))] []) :
    ∀ (r i : Nat), i + r = 30 → jc_Go p l e R s m args below meth c w 2 b0 Q (n1 + 5 * i) (va_up (jc_nets w b0 n1 i cf) pa (jc_rar w 3 30 (jc_na b0 n1 i))) (1 + 5 * i) (30 + 87 * i) 15 [(1, .int (nI i)), (0, .ref (b0 + k))] [] := by
  intro r
  induction r with
  | zero =>
    intro i hi
    have : i = 30 := by omega
    subst this
    exact jc_iload C (by decide +kernel) 0 rfl <| jc_bipush C (i := 30) (v := 30) (by decide +kernel) (by decide +kernel) <| jc_icge C (t := 40) (off := 22) (by decide +kernel) (by decide +kernel) (fun _ => kk) (fun g => absurd (by decide) g)
  | succ r ih =>
    intro i hi
    have hlt : ¬ (30 : Int32) ≤ nI i := nI_ge (b := 30) (by omega) (by decide)
    have hin : vp_in (nI i) 30 := vp_in_nI (by omega) (by decide)
    have hcl : (nI i).toNatClampNeg = i := nI_clamp (by omega)
    refine jc_iload C (by decide +kernel) 0 rfl <| jc_bipush C (i := 30) (v := 30) (by decide +kernel) (by decide +kernel) <| jc_icge C (t := 40) (off := 22) (by decide +kernel) (by decide +kernel) (fun g => absurd g hlt) (fun _ => ?_)
    refine jc_aload C (by decide +kernel) 1 rfl <| jc_get C (ci := 5) (f := 0) (T := TX5) (j := k) (by decide +kernel) rfl jx_in5 wd_128 (by decide) (by omega) ((jc_un hkp).trans ((jc_nets_lo hk).trans hcf)) hfs <| jc_iload C (by decide +kernel) 0 rfl <| ?_
    refine jc_new C (ci := 3) (fs := ([.int 0, .int 0, .int 0, .null, .null, .null, .null] : List Value)) (ty := tyX3) (by decide +kernel) rfl jx_in3 tyX3_ok wc_125 wc_72 wd_50 (by decide +kernel) (by omega) (by omega) <| jc_dup C (by decide +kernel) <| ?_
    refine jc_call C (idx := 17) (by decide +kernel) (ct_Net l w b0 (n1 + 5 * i) (n1 + 5 * i + 1) _ (by omega) jc_ue) (Or.inr ⟨RX9, by decide +kernel⟩) wd_74 wd_75 wd_50 rfl ⟨(by decide +kernel), (by decide +kernel), (by decide +kernel)⟩ (by omega) (by decide) (Nat.le_of_ble_eq_true rfl) (by omega) (by omega) <| ?_
    refine jc_aast C (t := 3) (j := pa) (jv := n1 + 5 * i) (ci := 3) (N := 30) (f := jc_na b0 n1 i) (vs := _) (r := (RX3, TX3, 7)) (by decide +kernel) (by omega) (by omega) ((jc_oNet (by omega) (by omega)).trans ((jc_un (by omega)).trans jc_ue)) rfl (jc_fNet_in (r := 0) (by omega)) rfl hin <| ?_
    rw [hcl, jc_na_s]
    have e1 : va_up (jc_fNet w b0 (n1 + 5 * i) (n1 + 5 * i + 1) (va_up (va_up (jc_nets w b0 n1 i cf) pa (jc_rar w 3 30 (jc_na b0 n1 i))) (n1 + 5 * i) (.inr (3, ([.int 0, .int 0, .int 0, .null, .null, .null, .null] : List Value))))) pa (jc_rar w 3 30 (jc_na b0 n1 (i + 1))) = va_up (jc_nets w b0 n1 (i + 1) cf) pa (jc_rar w 3 30 (jc_na b0 n1 (i + 1))) := by
      rw [← jc_nets_up hpa, jc_nets_s, jc_nets_up hpa, jc_uu]
    rw [e1]
    refine jc_iinc C (by decide +kernel) 0 rfl (nI_1 i) (by decide) rfl <| jc_goto C (t := 15) (off := -22) (by decide +kernel) (by decide +kernel) <| ?_
    have g := ih (i + 1) (by omega)
    rw [show n1 + 5 * (i + 1) = n1 + 5 * i + 1 + 4 by omega, show 1 + 5 * (i + 1) = 1 + 5 * i + 1 + 4 by omega, show 30 + 87 * (i + 1) = 30 + 87 * i + 7 + 80 by omega] at g
    exact g
set_option maxRecDepth 100000 in
theorem ct_Past (l : Launch) (w : jx_Wd) (b0 k n : Nat) (cf : Nat → va_E) (hkn : k < n) (hk : cf k = .inr (5, ([.null, .int 0, .int 0] : List Value))) : jc_MT l w b0 yX5_init cX5_init 2 2 151 2640 k n cf (n + 151) (jc_fPast w b0 k n cf) :=
  jc_met (by decide +kernel) rfl (by decide) fun p e R s m args below meth c C =>
  jc_aload C (by decide +kernel) 0 rfl <| jc_obj C (by decide +kernel) wd_124 wd_69 wc_obj (by decide) <| jc_aload C (by decide +kernel) 0 rfl <| jc_bipush C (i := 30) (v := 30) (by decide +kernel) (by decide +kernel) <|
  jc_newq C (t := 3) (N := 30) (by decide +kernel) wc_125 C.2.2.2.2.2.1.2.2.1 rfl (by decide +kernel) (by decide +kernel) (by decide +kernel) (by decide) (by decide) <|
  jc_putF C (ci := 5) (f := 0) (T := TX5) (j := k) (by decide +kernel) rfl jx_in5 tyX5_ok nmX5 wd_128 rfl rfl rfl rfl (by decide) (by decide) (by omega) ((jc_un (by omega)).trans hk) <|
  jc_iconst C (i := 0) (v := 0) (by decide +kernel) (by decide +kernel) <| jc_istore C (by decide +kernel) (by decide) rfl <| by
    have g := jc_lPast (l := l) (e := e) (below := below) (Q := MQ below (jc_Po w b0 (n + 151) (jc_fPast w b0 k n cf)) args s 151 2640 (fun q => b0 ≤ q)) C (k := k) (n1 := n + 1) (pa := n) (cf := va_up (va_up cf n (jc_rar w 3 30 (fun _ => none))) k (.inr (5, ([.null, .int 0, .int 0] : List Value).set 0 (.ref (b0 + n))))) (by omega) (by omega) (by omega) jc_ue rfl (jc_ret C (by decide +kernel)) 30 0 rfl
    rw [jc_nets_0, jc_na_0] at g
    have e1 : va_up (va_up (va_up cf n (jc_rar w 3 30 (fun _ => none))) k (.inr (5, ([.null, .int 0, .int 0] : List Value).set 0 (.ref (b0 + n))))) n (jc_rar w 3 30 (fun _ => none)) = va_up (va_up cf n (jc_rar w 3 30 (fun _ => none))) k (.inr (5, ([.null, .int 0, .int 0] : List Value).set 0 (.ref (b0 + n)))) := by
      funext q
      by_cases h : q = n
      · subst h
        rw [jc_ue, jc_un (by omega), jc_ue]
      · rw [jc_un h]
    rw [e1] at g
    exact g
def jc_sc (w : jx_Wd) (b0 a r : Nat) : va_E := match r with
  | 0 => .inr (7, ([.int 0, .int 0, .ref (b0 + (a + 1 + 0))] : List Value))
  | _ => jc_arr w 0 24
def jc_shs (w : jx_Wd) (b0 n1 i : Nat) (cf : Nat → va_E) : Nat → va_E := fun q => if n1 ≤ q ∧ q < n1 + 2 * i then jc_sc w b0 (n1 + 2 * ((q - n1) / 2)) ((q - n1) % 2) else cf q
theorem jc_shs_0 {w : jx_Wd} {b0 n1 : Nat} {cf : Nat → va_E} : jc_shs w b0 n1 0 cf = cf := by
  funext q
  unfold jc_shs
  rw [if_neg (by omega)]
theorem jc_fSheet_in {w : jx_Wd} {b0 a r : Nat} {cf : Nat → va_E} (h : r < 2) : jc_fSheet w b0 a (a + 1) cf (a + r) = jc_sc w b0 a r := by
  unfold jc_fSheet
  rcases (show r = 0 ∨ r = 1 by omega) with rfl | rfl
  · exact jc_ue
  · exact (jc_un (by omega)).trans <| jc_ue
theorem jc_fSheet_above {w : jx_Wd} {b0 k n q : Nat} {cf : Nat → va_E} (h : n + 1 ≤ q) (h2 : q ≠ k) : jc_fSheet w b0 k n cf q = cf q := by
  unfold jc_fSheet
  rw [jc_un (by omega), jc_un (by omega)]
theorem jc_shs_s {w : jx_Wd} {b0 n1 i : Nat} {cf : Nat → va_E} {e : va_E} : jc_fSheet w b0 (n1 + 2 * i) (n1 + 2 * i + 1) (va_up (jc_shs w b0 n1 i cf) (n1 + 2 * i) e) = jc_shs w b0 n1 (i + 1) cf := by
  funext q
  by_cases h1 : q < n1 + 2 * i
  · rw [jc_oSheet (by omega) (by omega), jc_un (by omega)]
    unfold jc_shs
    by_cases h2 : n1 ≤ q
    · rw [if_pos ⟨h2, h1⟩, if_pos ⟨h2, by omega⟩]
    · rw [if_neg (by omega), if_neg (by omega)]
  · by_cases h2 : q < n1 + 2 * i + 2
    · obtain ⟨r, rfl⟩ : ∃ r, q = n1 + 2 * i + r := ⟨q - (n1 + 2 * i), by omega⟩
      rw [jc_fSheet_in (by omega)]
      unfold jc_shs
      rw [if_pos ⟨by omega, by omega⟩]
      have e1 : (n1 + 2 * i + r - n1) / 2 = i := by omega
      have e2 : (n1 + 2 * i + r - n1) % 2 = r := by omega
      rw [e1, e2]
    · rw [jc_fSheet_above (by omega) (by omega), jc_un (by omega)]
      unfold jc_shs
      rw [if_neg (by omega), if_neg (by omega)]
theorem jc_shs_up {w : jx_Wd} {b0 n1 i j : Nat} {cf : Nat → va_E} {e : va_E} (h : j < n1) : jc_shs w b0 n1 i (va_up cf j e) = va_up (jc_shs w b0 n1 i cf) j e := by
  funext q
  unfold jc_shs va_up
  by_cases h1 : n1 ≤ q ∧ q < n1 + 2 * i
  · simp only [if_pos h1]
    rw [if_neg (by omega)]
  · simp only [if_neg h1]
theorem jc_shs_lo {w : jx_Wd} {b0 n1 i j : Nat} {cf : Nat → va_E} (h : j < n1) : jc_shs w b0 n1 i cf j = cf j := by
  unfold jc_shs
  rw [if_neg (by omega)]
def jc_sa (b0 n1 i : Nat) : Nat → Option Nat := fun j => if j < i then some (b0 + (n1 + 2 * j)) else none
theorem jc_sa_s {b0 n1 i : Nat} : va_up (jc_sa b0 n1 i) i (some (b0 + (n1 + 2 * i))) = jc_sa b0 n1 (i + 1) := by
  funext j
  unfold va_up jc_sa
  by_cases h : j = i
  · subst h
    rw [if_pos rfl, if_pos (by omega)]
  · rw [if_neg h]
    by_cases h2 : j < i
    · rw [if_pos h2, if_pos (by omega)]
    · rw [if_neg h2, if_neg (by omega)]
theorem jc_sa_0 {b0 n1 : Nat} : jc_sa b0 n1 0 = fun _ => none := by
  funext j
  exact if_neg (by omega)
/-- minus ones ahead of i -/
def jc_m1 (i : Nat) : Nat → Int32 := fun j => if j < i then -1 else 0
theorem jc_m1_s {i : Nat} : upd (jc_m1 i) i (-1) = jc_m1 (i + 1) := by
  funext j
  unfold upd jc_m1
  by_cases h : j = i
  · subst h
    rw [if_pos rfl, if_pos (by omega)]
  · rw [if_neg h]
    by_cases h2 : j < i
    · rw [if_pos h2, if_pos (by omega)]
    · rw [if_neg h2, if_neg (by omega)]
theorem jc_m1_0 : jc_m1 0 = fun _ => 0 := by
  funext j
  exact if_neg (by omega)
def jc_ia (w : jx_Wd) (N : Nat) (f : Nat → Int32) : va_E := .inl (jx_ca w 0, N, .inl f)
theorem jc_uc {cf : Nat → va_E} {j k : Nat} {a b : va_E} (h : j ≠ k) : va_up (va_up cf j a) k b = va_up (va_up cf k b) j a := by
  funext q
  unfold va_up
  by_cases h1 : q = k
  · by_cases h2 : q = j
    · exact absurd (h2.symm.trans h1) h
    · rw [if_pos h1, if_neg h2, if_pos h1]
  · rw [if_neg h1]
    by_cases h2 : q = j
    · rw [if_pos h2, if_pos h2]
    · rw [if_neg h2, if_neg h2, if_neg h1]
theorem jc_us {cf : Nat → va_E} {j : Nat} {a : va_E} (h : cf j = a) : va_up cf j a = cf := by
  funext q
  unfold va_up
  by_cases h1 : q = j
  · rw [if_pos h1, h1, h]
  · rw [if_neg h1]

set_option maxRecDepth 100000 in
theorem jc_lSlots {p : Program} {l : Launch} {e : Env} {R : Room} {s : State} {m : MethodId} {args : Array Value} {below : List Frame} {meth : Method} {c : Code} {w : jx_Wd} {b0 : Nat} {Q : State → Prop} (C : jc_Cx p R s m args meth c w cX9_init 2 RX9 b0 3 203 5086) {k n1 pa pk c0 s0 : Nat} {cf : Nat → va_E} {fs : List Value} (hk : k < n1) (hpa : pa < n1) (hpk : pk < n1) (hkp : k ≠ pa) (hkk : k ≠ pk) (hpp : pa ≠ pk) (hcf : cf k = .inr (9, fs)) (hfs : fs[2]? = some (.ref (b0 + pa))) (hfk : fs[3]? = some (.ref (b0 + pk))) (hc0 : c0 + 20 ≤ 203) (hs0 : s0 + 87 * 4 ≤ 5086)
    (kk : jc_Go p l e R s m args below meth c w 2 b0 Q (n1 + 5 * 4) (va_up (va_up (jc_nets w b0 n1 4 cf) pa (jc_rar w 3 4 (jc_na b0 n1 4))) pk (jc_ia w 4 (jc_m1 4))) (c0 + 5 * 4) (s0 + 87 * 4) 74 [(1, .int 4), (0, .ref (b0 + k))] []) :
    ∀ (r i : Nat), i + r = 4 → jc_Go p l e R s m args below meth c w 2 b0 Q (n1 + 5 * i) (va_up (va_up (jc_nets w b0 n1 i cf) pa (jc_rar w 3 4 (jc_na b0 n1 i))) pk (jc_ia w 4 (jc_m1 i))) (c0 + 5 * i) (s0 + 87 * i) 43 [(1, .int (nI i)), (0, .ref (b0 + k))] [] := by
  intro r
  induction r with
  | zero =>
    intro i hi
    have : i = 4 := by omega
    subst this
    exact jc_iload C (by decide +kernel) 0 rfl <| jc_iconst C (i := 4) (v := 4) (by decide +kernel) (by decide +kernel) <| jc_icge C (t := 74) (off := 29) (by decide +kernel) (by decide +kernel) (fun _ => kk) (fun g => absurd (by decide) g)
  | succ r ih =>
    intro i hi
    have hlt : ¬ (4 : Int32) ≤ nI i := nI_ge (b := 4) (by omega) (by decide)
    have hin : vp_in (nI i) 4 := vp_in_nI (by omega) (by decide)
    have hcl : (nI i).toNatClampNeg = i := nI_clamp (by omega)
    refine jc_iload C (by decide +kernel) 0 rfl <| jc_iconst C (i := 4) (v := 4) (by decide +kernel) (by decide +kernel) <| jc_icge C (t := 74) (off := 29) (by decide +kernel) (by decide +kernel) (fun g => absurd g hlt) (fun _ => ?_)
    refine jc_aload C (by decide +kernel) 1 rfl <| jc_get C (ci := 9) (f := 2) (T := TX9) (j := k) (by decide +kernel) rfl jx_in9 wd_303 (by decide) (by omega) ((jc_un hkk).trans ((jc_un hkp).trans ((jc_nets_lo hk).trans hcf))) hfs <| jc_iload C (by decide +kernel) 0 rfl <| ?_
    refine jc_new C (ci := 3) (fs := ([.int 0, .int 0, .int 0, .null, .null, .null, .null] : List Value)) (ty := tyX3) (by decide +kernel) rfl jx_in3 tyX3_ok wc_71 wc_72 wd_50 (by decide +kernel) (by omega) (by omega) <| jc_dup C (by decide +kernel) <| ?_
    refine jc_call C (idx := 11) (by decide +kernel) (ct_Net l w b0 (n1 + 5 * i) (n1 + 5 * i + 1) _ (by omega) jc_ue) (Or.inr ⟨RX9, by decide +kernel⟩) wd_74 wd_75 wd_50 rfl ⟨(by decide +kernel), (by decide +kernel), (by decide +kernel)⟩ (by omega) (by decide) (Nat.le_of_ble_eq_true rfl) (by omega) (by omega) <| ?_
    refine jc_aast C (t := 3) (j := pa) (jv := n1 + 5 * i) (ci := 3) (N := 4) (f := jc_na b0 n1 i) (vs := _) (r := (RX3, TX3, 7)) (by decide +kernel) (by omega) (by omega) ((jc_oNet (by omega) (by omega)).trans ((jc_un (by omega)).trans ((jc_un hpp).trans jc_ue))) rfl (jc_fNet_in (r := 0) (by omega)) rfl hin <| ?_
    rw [hcl, jc_na_s]
    have e1 : va_up (jc_fNet w b0 (n1 + 5 * i) (n1 + 5 * i + 1) (va_up (va_up (va_up (jc_nets w b0 n1 i cf) pa (jc_rar w 3 4 (jc_na b0 n1 i))) pk (jc_ia w 4 (jc_m1 i))) (n1 + 5 * i) (.inr (3, ([.int 0, .int 0, .int 0, .null, .null, .null, .null] : List Value))))) pa (jc_rar w 3 4 (jc_na b0 n1 (i + 1))) = va_up (va_up (jc_nets w b0 n1 (i + 1) cf) pa (jc_rar w 3 4 (jc_na b0 n1 (i + 1)))) pk (jc_ia w 4 (jc_m1 i)) := by
      rw [← jc_nets_up hpa, ← jc_nets_up hpk, jc_nets_s, jc_nets_up hpk, jc_nets_up hpa, jc_uc (Ne.symm hpp), jc_uu]
    rw [e1]
    refine jc_aload C (by decide +kernel) 1 rfl <| jc_get C (ci := 9) (f := 3) (T := TX9) (j := k) (by decide +kernel) rfl jx_in9 wd_304 (by decide) (by omega) ((jc_un hkk).trans ((jc_un hkp).trans ((jc_nets_lo hk).trans hcf))) hfk <| jc_iload C (by decide +kernel) 0 rfl <| jc_iconst C (i := -1) (v := -1) (by decide +kernel) (by decide +kernel) <| ?_
    refine jc_iast C (j := pk) (N := 4) (f := jc_m1 i) (by decide +kernel) (by omega) jc_ue hin <| ?_
    rw [hcl, jc_m1_s, jc_uu]
    refine jc_iinc C (by decide +kernel) 0 rfl (nI_1 i) (by decide) rfl <| jc_goto C (t := 43) (off := -28) (by decide +kernel) (by decide +kernel) <| ?_
    have g := ih (i + 1) (by omega)
    rw [show n1 + 5 * (i + 1) = n1 + 5 * i + 1 + 4 by omega, show c0 + 5 * (i + 1) = c0 + 5 * i + 1 + 4 by omega, show s0 + 87 * (i + 1) = s0 + 87 * i + 7 + 80 by omega] at g
    exact g
set_option maxRecDepth 100000 in
theorem jc_lSheets {p : Program} {l : Launch} {e : Env} {R : Room} {s : State} {m : MethodId} {args : Array Value} {below : List Frame} {meth : Method} {c : Code} {w : jx_Wd} {b0 : Nat} {Q : State → Prop} (C : jc_Cx p R s m args meth c w cX9_init 2 RX9 b0 3 203 5086) {k n1 pa c0 s0 : Nat} {cf : Nat → va_E} {fs : List Value} (hk : k < n1) (hpa : pa < n1) (hkp : k ≠ pa) (hcf : cf k = .inr (9, fs)) (hfs : fs[4]? = some (.ref (b0 + pa))) (hc0 : c0 + 8 ≤ 203) (hs0 : s0 + 27 * 4 ≤ 5086)
    (kk : jc_Go p l e R s m args below meth c w 2 b0 Q (n1 + 2 * 4) (va_up (jc_shs w b0 n1 4 cf) pa (jc_rar w 4 4 (jc_sa b0 n1 4))) (c0 + 2 * 4) (s0 + 27 * 4) 108 [(1, .int 4), (0, .ref (b0 + k))] []) :
    ∀ (r i : Nat), i + r = 4 → jc_Go p l e R s m args below meth c w 2 b0 Q (n1 + 2 * i) (va_up (jc_shs w b0 n1 i cf) pa (jc_rar w 4 4 (jc_sa b0 n1 i))) (c0 + 2 * i) (s0 + 27 * i) 84 [(1, .int (nI i)), (0, .ref (b0 + k))] [] := by
  intro r
  induction r with
  | zero =>
    intro i hi
    have : i = 4 := by omega
    subst this
    exact jc_iload C (by decide +kernel) 0 rfl <| jc_iconst C (i := 4) (v := 4) (by decide +kernel) (by decide +kernel) <| jc_icge C (t := 108) (off := 22) (by decide +kernel) (by decide +kernel) (fun _ => kk) (fun g => absurd (by decide) g)
  | succ r ih =>
    intro i hi
    have hlt : ¬ (4 : Int32) ≤ nI i := nI_ge (b := 4) (by omega) (by decide)
    have hin : vp_in (nI i) 4 := vp_in_nI (by omega) (by decide)
    have hcl : (nI i).toNatClampNeg = i := nI_clamp (by omega)
    refine jc_iload C (by decide +kernel) 0 rfl <| jc_iconst C (i := 4) (v := 4) (by decide +kernel) (by decide +kernel) <| jc_icge C (t := 108) (off := 22) (by decide +kernel) (by decide +kernel) (fun g => absurd g hlt) (fun _ => ?_)
    refine jc_aload C (by decide +kernel) 1 rfl <| jc_get C (ci := 9) (f := 4) (T := TX9) (j := k) (by decide +kernel) rfl jx_in9 wd_305 (by decide) (by omega) ((jc_un hkp).trans ((jc_shs_lo hk).trans hcf)) hfs <| jc_iload C (by decide +kernel) 0 rfl <| ?_
    refine jc_new C (ci := 7) (fs := ([.int 0, .int 0, .null] : List Value)) (ty := tyX7) (by decide +kernel) rfl jx_in7 tyX7_ok wc_139 wc_141 wd_52 (by decide +kernel) (by omega) (by omega) <| jc_dup C (by decide +kernel) <| ?_
    refine jc_call C (idx := 37) (by decide +kernel) (ct_Sheet l w b0 (n1 + 2 * i) (n1 + 2 * i + 1) _ (by omega) jc_ue) (Or.inr ⟨RX9, by decide +kernel⟩) wd_143 wd_144 wd_52 rfl ⟨(by decide +kernel), (by decide +kernel), (by decide +kernel)⟩ (by omega) (by decide) (Nat.le_of_ble_eq_true rfl) (by omega) (by omega) <| ?_
    refine jc_aast C (t := 4) (j := pa) (jv := n1 + 2 * i) (ci := 7) (N := 4) (f := jc_sa b0 n1 i) (vs := _) (r := (RX7, TX7, 3)) (by decide +kernel) (by omega) (by omega) ((jc_oSheet (by omega) (by omega)).trans ((jc_un (by omega)).trans jc_ue)) rfl (jc_fSheet_in (r := 0) (by omega)) rfl hin <| ?_
    rw [hcl, jc_sa_s]
    have e1 : va_up (jc_fSheet w b0 (n1 + 2 * i) (n1 + 2 * i + 1) (va_up (va_up (jc_shs w b0 n1 i cf) pa (jc_rar w 4 4 (jc_sa b0 n1 i))) (n1 + 2 * i) (.inr (7, ([.int 0, .int 0, .null] : List Value))))) pa (jc_rar w 4 4 (jc_sa b0 n1 (i + 1))) = va_up (jc_shs w b0 n1 (i + 1) cf) pa (jc_rar w 4 4 (jc_sa b0 n1 (i + 1))) := by
      rw [← jc_shs_up hpa, jc_shs_s, jc_shs_up hpa, jc_uu]
    rw [e1]
    refine jc_iinc C (by decide +kernel) 0 rfl (nI_1 i) (by decide) rfl <| jc_goto C (t := 84) (off := -21) (by decide +kernel) (by decide +kernel) <| ?_
    have g := ih (i + 1) (by omega)
    rw [show n1 + 2 * (i + 1) = n1 + 2 * i + 1 + 1 by omega, show c0 + 2 * (i + 1) = c0 + 2 * i + 1 + 1 by omega, show s0 + 27 * (i + 1) = s0 + 27 * i + 3 + 24 by omega] at g
    exact g
def jc_s1 (w : jx_Wd) (b0 k n : Nat) (cf : Nat → va_E) : Nat → va_E := va_up (jc_fNet w b0 (n + 0) (n + 1) (va_up cf (n + 0) (.inr (3, ([.int 0, .int 0, .int 0, .null, .null, .null, .null] : List Value))))) k (.inr (9, ([.ref (b0 + (n + 0)), .null, .null, .null, .null, .null, .int 0, .int 0, .null, .null, .null, .null, .null, .null] : List Value)))
def jc_s2 (w : jx_Wd) (b0 k n : Nat) (cf : Nat → va_E) : Nat → va_E := va_up (jc_fPast w b0 (n + 5) (n + 6) (va_up (jc_s1 w b0 k n cf) (n + 5) (.inr (5, ([.null, .int 0, .int 0] : List Value))))) k (.inr (9, ([.ref (b0 + (n + 0)), .ref (b0 + (n + 5)), .null, .null, .null, .null, .int 0, .int 0, .null, .null, .null, .null, .null, .null] : List Value)))
def jc_s3 (w : jx_Wd) (b0 k n : Nat) (cf : Nat → va_E) : Nat → va_E := va_up (va_up (jc_s2 w b0 k n cf) (n + 157) (jc_rar w 3 4 (fun _ => none))) k (.inr (9, ([.ref (b0 + (n + 0)), .ref (b0 + (n + 5)), .ref (b0 + (n + 157)), .null, .null, .null, .int 0, .int 0, .null, .null, .null, .null, .null, .null] : List Value)))
def jc_s4 (w : jx_Wd) (b0 k n : Nat) (cf : Nat → va_E) : Nat → va_E := va_up (va_up (jc_s3 w b0 k n cf) (n + 158) (jc_arr w 0 4)) k (.inr (9, ([.ref (b0 + (n + 0)), .ref (b0 + (n + 5)), .ref (b0 + (n + 157)), .ref (b0 + (n + 158)), .null, .null, .int 0, .int 0, .null, .null, .null, .null, .null, .null] : List Value)))
def jc_s5 (w : jx_Wd) (b0 k n : Nat) (cf : Nat → va_E) : Nat → va_E := va_up (va_up (jc_nets w b0 (n + 159) 4 (jc_s4 w b0 k n cf)) (n + 157) (jc_rar w 3 4 (jc_na b0 (n + 159) 4))) (n + 158) (jc_ia w 4 (jc_m1 4))
def jc_s6 (w : jx_Wd) (b0 k n : Nat) (cf : Nat → va_E) : Nat → va_E := va_up (va_up (jc_s5 w b0 k n cf) (n + 179) (jc_rar w 4 4 (fun _ => none))) k (.inr (9, ([.ref (b0 + (n + 0)), .ref (b0 + (n + 5)), .ref (b0 + (n + 157)), .ref (b0 + (n + 158)), .ref (b0 + (n + 179)), .null, .int 0, .int 0, .null, .null, .null, .null, .null, .null] : List Value)))
def jc_s7 (w : jx_Wd) (b0 k n : Nat) (cf : Nat → va_E) : Nat → va_E := va_up (jc_shs w b0 (n + 180) 4 (jc_s6 w b0 k n cf)) (n + 179) (jc_rar w 4 4 (jc_sa b0 (n + 180) 4))
def jc_s8 (w : jx_Wd) (b0 k n : Nat) (cf : Nat → va_E) : Nat → va_E := va_up (va_up (jc_s7 w b0 k n cf) (n + 188) (jc_arr w 0 60)) k (.inr (9, ([.ref (b0 + (n + 0)), .ref (b0 + (n + 5)), .ref (b0 + (n + 157)), .ref (b0 + (n + 158)), .ref (b0 + (n + 179)), .ref (b0 + (n + 188)), .int 0, .int 0, .null, .null, .null, .null, .null, .null] : List Value)))
def jc_s9 (w : jx_Wd) (b0 k n : Nat) (cf : Nat → va_E) : Nat → va_E := va_up (jc_fPlan w b0 (n + 189) (n + 190) (va_up (jc_s8 w b0 k n cf) (n + 189) (.inr (6, ([.int 0, .int 0, .int 0, .int 0, .int 0, .int 0, .int 0, .null, .null, .null, .null] : List Value))))) k (.inr (9, ([.ref (b0 + (n + 0)), .ref (b0 + (n + 5)), .ref (b0 + (n + 157)), .ref (b0 + (n + 158)), .ref (b0 + (n + 179)), .ref (b0 + (n + 188)), .int 0, .int 0, .ref (b0 + (n + 189)), .null, .null, .null, .null, .null] : List Value)))
def jc_s10 (w : jx_Wd) (b0 k n : Nat) (cf : Nat → va_E) : Nat → va_E := va_up (jc_fHard w b0 (n + 194) (n + 195) (va_up (jc_s9 w b0 k n cf) (n + 194) (.inr (2, ([.null] : List Value))))) k (.inr (9, ([.ref (b0 + (n + 0)), .ref (b0 + (n + 5)), .ref (b0 + (n + 157)), .ref (b0 + (n + 158)), .ref (b0 + (n + 179)), .ref (b0 + (n + 188)), .int 0, .int 0, .ref (b0 + (n + 189)), .ref (b0 + (n + 194)), .null, .null, .null, .null] : List Value)))
def jc_s11 (w : jx_Wd) (b0 k n : Nat) (cf : Nat → va_E) : Nat → va_E := va_up (jc_fCheap w b0 (n + 196) (n + 197) (va_up (jc_s10 w b0 k n cf) (n + 196) (.inr (1, ([.null, .null, .int 0, .int 0, .int 0] : List Value))))) k (.inr (9, ([.ref (b0 + (n + 0)), .ref (b0 + (n + 5)), .ref (b0 + (n + 157)), .ref (b0 + (n + 158)), .ref (b0 + (n + 179)), .ref (b0 + (n + 188)), .int 0, .int 0, .ref (b0 + (n + 189)), .ref (b0 + (n + 194)), .ref (b0 + (n + 196)), .null, .null, .null] : List Value)))
def jc_s12 (w : jx_Wd) (b0 k n : Nat) (cf : Nat → va_E) : Nat → va_E := va_up (jc_fPack w b0 (n + 197) (n + 198) (va_up (jc_s11 w b0 k n cf) (n + 197) (.inr (4, ([.null, .int 0, .null, .null] : List Value))))) k (.inr (9, ([.ref (b0 + (n + 0)), .ref (b0 + (n + 5)), .ref (b0 + (n + 157)), .ref (b0 + (n + 158)), .ref (b0 + (n + 179)), .ref (b0 + (n + 188)), .int 0, .int 0, .ref (b0 + (n + 189)), .ref (b0 + (n + 194)), .ref (b0 + (n + 196)), .ref (b0 + (n + 197)), .null, .null] : List Value)))
def jc_s13 (w : jx_Wd) (b0 k n : Nat) (cf : Nat → va_E) : Nat → va_E := va_up (jc_fWalk w b0 (n + 200) (n + 201) (va_up (jc_s12 w b0 k n cf) (n + 200) (.inr (8, ([.null, .int 0, .int 0, .int 0] : List Value))))) k (.inr (9, ([.ref (b0 + (n + 0)), .ref (b0 + (n + 5)), .ref (b0 + (n + 157)), .ref (b0 + (n + 158)), .ref (b0 + (n + 179)), .ref (b0 + (n + 188)), .int 0, .int 0, .ref (b0 + (n + 189)), .ref (b0 + (n + 194)), .ref (b0 + (n + 196)), .ref (b0 + (n + 197)), .ref (b0 + (n + 200)), .null] : List Value)))
def jc_s14 (w : jx_Wd) (b0 k n : Nat) (cf : Nat → va_E) : Nat → va_E := va_up (jc_fChan w b0 (n + 201) (n + 202) (va_up (jc_s13 w b0 k n cf) (n + 201) (.inr (0, ([.null, .null, .null] : List Value))))) k (.inr (9, ([.ref (b0 + (n + 0)), .ref (b0 + (n + 5)), .ref (b0 + (n + 157)), .ref (b0 + (n + 158)), .ref (b0 + (n + 179)), .ref (b0 + (n + 188)), .int 0, .int 0, .ref (b0 + (n + 189)), .ref (b0 + (n + 194)), .ref (b0 + (n + 196)), .ref (b0 + (n + 197)), .ref (b0 + (n + 200)), .ref (b0 + (n + 201))] : List Value)))
set_option maxRecDepth 100000 in
theorem ct_RB (l : Launch) (w : jx_Wd) (b0 k n : Nat) (cf : Nat → va_E) (hkn : k < n) (hk : cf k = .inr (9, ([.null, .null, .null, .null, .null, .null, .int 0, .int 0, .null, .null, .null, .null, .null, .null] : List Value))) : jc_MT l w b0 yX9_init cX9_init 2 4 203 5086 k n cf (n + 203) (jc_s14 w b0 k n cf) := by
  refine jc_met (by decide +kernel) rfl (by decide) fun p e R s m args below meth c C => ?_
  have h4 : jc_s4 w b0 k n cf k = .inr (9, ([.ref (b0 + (n + 0)), .ref (b0 + (n + 5)), .ref (b0 + (n + 157)), .ref (b0 + (n + 158)), .null, .null, .int 0, .int 0, .null, .null, .null, .null, .null, .null] : List Value)) := jc_ue
  have h5 : jc_s5 w b0 k n cf k = .inr (9, ([.ref (b0 + (n + 0)), .ref (b0 + (n + 5)), .ref (b0 + (n + 157)), .ref (b0 + (n + 158)), .null, .null, .int 0, .int 0, .null, .null, .null, .null, .null, .null] : List Value)) := (jc_un (by omega)).trans ((jc_un (by omega)).trans ((jc_nets_lo (by omega)).trans h4))
  have h6 : jc_s6 w b0 k n cf k = .inr (9, ([.ref (b0 + (n + 0)), .ref (b0 + (n + 5)), .ref (b0 + (n + 157)), .ref (b0 + (n + 158)), .ref (b0 + (n + 179)), .null, .int 0, .int 0, .null, .null, .null, .null, .null, .null] : List Value)) := jc_ue
  have h7 : jc_s7 w b0 k n cf k = .inr (9, ([.ref (b0 + (n + 0)), .ref (b0 + (n + 5)), .ref (b0 + (n + 157)), .ref (b0 + (n + 158)), .ref (b0 + (n + 179)), .null, .int 0, .int 0, .null, .null, .null, .null, .null, .null] : List Value)) := (jc_un (by omega)).trans ((jc_shs_lo (by omega)).trans h6)
  have gC : jc_Go p l e R s m args below meth c w 2 b0 (MQ below (jc_Po w b0 (n + 203) (jc_s14 w b0 k n cf)) args s 203 5086 (fun q => b0 ≤ q)) (n + 180 + 2 * 4) (jc_s7 w b0 k n cf) (180 + 2 * 4) (3090 + 27 * 4) 108 [(1, .int 4), (0, .ref (b0 + k))] [] :=
    jc_aload C (by decide +kernel) 1 rfl <|
    jc_bipush C (i := 60) (v := 60) (by decide +kernel) (by decide +kernel) <|
    jc_newa C (atype := .int) (t := 0) (N := 60) (by decide +kernel) wc_int rfl (fun z => z) ⟨_, rfl, fun _ => rfl⟩ (by decide +kernel) (by decide +kernel) (by decide +kernel) (by omega) (by omega) <|
    jc_putF C (fs := ([.ref (b0 + (n + 0)), .ref (b0 + (n + 5)), .ref (b0 + (n + 157)), .ref (b0 + (n + 158)), .ref (b0 + (n + 179)), .null, .int 0, .int 0, .null, .null, .null, .null, .null, .null] : List Value)) (ci := 9) (f := 5) (T := TX9) (j := k) (by decide +kernel) rfl jx_in9 tyX9_ok nmX9 wd_306 rfl rfl rfl rfl (by decide) (Nat.le_of_ble_eq_true rfl) (by omega) ((jc_un (by omega)).trans h7) <|
    jc_aload C (by decide +kernel) 1 rfl <|
    jc_new C (ci := 6) (fs := ([.int 0, .int 0, .int 0, .int 0, .int 0, .int 0, .int 0, .null, .null, .null, .null] : List Value)) (ty := tyX6) (by decide +kernel) rfl jx_in6 tyX6_ok wc_159 wc_160 wd_53 (by decide +kernel) (by omega) (by omega) <|
    jc_dup C (by decide +kernel) <|
    jc_call C (idx := 43) (by decide +kernel) (ct_Plan l w b0 (n + 189) (n + 190) _ (by omega) jc_ue) (Or.inr ⟨RX9, by decide +kernel⟩) wd_162 wd_163 wd_53 rfl ⟨(by decide +kernel), (by decide +kernel), (by decide +kernel)⟩ (by omega) (by decide) (Nat.le_of_ble_eq_true rfl) (by omega) (by omega) <|
    jc_putF C (fs := ([.ref (b0 + (n + 0)), .ref (b0 + (n + 5)), .ref (b0 + (n + 157)), .ref (b0 + (n + 158)), .ref (b0 + (n + 179)), .ref (b0 + (n + 188)), .int 0, .int 0, .null, .null, .null, .null, .null, .null] : List Value)) (ci := 9) (f := 8) (T := TX9) (j := k) (by decide +kernel) rfl jx_in9 tyX9_ok nmX9 wd_309 rfl rfl rfl rfl (by decide) (Nat.le_of_ble_eq_true rfl) (by omega) ((jc_oPlan (by omega) (by omega)).trans ((jc_un (by omega)).trans jc_ue)) <|
    jc_aload C (by decide +kernel) 1 rfl <|
    jc_new C (ci := 2) (fs := ([.null] : List Value)) (ty := tyX2) (by decide +kernel) rfl jx_in2 tyX2_ok wc_214 wc_215 wd_54 (by decide +kernel) (by omega) (by omega) <|
    jc_dup C (by decide +kernel) <|
    jc_call C (idx := 50) (by decide +kernel) (ct_Hard l w b0 (n + 194) (n + 195) _ (by omega) jc_ue) (Or.inr ⟨RX9, by decide +kernel⟩) wd_217 wd_218 wd_54 rfl ⟨(by decide +kernel), (by decide +kernel), (by decide +kernel)⟩ (by omega) (by decide) (Nat.le_of_ble_eq_true rfl) (by omega) (by omega) <|
    jc_putF C (fs := ([.ref (b0 + (n + 0)), .ref (b0 + (n + 5)), .ref (b0 + (n + 157)), .ref (b0 + (n + 158)), .ref (b0 + (n + 179)), .ref (b0 + (n + 188)), .int 0, .int 0, .ref (b0 + (n + 189)), .null, .null, .null, .null, .null] : List Value)) (ci := 9) (f := 9) (T := TX9) (j := k) (by decide +kernel) rfl jx_in9 tyX9_ok nmX9 wd_310 rfl rfl rfl rfl (by decide) (Nat.le_of_ble_eq_true rfl) (by omega) ((jc_oHard (by omega) (by omega)).trans ((jc_un (by omega)).trans jc_ue)) <|
    jc_aload C (by decide +kernel) 1 rfl <|
    jc_new C (ci := 1) (fs := ([.null, .null, .int 0, .int 0, .int 0] : List Value)) (ty := tyX1) (by decide +kernel) rfl jx_in1 tyX1_ok wc_224 wc_225 wd_55 (by decide +kernel) (by omega) (by omega) <|
    jc_dup C (by decide +kernel) <|
    jc_call C (idx := 57) (by decide +kernel) (ct_Cheap l w b0 (n + 196) (n + 197) _ (by omega) jc_ue) (Or.inr ⟨RX9, by decide +kernel⟩) wd_227 wd_228 wd_55 rfl ⟨(by decide +kernel), (by decide +kernel), (by decide +kernel)⟩ (by omega) (by decide) (Nat.le_of_ble_eq_true rfl) (by omega) (by omega) <|
    jc_putF C (fs := ([.ref (b0 + (n + 0)), .ref (b0 + (n + 5)), .ref (b0 + (n + 157)), .ref (b0 + (n + 158)), .ref (b0 + (n + 179)), .ref (b0 + (n + 188)), .int 0, .int 0, .ref (b0 + (n + 189)), .ref (b0 + (n + 194)), .null, .null, .null, .null] : List Value)) (ci := 9) (f := 10) (T := TX9) (j := k) (by decide +kernel) rfl jx_in9 tyX9_ok nmX9 wd_311 rfl rfl rfl rfl (by decide) (Nat.le_of_ble_eq_true rfl) (by omega) ((jc_oCheap (by omega) (by omega)).trans ((jc_un (by omega)).trans jc_ue)) <|
    jc_aload C (by decide +kernel) 1 rfl <|
    jc_new C (ci := 4) (fs := ([.null, .int 0, .null, .null] : List Value)) (ty := tyX4) (by decide +kernel) rfl jx_in4 tyX4_ok wc_246 wc_247 wd_56 (by decide +kernel) (by omega) (by omega) <|
    jc_dup C (by decide +kernel) <|
    jc_call C (idx := 64) (by decide +kernel) (ct_Pack l w b0 (n + 197) (n + 198) _ (by omega) jc_ue) (Or.inr ⟨RX9, by decide +kernel⟩) wd_249 wd_250 wd_56 rfl ⟨(by decide +kernel), (by decide +kernel), (by decide +kernel)⟩ (by omega) (by decide) (Nat.le_of_ble_eq_true rfl) (by omega) (by omega) <|
    jc_putF C (fs := ([.ref (b0 + (n + 0)), .ref (b0 + (n + 5)), .ref (b0 + (n + 157)), .ref (b0 + (n + 158)), .ref (b0 + (n + 179)), .ref (b0 + (n + 188)), .int 0, .int 0, .ref (b0 + (n + 189)), .ref (b0 + (n + 194)), .ref (b0 + (n + 196)), .null, .null, .null] : List Value)) (ci := 9) (f := 11) (T := TX9) (j := k) (by decide +kernel) rfl jx_in9 tyX9_ok nmX9 wd_312 rfl rfl rfl rfl (by decide) (Nat.le_of_ble_eq_true rfl) (by omega) ((jc_oPack (by omega) (by omega)).trans ((jc_un (by omega)).trans jc_ue)) <|
    jc_aload C (by decide +kernel) 1 rfl <|
    jc_new C (ci := 8) (fs := ([.null, .int 0, .int 0, .int 0] : List Value)) (ty := tyX8) (by decide +kernel) rfl jx_in8 tyX8_ok wc_266 wc_267 wd_57 (by decide +kernel) (by omega) (by omega) <|
    jc_dup C (by decide +kernel) <|
    jc_call C (idx := 71) (by decide +kernel) (ct_Walk l w b0 (n + 200) (n + 201) _ (by omega) jc_ue) (Or.inr ⟨RX9, by decide +kernel⟩) wd_269 wd_270 wd_57 rfl ⟨(by decide +kernel), (by decide +kernel), (by decide +kernel)⟩ (by omega) (by decide) (Nat.le_of_ble_eq_true rfl) (by omega) (by omega) <|
    jc_putF C (fs := ([.ref (b0 + (n + 0)), .ref (b0 + (n + 5)), .ref (b0 + (n + 157)), .ref (b0 + (n + 158)), .ref (b0 + (n + 179)), .ref (b0 + (n + 188)), .int 0, .int 0, .ref (b0 + (n + 189)), .ref (b0 + (n + 194)), .ref (b0 + (n + 196)), .ref (b0 + (n + 197)), .null, .null] : List Value)) (ci := 9) (f := 12) (T := TX9) (j := k) (by decide +kernel) rfl jx_in9 tyX9_ok nmX9 wd_313 rfl rfl rfl rfl (by decide) (Nat.le_of_ble_eq_true rfl) (by omega) ((jc_oWalk (by omega) (by omega)).trans ((jc_un (by omega)).trans jc_ue)) <|
    jc_aload C (by decide +kernel) 1 rfl <|
    jc_new C (ci := 0) (fs := ([.null, .null, .null] : List Value)) (ty := tyX0) (by decide +kernel) rfl jx_in0 tyX0_ok wc_285 wc_286 wd_58 (by decide +kernel) (by omega) (by omega) <|
    jc_dup C (by decide +kernel) <|
    jc_call C (idx := 78) (by decide +kernel) (ct_Chan l w b0 (n + 201) (n + 202) _ (by omega) jc_ue) (Or.inr ⟨RX9, by decide +kernel⟩) wd_288 wd_289 wd_58 rfl ⟨(by decide +kernel), (by decide +kernel), (by decide +kernel)⟩ (by omega) (by decide) (Nat.le_of_ble_eq_true rfl) (by omega) (by omega) <|
    jc_putF C (fs := ([.ref (b0 + (n + 0)), .ref (b0 + (n + 5)), .ref (b0 + (n + 157)), .ref (b0 + (n + 158)), .ref (b0 + (n + 179)), .ref (b0 + (n + 188)), .int 0, .int 0, .ref (b0 + (n + 189)), .ref (b0 + (n + 194)), .ref (b0 + (n + 196)), .ref (b0 + (n + 197)), .ref (b0 + (n + 200)), .null] : List Value)) (ci := 9) (f := 13) (T := TX9) (j := k) (by decide +kernel) rfl jx_in9 tyX9_ok nmX9 wd_314 rfl rfl rfl rfl (by decide) (Nat.le_of_ble_eq_true rfl) (by omega) ((jc_oChan (by omega) (by omega)).trans ((jc_un (by omega)).trans jc_ue)) <|
    jc_ret C (by decide +kernel)
  have g2 := jc_lSheets (l := l) (e := e) (below := below) C (k := k) (n1 := n + 180) (pa := n + 179) (c0 := 180) (s0 := 3090) (cf := jc_s6 w b0 k n cf) (by omega) (by omega) (by omega) h6 rfl (by decide) (by decide) gC 4 0 rfl
  rw [jc_shs_0, jc_sa_0, jc_us (cf := jc_s6 w b0 k n cf) (j := n + 179) ((jc_un (by omega)).trans jc_ue)] at g2
  have gB : jc_Go p l e R s m args below meth c w 2 b0 (MQ below (jc_Po w b0 (n + 203) (jc_s14 w b0 k n cf)) args s 203 5086 (fun q => b0 ≤ q)) (n + 159 + 5 * 4) (jc_s5 w b0 k n cf) (159 + 5 * 4) (2738 + 87 * 4) 74 [(1, .int 4), (0, .ref (b0 + k))] [] :=
    jc_aload C (by decide +kernel) 1 rfl <|
    jc_iconst C (i := 4) (v := 4) (by decide +kernel) (by decide +kernel) <|
    jc_newq C (t := 4) (N := 4) (by decide +kernel) wc_139 C.2.2.2.2.2.1.2.2.2 rfl (by decide +kernel) (by decide +kernel) (by decide +kernel) (by omega) (by omega) <|
    jc_putF C (fs := ([.ref (b0 + (n + 0)), .ref (b0 + (n + 5)), .ref (b0 + (n + 157)), .ref (b0 + (n + 158)), .null, .null, .int 0, .int 0, .null, .null, .null, .null, .null, .null] : List Value)) (ci := 9) (f := 4) (T := TX9) (j := k) (by decide +kernel) rfl jx_in9 tyX9_ok nmX9 wd_305 rfl rfl rfl rfl (by decide) (Nat.le_of_ble_eq_true rfl) (by omega) ((jc_un (by omega)).trans h5) <|
    jc_iconst C (i := 0) (v := 0) (by decide +kernel) (by decide +kernel) <|
    jc_istore C (by decide +kernel) (by decide) rfl <| g2
  have g1 := jc_lSlots (l := l) (e := e) (below := below) C (k := k) (n1 := n + 159) (pa := n + 157) (pk := n + 158) (c0 := 159) (s0 := 2738) (cf := jc_s4 w b0 k n cf) (by omega) (by omega) (by omega) (by omega) (by omega) (by omega) h4 rfl rfl (by decide) (by decide) gB 4 0 rfl
  rw [jc_nets_0, jc_na_0, jc_m1_0, jc_us (cf := jc_s4 w b0 k n cf) (j := n + 157) ((jc_un (by omega)).trans ((jc_un (by omega)).trans ((jc_un (by omega)).trans jc_ue))), jc_us (cf := jc_s4 w b0 k n cf) (j := n + 158) (a := jc_ia w 4 (fun _ => 0)) ((jc_un (by omega)).trans jc_ue)] at g1
  exact jc_aload C (by decide +kernel) 0 rfl <|
    jc_obj C (by decide +kernel) wd_68 wd_69 wc_obj (Nat.le_of_ble_eq_true rfl) <|
    jc_aload C (by decide +kernel) 0 rfl <|
    jc_new C (ci := 3) (fs := ([.int 0, .int 0, .int 0, .null, .null, .null, .null] : List Value)) (ty := tyX3) (by decide +kernel) rfl jx_in3 tyX3_ok wc_71 wc_72 wd_50 (by decide +kernel) (by omega) (by omega) <|
    jc_dup C (by decide +kernel) <|
    jc_call C (idx := 11) (by decide +kernel) (ct_Net l w b0 (n + 0) (n + 1) _ (by omega) jc_ue) (Or.inr ⟨RX9, by decide +kernel⟩) wd_74 wd_75 wd_50 rfl ⟨(by decide +kernel), (by decide +kernel), (by decide +kernel)⟩ (by omega) (by decide) (Nat.le_of_ble_eq_true rfl) (by omega) (by omega) <|
    jc_putF C (fs := ([.null, .null, .null, .null, .null, .null, .int 0, .int 0, .null, .null, .null, .null, .null, .null] : List Value)) (ci := 9) (f := 0) (T := TX9) (j := k) (by decide +kernel) rfl jx_in9 tyX9_ok nmX9 wd_301 rfl rfl rfl rfl (by decide) (Nat.le_of_ble_eq_true rfl) (by omega) ((jc_oNet (by omega) (by omega)).trans ((jc_un (by omega)).trans hk)) <|
    jc_aload C (by decide +kernel) 0 rfl <|
    jc_new C (ci := 5) (fs := ([.null, .int 0, .int 0] : List Value)) (ty := tyX5) (by decide +kernel) rfl jx_in5 tyX5_ok wc_119 wc_120 wd_51 (by decide +kernel) (by omega) (by omega) <|
    jc_dup C (by decide +kernel) <|
    jc_call C (idx := 18) (by decide +kernel) (ct_Past l w b0 (n + 5) (n + 6) _ (by omega) jc_ue) (Or.inl wd_121) wd_122 wd_123 wd_51 rfl ⟨(by decide +kernel), (by decide +kernel), (by decide +kernel)⟩ (by omega) (by decide) (Nat.le_of_ble_eq_true rfl) (by omega) (by omega) <|
    jc_putF C (fs := ([.ref (b0 + (n + 0)), .null, .null, .null, .null, .null, .int 0, .int 0, .null, .null, .null, .null, .null, .null] : List Value)) (ci := 9) (f := 1) (T := TX9) (j := k) (by decide +kernel) rfl jx_in9 tyX9_ok nmX9 wd_302 rfl rfl rfl rfl (by decide) (Nat.le_of_ble_eq_true rfl) (by omega) ((jc_oPast (by omega) (by omega)).trans ((jc_un (by omega)).trans jc_ue)) <|
    jc_aload C (by decide +kernel) 0 rfl <|
    jc_iconst C (i := 4) (v := 4) (by decide +kernel) (by decide +kernel) <|
    jc_newq C (t := 3) (N := 4) (by decide +kernel) wc_71 C.2.2.2.2.2.1.2.2.1 rfl (by decide +kernel) (by decide +kernel) (by decide +kernel) (by omega) (by omega) <|
    jc_putF C (fs := ([.ref (b0 + (n + 0)), .ref (b0 + (n + 5)), .null, .null, .null, .null, .int 0, .int 0, .null, .null, .null, .null, .null, .null] : List Value)) (ci := 9) (f := 2) (T := TX9) (j := k) (by decide +kernel) rfl jx_in9 tyX9_ok nmX9 wd_303 rfl rfl rfl rfl (by decide) (Nat.le_of_ble_eq_true rfl) (by omega) ((jc_un (by omega)).trans jc_ue) <|
    jc_aload C (by decide +kernel) 0 rfl <|
    jc_iconst C (i := 4) (v := 4) (by decide +kernel) (by decide +kernel) <|
    jc_newa C (atype := .int) (t := 0) (N := 4) (by decide +kernel) wc_int rfl (fun z => z) ⟨_, rfl, fun _ => rfl⟩ (by decide +kernel) (by decide +kernel) (by decide +kernel) (by omega) (by omega) <|
    jc_putF C (fs := ([.ref (b0 + (n + 0)), .ref (b0 + (n + 5)), .ref (b0 + (n + 157)), .null, .null, .null, .int 0, .int 0, .null, .null, .null, .null, .null, .null] : List Value)) (ci := 9) (f := 3) (T := TX9) (j := k) (by decide +kernel) rfl jx_in9 tyX9_ok nmX9 wd_304 rfl rfl rfl rfl (by decide) (Nat.le_of_ble_eq_true rfl) (by omega) ((jc_un (by omega)).trans jc_ue) <|
    jc_iconst C (i := 0) (v := 0) (by decide +kernel) (by decide +kernel) <|
    jc_istore C (by decide +kernel) (by decide) rfl <| g1
def jc_t1 (w : jx_Wd) (b0 k n : Nat) (cf : Nat → va_E) : Nat → va_E := va_up (va_up cf (n + 0) (jc_arr w 0 50)) k (.inr (10, ([.int 0, .int 0, .int 0, .ref (b0 + (n + 0)), .null, .null, .null, .int 0, .null, .null, .null, .null, .null, .null, .int 0, .null, .int 0, .null, .null, .null, .null, .null, .null, .null] : List Value)))
def jc_t2 (w : jx_Wd) (b0 k n : Nat) (cf : Nat → va_E) : Nat → va_E := va_up (va_up (jc_t1 w b0 k n cf) (n + 1) (jc_arr w 0 50)) k (.inr (10, ([.int 0, .int 0, .int 0, .ref (b0 + (n + 0)), .ref (b0 + (n + 1)), .null, .null, .int 0, .null, .null, .null, .null, .null, .null, .int 0, .null, .int 0, .null, .null, .null, .null, .null, .null, .null] : List Value)))
def jc_t3 (w : jx_Wd) (b0 k n : Nat) (cf : Nat → va_E) : Nat → va_E := va_up (va_up (jc_t2 w b0 k n cf) (n + 2) (jc_arr w 0 20)) k (.inr (10, ([.int 0, .int 0, .int 0, .ref (b0 + (n + 0)), .ref (b0 + (n + 1)), .ref (b0 + (n + 2)), .null, .int 0, .null, .null, .null, .null, .null, .null, .int 0, .null, .int 0, .null, .null, .null, .null, .null, .null, .null] : List Value)))
def jc_t4 (w : jx_Wd) (b0 k n : Nat) (cf : Nat → va_E) : Nat → va_E := va_up (va_up (jc_t3 w b0 k n cf) (n + 3) (jc_arr w 0 20)) k (.inr (10, ([.int 0, .int 0, .int 0, .ref (b0 + (n + 0)), .ref (b0 + (n + 1)), .ref (b0 + (n + 2)), .ref (b0 + (n + 3)), .int 0, .null, .null, .null, .null, .null, .null, .int 0, .null, .int 0, .null, .null, .null, .null, .null, .null, .null] : List Value)))
def jc_t5 (w : jx_Wd) (b0 k n : Nat) (cf : Nat → va_E) : Nat → va_E := va_up (va_up (jc_t4 w b0 k n cf) (n + 4) (jc_arr w 0 2520)) k (.inr (10, ([.int 0, .int 0, .int 0, .ref (b0 + (n + 0)), .ref (b0 + (n + 1)), .ref (b0 + (n + 2)), .ref (b0 + (n + 3)), .int 0, .ref (b0 + (n + 4)), .null, .null, .null, .null, .null, .int 0, .null, .int 0, .null, .null, .null, .null, .null, .null, .null] : List Value)))
def jc_t6 (w : jx_Wd) (b0 k n : Nat) (cf : Nat → va_E) : Nat → va_E := va_up (va_up (jc_t5 w b0 k n cf) (n + 5) (jc_arr w 0 336)) k (.inr (10, ([.int 0, .int 0, .int 0, .ref (b0 + (n + 0)), .ref (b0 + (n + 1)), .ref (b0 + (n + 2)), .ref (b0 + (n + 3)), .int 0, .ref (b0 + (n + 4)), .ref (b0 + (n + 5)), .null, .null, .null, .null, .int 0, .null, .int 0, .null, .null, .null, .null, .null, .null, .null] : List Value)))
def jc_t7 (w : jx_Wd) (b0 k n : Nat) (cf : Nat → va_E) : Nat → va_E := va_up (va_up (jc_t6 w b0 k n cf) (n + 6) (jc_arr w 0 4)) k (.inr (10, ([.int 0, .int 0, .int 0, .ref (b0 + (n + 0)), .ref (b0 + (n + 1)), .ref (b0 + (n + 2)), .ref (b0 + (n + 3)), .int 0, .ref (b0 + (n + 4)), .ref (b0 + (n + 5)), .ref (b0 + (n + 6)), .null, .null, .null, .int 0, .null, .int 0, .null, .null, .null, .null, .null, .null, .null] : List Value)))
def jc_t8 (w : jx_Wd) (b0 k n : Nat) (cf : Nat → va_E) : Nat → va_E := va_up (va_up (jc_t7 w b0 k n cf) (n + 7) (jc_arr w 0 4)) k (.inr (10, ([.int 0, .int 0, .int 0, .ref (b0 + (n + 0)), .ref (b0 + (n + 1)), .ref (b0 + (n + 2)), .ref (b0 + (n + 3)), .int 0, .ref (b0 + (n + 4)), .ref (b0 + (n + 5)), .ref (b0 + (n + 6)), .ref (b0 + (n + 7)), .null, .null, .int 0, .null, .int 0, .null, .null, .null, .null, .null, .null, .null] : List Value)))
def jc_t9 (w : jx_Wd) (b0 k n : Nat) (cf : Nat → va_E) : Nat → va_E := va_up (va_up (jc_t8 w b0 k n cf) (n + 8) (jc_arr w 0 4)) k (.inr (10, ([.int 0, .int 0, .int 0, .ref (b0 + (n + 0)), .ref (b0 + (n + 1)), .ref (b0 + (n + 2)), .ref (b0 + (n + 3)), .int 0, .ref (b0 + (n + 4)), .ref (b0 + (n + 5)), .ref (b0 + (n + 6)), .ref (b0 + (n + 7)), .ref (b0 + (n + 8)), .null, .int 0, .null, .int 0, .null, .null, .null, .null, .null, .null, .null] : List Value)))
def jc_t10 (w : jx_Wd) (b0 k n : Nat) (cf : Nat → va_E) : Nat → va_E := va_up (va_up (jc_t9 w b0 k n cf) (n + 9) (jc_arr w 0 96)) k (.inr (10, ([.int 0, .int 0, .int 0, .ref (b0 + (n + 0)), .ref (b0 + (n + 1)), .ref (b0 + (n + 2)), .ref (b0 + (n + 3)), .int 0, .ref (b0 + (n + 4)), .ref (b0 + (n + 5)), .ref (b0 + (n + 6)), .ref (b0 + (n + 7)), .ref (b0 + (n + 8)), .ref (b0 + (n + 9)), .int 0, .null, .int 0, .null, .null, .null, .null, .null, .null, .null] : List Value)))
def jc_t11 (w : jx_Wd) (b0 k n : Nat) (cf : Nat → va_E) : Nat → va_E := va_up (va_up (jc_t10 w b0 k n cf) (n + 10) (jc_arr w 0 60)) k (.inr (10, ([.int 0, .int 0, .int 0, .ref (b0 + (n + 0)), .ref (b0 + (n + 1)), .ref (b0 + (n + 2)), .ref (b0 + (n + 3)), .int 0, .ref (b0 + (n + 4)), .ref (b0 + (n + 5)), .ref (b0 + (n + 6)), .ref (b0 + (n + 7)), .ref (b0 + (n + 8)), .ref (b0 + (n + 9)), .int 0, .ref (b0 + (n + 10)), .int 0, .null, .null, .null, .null, .null, .null, .null] : List Value)))
def jc_t12 (w : jx_Wd) (b0 k n : Nat) (cf : Nat → va_E) : Nat → va_E := va_up (va_up (jc_t11 w b0 k n cf) (n + 11) (jc_arr w 0 24)) k (.inr (10, ([.int 0, .int 0, .int 0, .ref (b0 + (n + 0)), .ref (b0 + (n + 1)), .ref (b0 + (n + 2)), .ref (b0 + (n + 3)), .int 0, .ref (b0 + (n + 4)), .ref (b0 + (n + 5)), .ref (b0 + (n + 6)), .ref (b0 + (n + 7)), .ref (b0 + (n + 8)), .ref (b0 + (n + 9)), .int 0, .ref (b0 + (n + 10)), .int 0, .ref (b0 + (n + 11)), .null, .null, .null, .null, .null, .null] : List Value)))
def jc_t13 (w : jx_Wd) (b0 k n : Nat) (cf : Nat → va_E) : Nat → va_E := va_up (va_up (jc_t12 w b0 k n cf) (n + 12) (jc_arr w 0 256)) k (.inr (10, ([.int 0, .int 0, .int 0, .ref (b0 + (n + 0)), .ref (b0 + (n + 1)), .ref (b0 + (n + 2)), .ref (b0 + (n + 3)), .int 0, .ref (b0 + (n + 4)), .ref (b0 + (n + 5)), .ref (b0 + (n + 6)), .ref (b0 + (n + 7)), .ref (b0 + (n + 8)), .ref (b0 + (n + 9)), .int 0, .ref (b0 + (n + 10)), .int 0, .ref (b0 + (n + 11)), .ref (b0 + (n + 12)), .null, .null, .null, .null, .null] : List Value)))
def jc_t14 (w : jx_Wd) (b0 k n : Nat) (cf : Nat → va_E) : Nat → va_E := va_up (va_up (jc_t13 w b0 k n cf) (n + 13) (jc_arr w 0 8)) k (.inr (10, ([.int 0, .int 0, .int 0, .ref (b0 + (n + 0)), .ref (b0 + (n + 1)), .ref (b0 + (n + 2)), .ref (b0 + (n + 3)), .int 0, .ref (b0 + (n + 4)), .ref (b0 + (n + 5)), .ref (b0 + (n + 6)), .ref (b0 + (n + 7)), .ref (b0 + (n + 8)), .ref (b0 + (n + 9)), .int 0, .ref (b0 + (n + 10)), .int 0, .ref (b0 + (n + 11)), .ref (b0 + (n + 12)), .ref (b0 + (n + 13)), .null, .null, .null, .null] : List Value)))
def jc_t15 (w : jx_Wd) (b0 k n : Nat) (cf : Nat → va_E) : Nat → va_E := va_up (va_up (jc_t14 w b0 k n cf) (n + 14) (jc_arr w 0 12)) k (.inr (10, ([.int 0, .int 0, .int 0, .ref (b0 + (n + 0)), .ref (b0 + (n + 1)), .ref (b0 + (n + 2)), .ref (b0 + (n + 3)), .int 0, .ref (b0 + (n + 4)), .ref (b0 + (n + 5)), .ref (b0 + (n + 6)), .ref (b0 + (n + 7)), .ref (b0 + (n + 8)), .ref (b0 + (n + 9)), .int 0, .ref (b0 + (n + 10)), .int 0, .ref (b0 + (n + 11)), .ref (b0 + (n + 12)), .ref (b0 + (n + 13)), .ref (b0 + (n + 14)), .null, .null, .null] : List Value)))
def jc_t16 (w : jx_Wd) (b0 k n : Nat) (cf : Nat → va_E) : Nat → va_E := va_up (va_up (jc_t15 w b0 k n cf) (n + 15) (jc_arr w 2 8)) k (.inr (10, ([.int 0, .int 0, .int 0, .ref (b0 + (n + 0)), .ref (b0 + (n + 1)), .ref (b0 + (n + 2)), .ref (b0 + (n + 3)), .int 0, .ref (b0 + (n + 4)), .ref (b0 + (n + 5)), .ref (b0 + (n + 6)), .ref (b0 + (n + 7)), .ref (b0 + (n + 8)), .ref (b0 + (n + 9)), .int 0, .ref (b0 + (n + 10)), .int 0, .ref (b0 + (n + 11)), .ref (b0 + (n + 12)), .ref (b0 + (n + 13)), .ref (b0 + (n + 14)), .ref (b0 + (n + 15)), .null, .null] : List Value)))
def jc_t17 (w : jx_Wd) (b0 k n : Nat) (cf : Nat → va_E) : Nat → va_E := va_up (va_up (jc_t16 w b0 k n cf) (n + 16) (jc_arr w 0 8)) k (.inr (10, ([.int 0, .int 0, .int 0, .ref (b0 + (n + 0)), .ref (b0 + (n + 1)), .ref (b0 + (n + 2)), .ref (b0 + (n + 3)), .int 0, .ref (b0 + (n + 4)), .ref (b0 + (n + 5)), .ref (b0 + (n + 6)), .ref (b0 + (n + 7)), .ref (b0 + (n + 8)), .ref (b0 + (n + 9)), .int 0, .ref (b0 + (n + 10)), .int 0, .ref (b0 + (n + 11)), .ref (b0 + (n + 12)), .ref (b0 + (n + 13)), .ref (b0 + (n + 14)), .ref (b0 + (n + 15)), .ref (b0 + (n + 16)), .null] : List Value)))
def jc_t18 (w : jx_Wd) (b0 k n : Nat) (cf : Nat → va_E) : Nat → va_E := va_up (va_up (jc_t17 w b0 k n cf) (n + 17) (jc_arr w 1 256)) k (.inr (10, ([.int 0, .int 0, .int 0, .ref (b0 + (n + 0)), .ref (b0 + (n + 1)), .ref (b0 + (n + 2)), .ref (b0 + (n + 3)), .int 0, .ref (b0 + (n + 4)), .ref (b0 + (n + 5)), .ref (b0 + (n + 6)), .ref (b0 + (n + 7)), .ref (b0 + (n + 8)), .ref (b0 + (n + 9)), .int 0, .ref (b0 + (n + 10)), .int 0, .ref (b0 + (n + 11)), .ref (b0 + (n + 12)), .ref (b0 + (n + 13)), .ref (b0 + (n + 14)), .ref (b0 + (n + 15)), .ref (b0 + (n + 16)), .ref (b0 + (n + 17))] : List Value)))
set_option maxRecDepth 100000 in
theorem jc_lMod {p : Program} {l : Launch} {e : Env} {R : Room} {s : State} {m : MethodId} {args : Array Value} {below : List Frame} {meth : Method} {c : Code} {w : jx_Wd} {b0 : Nat} {Q : State → Prop} {mc ms cells slots : Nat} (C : jc_Cx p R s m args meth c w cX10_init 2 RX10 b0 0 mc ms) {k n1 pk : Nat} {cf : Nat → va_E} {fs : List Value} (hk : k < n1) (hpk : pk < n1) (hkk : k ≠ pk) (hcf : cf k = .inr (10, fs)) (hfk : fs[10]? = some (.ref (b0 + pk)))
    (kk : jc_Go p l e R s m args below meth c w 2 b0 Q n1 (va_up cf pk (jc_ia w 4 (jc_m1 4))) cells slots 169 [(1, .int 4), (0, .ref (b0 + k))] []) :
    ∀ (r i : Nat), i + r = 4 → jc_Go p l e R s m args below meth c w 2 b0 Q n1 (va_up cf pk (jc_ia w 4 (jc_m1 i))) cells slots 151 [(1, .int (nI i)), (0, .ref (b0 + k))] [] := by
  intro r
  induction r with
  | zero =>
    intro i hi
    have : i = 4 := by omega
    subst this
    exact jc_iload C (by decide +kernel) 0 rfl <| jc_iconst C (i := 4) (v := 4) (by decide +kernel) (by decide +kernel) <| jc_icge C (t := 169) (off := 16) (by decide +kernel) (by decide +kernel) (fun _ => kk) (fun g => absurd (by decide) g)
  | succ r ih =>
    intro i hi
    have hlt : ¬ (4 : Int32) ≤ nI i := nI_ge (b := 4) (by omega) (by decide)
    have hin : vp_in (nI i) 4 := vp_in_nI (by omega) (by decide)
    have hcl : (nI i).toNatClampNeg = i := nI_clamp (by omega)
    refine jc_iload C (by decide +kernel) 0 rfl <| jc_iconst C (i := 4) (v := 4) (by decide +kernel) (by decide +kernel) <| jc_icge C (t := 169) (off := 16) (by decide +kernel) (by decide +kernel) (fun g => absurd g hlt) (fun _ => ?_)
    refine jc_aload C (by decide +kernel) 1 rfl <| jc_get C (ci := 10) (f := 10) (T := TX10) (j := k) (by decide +kernel) rfl jx_in10 wd_820 (by decide) (by omega) ((jc_un hkk).trans hcf) hfk <| jc_iload C (by decide +kernel) 0 rfl <| jc_iconst C (i := -1) (v := -1) (by decide +kernel) (by decide +kernel) <| ?_
    refine jc_iast C (j := pk) (N := 4) (f := jc_m1 i) (by decide +kernel) (by omega) jc_ue hin <| ?_
    rw [hcl, jc_m1_s, jc_uu]
    refine jc_iinc C (by decide +kernel) 0 rfl (nI_1 i) (by decide) rfl <| jc_goto C (t := 151) (off := -15) (by decide +kernel) (by decide +kernel) <| ?_
    exact ih (i + 1) (by omega)
def jc_t19 (w : jx_Wd) (b0 k n : Nat) (cf : Nat → va_E) : Nat → va_E := va_up (jc_t18 w b0 k n cf) (n + 6) (jc_ia w 4 (jc_m1 4))
set_option maxRecDepth 100000 in
theorem ct_Mod (l : Launch) (w : jx_Wd) (b0 k n : Nat) (cf : Nat → va_E) (hkn : k < n) (hk : cf k = .inr (10, ([.int 0, .int 0, .int 0, .null, .null, .null, .null, .int 0, .null, .null, .null, .null, .null, .null, .int 0, .null, .int 0, .null, .null, .null, .null, .null, .null, .null] : List Value))) : jc_MT l w b0 yX10_init cX10_init 2 1 18 3736 k n cf (n + 18) (jc_t19 w b0 k n cf) := by
  refine jc_met (by decide +kernel) rfl (by decide) fun p e R s m args below meth c C => ?_
  have h18 : jc_t18 w b0 k n cf k = .inr (10, ([.int 0, .int 0, .int 0, .ref (b0 + (n + 0)), .ref (b0 + (n + 1)), .ref (b0 + (n + 2)), .ref (b0 + (n + 3)), .int 0, .ref (b0 + (n + 4)), .ref (b0 + (n + 5)), .ref (b0 + (n + 6)), .ref (b0 + (n + 7)), .ref (b0 + (n + 8)), .ref (b0 + (n + 9)), .int 0, .ref (b0 + (n + 10)), .int 0, .ref (b0 + (n + 11)), .ref (b0 + (n + 12)), .ref (b0 + (n + 13)), .ref (b0 + (n + 14)), .ref (b0 + (n + 15)), .ref (b0 + (n + 16)), .ref (b0 + (n + 17))] : List Value)) := jc_ue
  have hp7 : jc_t7 w b0 k n cf (n + 6) = jc_arr w 0 4 := (jc_un (by omega)).trans (jc_ue)
  have hp8 : jc_t8 w b0 k n cf (n + 6) = jc_arr w 0 4 := (jc_un (by omega)).trans ((jc_un (by omega)).trans hp7)
  have hp9 : jc_t9 w b0 k n cf (n + 6) = jc_arr w 0 4 := (jc_un (by omega)).trans ((jc_un (by omega)).trans hp8)
  have hp10 : jc_t10 w b0 k n cf (n + 6) = jc_arr w 0 4 := (jc_un (by omega)).trans ((jc_un (by omega)).trans hp9)
  have hp11 : jc_t11 w b0 k n cf (n + 6) = jc_arr w 0 4 := (jc_un (by omega)).trans ((jc_un (by omega)).trans hp10)
  have hp12 : jc_t12 w b0 k n cf (n + 6) = jc_arr w 0 4 := (jc_un (by omega)).trans ((jc_un (by omega)).trans hp11)
  have hp13 : jc_t13 w b0 k n cf (n + 6) = jc_arr w 0 4 := (jc_un (by omega)).trans ((jc_un (by omega)).trans hp12)
  have hp14 : jc_t14 w b0 k n cf (n + 6) = jc_arr w 0 4 := (jc_un (by omega)).trans ((jc_un (by omega)).trans hp13)
  have hp15 : jc_t15 w b0 k n cf (n + 6) = jc_arr w 0 4 := (jc_un (by omega)).trans ((jc_un (by omega)).trans hp14)
  have hp16 : jc_t16 w b0 k n cf (n + 6) = jc_arr w 0 4 := (jc_un (by omega)).trans ((jc_un (by omega)).trans hp15)
  have hp17 : jc_t17 w b0 k n cf (n + 6) = jc_arr w 0 4 := (jc_un (by omega)).trans ((jc_un (by omega)).trans hp16)
  have hp18 : jc_t18 w b0 k n cf (n + 6) = jc_arr w 0 4 := (jc_un (by omega)).trans ((jc_un (by omega)).trans hp17)
  have g1 := jc_lMod (l := l) (e := e) (below := below) (Q := MQ below (jc_Po w b0 (n + 18) (jc_t19 w b0 k n cf)) args s 18 3736 (fun q => b0 ≤ q)) (cells := 18) (slots := 3736) C (k := k) (n1 := n + 18) (pk := n + 6) (cf := jc_t18 w b0 k n cf) (by omega) (by omega) (by omega) h18 rfl (jc_ret C (by decide +kernel)) 4 0 rfl
  rw [jc_m1_0, jc_us (cf := jc_t18 w b0 k n cf) (j := n + 6) (a := jc_ia w 4 (fun _ => 0)) hp18] at g1
  have gs15 : jc_Go p l e R s m args below meth c w 2 b0 (MQ below (jc_Po w b0 (n + 18) (jc_t19 w b0 k n cf)) args s 18 3736 (fun q => b0 ≤ q)) (n + 15) (jc_t15 w b0 k n cf) 15 3464 124 [(0, .ref (b0 + k))] [] :=
    jc_aload C (by decide +kernel) 0 rfl <|
    jc_bipush C (i := 8) (v := 8) (by decide +kernel) (by decide +kernel) <|
    jc_newa C (atype := .boolean) (t := 2) (N := 8) (by decide +kernel) wc_boolean rfl (fun z => z) ⟨_, rfl, fun _ => rfl⟩ (by decide +kernel) (by decide +kernel) (by decide +kernel) (by decide) (by decide) <|
    jc_putF C (fs := ([.int 0, .int 0, .int 0, .ref (b0 + (n + 0)), .ref (b0 + (n + 1)), .ref (b0 + (n + 2)), .ref (b0 + (n + 3)), .int 0, .ref (b0 + (n + 4)), .ref (b0 + (n + 5)), .ref (b0 + (n + 6)), .ref (b0 + (n + 7)), .ref (b0 + (n + 8)), .ref (b0 + (n + 9)), .int 0, .ref (b0 + (n + 10)), .int 0, .ref (b0 + (n + 11)), .ref (b0 + (n + 12)), .ref (b0 + (n + 13)), .ref (b0 + (n + 14)), .null, .null, .null] : List Value)) (ci := 10) (f := 21) (T := TX10) (j := k) (by decide +kernel) rfl jx_in10 tyX10_ok nmX10 wd_831 rfl rfl rfl rfl (by decide) (Nat.le_of_ble_eq_true rfl) (by omega) ((jc_un (by omega)).trans jc_ue) <|
    jc_aload C (by decide +kernel) 0 rfl <|
    jc_bipush C (i := 8) (v := 8) (by decide +kernel) (by decide +kernel) <|
    jc_newa C (atype := .int) (t := 0) (N := 8) (by decide +kernel) wc_int rfl (fun z => z) ⟨_, rfl, fun _ => rfl⟩ (by decide +kernel) (by decide +kernel) (by decide +kernel) (by decide) (by decide) <|
    jc_putF C (fs := ([.int 0, .int 0, .int 0, .ref (b0 + (n + 0)), .ref (b0 + (n + 1)), .ref (b0 + (n + 2)), .ref (b0 + (n + 3)), .int 0, .ref (b0 + (n + 4)), .ref (b0 + (n + 5)), .ref (b0 + (n + 6)), .ref (b0 + (n + 7)), .ref (b0 + (n + 8)), .ref (b0 + (n + 9)), .int 0, .ref (b0 + (n + 10)), .int 0, .ref (b0 + (n + 11)), .ref (b0 + (n + 12)), .ref (b0 + (n + 13)), .ref (b0 + (n + 14)), .ref (b0 + (n + 15)), .null, .null] : List Value)) (ci := 10) (f := 22) (T := TX10) (j := k) (by decide +kernel) rfl jx_in10 tyX10_ok nmX10 wd_832 rfl rfl rfl rfl (by decide) (Nat.le_of_ble_eq_true rfl) (by omega) ((jc_un (by omega)).trans jc_ue) <|
    jc_aload C (by decide +kernel) 0 rfl <|
    jc_sipush C (i := 256) (v := 256) (by decide +kernel) (by decide +kernel) <|
    jc_newa C (atype := .long) (t := 1) (N := 256) (by decide +kernel) wc_long rfl (fun z => z) ⟨_, rfl, fun _ => rfl⟩ (by decide +kernel) (by decide +kernel) (by decide +kernel) (by decide) (by decide) <|
    jc_putF C (fs := ([.int 0, .int 0, .int 0, .ref (b0 + (n + 0)), .ref (b0 + (n + 1)), .ref (b0 + (n + 2)), .ref (b0 + (n + 3)), .int 0, .ref (b0 + (n + 4)), .ref (b0 + (n + 5)), .ref (b0 + (n + 6)), .ref (b0 + (n + 7)), .ref (b0 + (n + 8)), .ref (b0 + (n + 9)), .int 0, .ref (b0 + (n + 10)), .int 0, .ref (b0 + (n + 11)), .ref (b0 + (n + 12)), .ref (b0 + (n + 13)), .ref (b0 + (n + 14)), .ref (b0 + (n + 15)), .ref (b0 + (n + 16)), .null] : List Value)) (ci := 10) (f := 23) (T := TX10) (j := k) (by decide +kernel) rfl jx_in10 tyX10_ok nmX10 wd_833 rfl rfl rfl rfl (by decide) (Nat.le_of_ble_eq_true rfl) (by omega) ((jc_un (by omega)).trans jc_ue) <|
    jc_iconst C (i := 0) (v := 0) (by decide +kernel) (by decide +kernel) <|
    jc_istore C (by decide +kernel) (by decide) rfl <| g1
  have gs12 : jc_Go p l e R s m args below meth c w 2 b0 (MQ below (jc_Po w b0 (n + 18) (jc_t19 w b0 k n cf)) args s 18 3736 (fun q => b0 ≤ q)) (n + 12) (jc_t12 w b0 k n cf) 12 3188 99 [(0, .ref (b0 + k))] [] :=
    jc_aload C (by decide +kernel) 0 rfl <|
    jc_sipush C (i := 256) (v := 256) (by decide +kernel) (by decide +kernel) <|
    jc_newa C (atype := .int) (t := 0) (N := 256) (by decide +kernel) wc_int rfl (fun z => z) ⟨_, rfl, fun _ => rfl⟩ (by decide +kernel) (by decide +kernel) (by decide +kernel) (by decide) (by decide) <|
    jc_putF C (fs := ([.int 0, .int 0, .int 0, .ref (b0 + (n + 0)), .ref (b0 + (n + 1)), .ref (b0 + (n + 2)), .ref (b0 + (n + 3)), .int 0, .ref (b0 + (n + 4)), .ref (b0 + (n + 5)), .ref (b0 + (n + 6)), .ref (b0 + (n + 7)), .ref (b0 + (n + 8)), .ref (b0 + (n + 9)), .int 0, .ref (b0 + (n + 10)), .int 0, .ref (b0 + (n + 11)), .null, .null, .null, .null, .null, .null] : List Value)) (ci := 10) (f := 18) (T := TX10) (j := k) (by decide +kernel) rfl jx_in10 tyX10_ok nmX10 wd_828 rfl rfl rfl rfl (by decide) (Nat.le_of_ble_eq_true rfl) (by omega) ((jc_un (by omega)).trans jc_ue) <|
    jc_aload C (by decide +kernel) 0 rfl <|
    jc_bipush C (i := 8) (v := 8) (by decide +kernel) (by decide +kernel) <|
    jc_newa C (atype := .int) (t := 0) (N := 8) (by decide +kernel) wc_int rfl (fun z => z) ⟨_, rfl, fun _ => rfl⟩ (by decide +kernel) (by decide +kernel) (by decide +kernel) (by decide) (by decide) <|
    jc_putF C (fs := ([.int 0, .int 0, .int 0, .ref (b0 + (n + 0)), .ref (b0 + (n + 1)), .ref (b0 + (n + 2)), .ref (b0 + (n + 3)), .int 0, .ref (b0 + (n + 4)), .ref (b0 + (n + 5)), .ref (b0 + (n + 6)), .ref (b0 + (n + 7)), .ref (b0 + (n + 8)), .ref (b0 + (n + 9)), .int 0, .ref (b0 + (n + 10)), .int 0, .ref (b0 + (n + 11)), .ref (b0 + (n + 12)), .null, .null, .null, .null, .null] : List Value)) (ci := 10) (f := 19) (T := TX10) (j := k) (by decide +kernel) rfl jx_in10 tyX10_ok nmX10 wd_829 rfl rfl rfl rfl (by decide) (Nat.le_of_ble_eq_true rfl) (by omega) ((jc_un (by omega)).trans jc_ue) <|
    jc_aload C (by decide +kernel) 0 rfl <|
    jc_bipush C (i := 12) (v := 12) (by decide +kernel) (by decide +kernel) <|
    jc_newa C (atype := .int) (t := 0) (N := 12) (by decide +kernel) wc_int rfl (fun z => z) ⟨_, rfl, fun _ => rfl⟩ (by decide +kernel) (by decide +kernel) (by decide +kernel) (by decide) (by decide) <|
    jc_putF C (fs := ([.int 0, .int 0, .int 0, .ref (b0 + (n + 0)), .ref (b0 + (n + 1)), .ref (b0 + (n + 2)), .ref (b0 + (n + 3)), .int 0, .ref (b0 + (n + 4)), .ref (b0 + (n + 5)), .ref (b0 + (n + 6)), .ref (b0 + (n + 7)), .ref (b0 + (n + 8)), .ref (b0 + (n + 9)), .int 0, .ref (b0 + (n + 10)), .int 0, .ref (b0 + (n + 11)), .ref (b0 + (n + 12)), .ref (b0 + (n + 13)), .null, .null, .null, .null] : List Value)) (ci := 10) (f := 20) (T := TX10) (j := k) (by decide +kernel) rfl jx_in10 tyX10_ok nmX10 wd_830 rfl rfl rfl rfl (by decide) (Nat.le_of_ble_eq_true rfl) (by omega) ((jc_un (by omega)).trans jc_ue) <| gs15
  have gs9 : jc_Go p l e R s m args below meth c w 2 b0 (MQ below (jc_Po w b0 (n + 18) (jc_t19 w b0 k n cf)) args s 18 3736 (fun q => b0 ≤ q)) (n + 9) (jc_t9 w b0 k n cf) 9 3008 75 [(0, .ref (b0 + k))] [] :=
    jc_aload C (by decide +kernel) 0 rfl <|
    jc_bipush C (i := 96) (v := 96) (by decide +kernel) (by decide +kernel) <|
    jc_newa C (atype := .int) (t := 0) (N := 96) (by decide +kernel) wc_int rfl (fun z => z) ⟨_, rfl, fun _ => rfl⟩ (by decide +kernel) (by decide +kernel) (by decide +kernel) (by decide) (by decide) <|
    jc_putF C (fs := ([.int 0, .int 0, .int 0, .ref (b0 + (n + 0)), .ref (b0 + (n + 1)), .ref (b0 + (n + 2)), .ref (b0 + (n + 3)), .int 0, .ref (b0 + (n + 4)), .ref (b0 + (n + 5)), .ref (b0 + (n + 6)), .ref (b0 + (n + 7)), .ref (b0 + (n + 8)), .null, .int 0, .null, .int 0, .null, .null, .null, .null, .null, .null, .null] : List Value)) (ci := 10) (f := 13) (T := TX10) (j := k) (by decide +kernel) rfl jx_in10 tyX10_ok nmX10 wd_823 rfl rfl rfl rfl (by decide) (Nat.le_of_ble_eq_true rfl) (by omega) ((jc_un (by omega)).trans jc_ue) <|
    jc_aload C (by decide +kernel) 0 rfl <|
    jc_bipush C (i := 60) (v := 60) (by decide +kernel) (by decide +kernel) <|
    jc_newa C (atype := .int) (t := 0) (N := 60) (by decide +kernel) wc_int rfl (fun z => z) ⟨_, rfl, fun _ => rfl⟩ (by decide +kernel) (by decide +kernel) (by decide +kernel) (by decide) (by decide) <|
    jc_putF C (fs := ([.int 0, .int 0, .int 0, .ref (b0 + (n + 0)), .ref (b0 + (n + 1)), .ref (b0 + (n + 2)), .ref (b0 + (n + 3)), .int 0, .ref (b0 + (n + 4)), .ref (b0 + (n + 5)), .ref (b0 + (n + 6)), .ref (b0 + (n + 7)), .ref (b0 + (n + 8)), .ref (b0 + (n + 9)), .int 0, .null, .int 0, .null, .null, .null, .null, .null, .null, .null] : List Value)) (ci := 10) (f := 15) (T := TX10) (j := k) (by decide +kernel) rfl jx_in10 tyX10_ok nmX10 wd_825 rfl rfl rfl rfl (by decide) (Nat.le_of_ble_eq_true rfl) (by omega) ((jc_un (by omega)).trans jc_ue) <|
    jc_aload C (by decide +kernel) 0 rfl <|
    jc_bipush C (i := 24) (v := 24) (by decide +kernel) (by decide +kernel) <|
    jc_newa C (atype := .int) (t := 0) (N := 24) (by decide +kernel) wc_int rfl (fun z => z) ⟨_, rfl, fun _ => rfl⟩ (by decide +kernel) (by decide +kernel) (by decide +kernel) (by decide) (by decide) <|
    jc_putF C (fs := ([.int 0, .int 0, .int 0, .ref (b0 + (n + 0)), .ref (b0 + (n + 1)), .ref (b0 + (n + 2)), .ref (b0 + (n + 3)), .int 0, .ref (b0 + (n + 4)), .ref (b0 + (n + 5)), .ref (b0 + (n + 6)), .ref (b0 + (n + 7)), .ref (b0 + (n + 8)), .ref (b0 + (n + 9)), .int 0, .ref (b0 + (n + 10)), .int 0, .null, .null, .null, .null, .null, .null, .null] : List Value)) (ci := 10) (f := 17) (T := TX10) (j := k) (by decide +kernel) rfl jx_in10 tyX10_ok nmX10 wd_827 rfl rfl rfl rfl (by decide) (Nat.le_of_ble_eq_true rfl) (by omega) ((jc_un (by omega)).trans jc_ue) <| gs12
  have gs6 : jc_Go p l e R s m args below meth c w 2 b0 (MQ below (jc_Po w b0 (n + 18) (jc_t19 w b0 k n cf)) args s 18 3736 (fun q => b0 ≤ q)) (n + 6) (jc_t6 w b0 k n cf) 6 2996 54 [(0, .ref (b0 + k))] [] :=
    jc_aload C (by decide +kernel) 0 rfl <|
    jc_iconst C (i := 4) (v := 4) (by decide +kernel) (by decide +kernel) <|
    jc_newa C (atype := .int) (t := 0) (N := 4) (by decide +kernel) wc_int rfl (fun z => z) ⟨_, rfl, fun _ => rfl⟩ (by decide +kernel) (by decide +kernel) (by decide +kernel) (by decide) (by decide) <|
    jc_putF C (fs := ([.int 0, .int 0, .int 0, .ref (b0 + (n + 0)), .ref (b0 + (n + 1)), .ref (b0 + (n + 2)), .ref (b0 + (n + 3)), .int 0, .ref (b0 + (n + 4)), .ref (b0 + (n + 5)), .null, .null, .null, .null, .int 0, .null, .int 0, .null, .null, .null, .null, .null, .null, .null] : List Value)) (ci := 10) (f := 10) (T := TX10) (j := k) (by decide +kernel) rfl jx_in10 tyX10_ok nmX10 wd_820 rfl rfl rfl rfl (by decide) (Nat.le_of_ble_eq_true rfl) (by omega) ((jc_un (by omega)).trans jc_ue) <|
    jc_aload C (by decide +kernel) 0 rfl <|
    jc_iconst C (i := 4) (v := 4) (by decide +kernel) (by decide +kernel) <|
    jc_newa C (atype := .int) (t := 0) (N := 4) (by decide +kernel) wc_int rfl (fun z => z) ⟨_, rfl, fun _ => rfl⟩ (by decide +kernel) (by decide +kernel) (by decide +kernel) (by decide) (by decide) <|
    jc_putF C (fs := ([.int 0, .int 0, .int 0, .ref (b0 + (n + 0)), .ref (b0 + (n + 1)), .ref (b0 + (n + 2)), .ref (b0 + (n + 3)), .int 0, .ref (b0 + (n + 4)), .ref (b0 + (n + 5)), .ref (b0 + (n + 6)), .null, .null, .null, .int 0, .null, .int 0, .null, .null, .null, .null, .null, .null, .null] : List Value)) (ci := 10) (f := 11) (T := TX10) (j := k) (by decide +kernel) rfl jx_in10 tyX10_ok nmX10 wd_821 rfl rfl rfl rfl (by decide) (Nat.le_of_ble_eq_true rfl) (by omega) ((jc_un (by omega)).trans jc_ue) <|
    jc_aload C (by decide +kernel) 0 rfl <|
    jc_iconst C (i := 4) (v := 4) (by decide +kernel) (by decide +kernel) <|
    jc_newa C (atype := .int) (t := 0) (N := 4) (by decide +kernel) wc_int rfl (fun z => z) ⟨_, rfl, fun _ => rfl⟩ (by decide +kernel) (by decide +kernel) (by decide +kernel) (by decide) (by decide) <|
    jc_putF C (fs := ([.int 0, .int 0, .int 0, .ref (b0 + (n + 0)), .ref (b0 + (n + 1)), .ref (b0 + (n + 2)), .ref (b0 + (n + 3)), .int 0, .ref (b0 + (n + 4)), .ref (b0 + (n + 5)), .ref (b0 + (n + 6)), .ref (b0 + (n + 7)), .null, .null, .int 0, .null, .int 0, .null, .null, .null, .null, .null, .null, .null] : List Value)) (ci := 10) (f := 12) (T := TX10) (j := k) (by decide +kernel) rfl jx_in10 tyX10_ok nmX10 wd_822 rfl rfl rfl rfl (by decide) (Nat.le_of_ble_eq_true rfl) (by omega) ((jc_un (by omega)).trans jc_ue) <| gs9
  have gs3 : jc_Go p l e R s m args below meth c w 2 b0 (MQ below (jc_Po w b0 (n + 18) (jc_t19 w b0 k n cf)) args s 18 3736 (fun q => b0 ≤ q)) (n + 3) (jc_t3 w b0 k n cf) 3 120 28 [(0, .ref (b0 + k))] [] :=
    jc_aload C (by decide +kernel) 0 rfl <|
    jc_bipush C (i := 20) (v := 20) (by decide +kernel) (by decide +kernel) <|
    jc_newa C (atype := .int) (t := 0) (N := 20) (by decide +kernel) wc_int rfl (fun z => z) ⟨_, rfl, fun _ => rfl⟩ (by decide +kernel) (by decide +kernel) (by decide +kernel) (by decide) (by decide) <|
    jc_putF C (fs := ([.int 0, .int 0, .int 0, .ref (b0 + (n + 0)), .ref (b0 + (n + 1)), .ref (b0 + (n + 2)), .null, .int 0, .null, .null, .null, .null, .null, .null, .int 0, .null, .int 0, .null, .null, .null, .null, .null, .null, .null] : List Value)) (ci := 10) (f := 6) (T := TX10) (j := k) (by decide +kernel) rfl jx_in10 tyX10_ok nmX10 wd_816 rfl rfl rfl rfl (by decide) (Nat.le_of_ble_eq_true rfl) (by omega) ((jc_un (by omega)).trans jc_ue) <|
    jc_aload C (by decide +kernel) 0 rfl <|
    jc_sipush C (i := 2520) (v := 2520) (by decide +kernel) (by decide +kernel) <|
    jc_newa C (atype := .int) (t := 0) (N := 2520) (by decide +kernel) wc_int rfl (fun z => z) ⟨_, rfl, fun _ => rfl⟩ (by decide +kernel) (by decide +kernel) (by decide +kernel) (by decide) (by decide) <|
    jc_putF C (fs := ([.int 0, .int 0, .int 0, .ref (b0 + (n + 0)), .ref (b0 + (n + 1)), .ref (b0 + (n + 2)), .ref (b0 + (n + 3)), .int 0, .null, .null, .null, .null, .null, .null, .int 0, .null, .int 0, .null, .null, .null, .null, .null, .null, .null] : List Value)) (ci := 10) (f := 8) (T := TX10) (j := k) (by decide +kernel) rfl jx_in10 tyX10_ok nmX10 wd_818 rfl rfl rfl rfl (by decide) (Nat.le_of_ble_eq_true rfl) (by omega) ((jc_un (by omega)).trans jc_ue) <|
    jc_aload C (by decide +kernel) 0 rfl <|
    jc_sipush C (i := 336) (v := 336) (by decide +kernel) (by decide +kernel) <|
    jc_newa C (atype := .int) (t := 0) (N := 336) (by decide +kernel) wc_int rfl (fun z => z) ⟨_, rfl, fun _ => rfl⟩ (by decide +kernel) (by decide +kernel) (by decide +kernel) (by decide) (by decide) <|
    jc_putF C (fs := ([.int 0, .int 0, .int 0, .ref (b0 + (n + 0)), .ref (b0 + (n + 1)), .ref (b0 + (n + 2)), .ref (b0 + (n + 3)), .int 0, .ref (b0 + (n + 4)), .null, .null, .null, .null, .null, .int 0, .null, .int 0, .null, .null, .null, .null, .null, .null, .null] : List Value)) (ci := 10) (f := 9) (T := TX10) (j := k) (by decide +kernel) rfl jx_in10 tyX10_ok nmX10 wd_819 rfl rfl rfl rfl (by decide) (Nat.le_of_ble_eq_true rfl) (by omega) ((jc_un (by omega)).trans jc_ue) <| gs6
  exact jc_aload C (by decide +kernel) 0 rfl <|
    jc_obj C (by decide +kernel) wd_809 wd_69 wc_obj (Nat.le_of_ble_eq_true rfl) <|
    jc_aload C (by decide +kernel) 0 rfl <|
    jc_bipush C (i := 50) (v := 50) (by decide +kernel) (by decide +kernel) <|
    jc_newa C (atype := .int) (t := 0) (N := 50) (by decide +kernel) wc_int rfl (fun z => z) ⟨_, rfl, fun _ => rfl⟩ (by decide +kernel) (by decide +kernel) (by decide +kernel) (by decide) (by decide) <|
    jc_putF C (fs := ([.int 0, .int 0, .int 0, .null, .null, .null, .null, .int 0, .null, .null, .null, .null, .null, .null, .int 0, .null, .int 0, .null, .null, .null, .null, .null, .null, .null] : List Value)) (ci := 10) (f := 3) (T := TX10) (j := k) (by decide +kernel) rfl jx_in10 tyX10_ok nmX10 wd_813 rfl rfl rfl rfl (by decide) (Nat.le_of_ble_eq_true rfl) (by omega) ((jc_un (by omega)).trans hk) <|
    jc_aload C (by decide +kernel) 0 rfl <|
    jc_bipush C (i := 50) (v := 50) (by decide +kernel) (by decide +kernel) <|
    jc_newa C (atype := .int) (t := 0) (N := 50) (by decide +kernel) wc_int rfl (fun z => z) ⟨_, rfl, fun _ => rfl⟩ (by decide +kernel) (by decide +kernel) (by decide +kernel) (by decide) (by decide) <|
    jc_putF C (fs := ([.int 0, .int 0, .int 0, .ref (b0 + (n + 0)), .null, .null, .null, .int 0, .null, .null, .null, .null, .null, .null, .int 0, .null, .int 0, .null, .null, .null, .null, .null, .null, .null] : List Value)) (ci := 10) (f := 4) (T := TX10) (j := k) (by decide +kernel) rfl jx_in10 tyX10_ok nmX10 wd_814 rfl rfl rfl rfl (by decide) (Nat.le_of_ble_eq_true rfl) (by omega) ((jc_un (by omega)).trans jc_ue) <|
    jc_aload C (by decide +kernel) 0 rfl <|
    jc_bipush C (i := 20) (v := 20) (by decide +kernel) (by decide +kernel) <|
    jc_newa C (atype := .int) (t := 0) (N := 20) (by decide +kernel) wc_int rfl (fun z => z) ⟨_, rfl, fun _ => rfl⟩ (by decide +kernel) (by decide +kernel) (by decide +kernel) (by decide) (by decide) <|
    jc_putF C (fs := ([.int 0, .int 0, .int 0, .ref (b0 + (n + 0)), .ref (b0 + (n + 1)), .null, .null, .int 0, .null, .null, .null, .null, .null, .null, .int 0, .null, .int 0, .null, .null, .null, .null, .null, .null, .null] : List Value)) (ci := 10) (f := 5) (T := TX10) (j := k) (by decide +kernel) rfl jx_in10 tyX10_ok nmX10 wd_815 rfl rfl rfl rfl (by decide) (Nat.le_of_ble_eq_true rfl) (by omega) ((jc_un (by omega)).trans jc_ue) <| gs3
