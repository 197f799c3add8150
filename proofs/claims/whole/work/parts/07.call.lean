/-! ===== calls and whole methods ===== -/
theorem jx_nest_f : ∀ x ∈ jx_nest, ∃ (a : String) (i : Nat) (y : MethodName) (b : String), x = Cond.methodLinkNest a i y b := by
  intro x hx
  have h : jx_nest.all (fun x => match x with | .methodLinkNest _ _ _ _ => true | _ => false) = true := by decide +kernel
  have h2 := List.all_eq_true.mp h x hx
  split at h2
  · exact ⟨_, _, _, _, rfl⟩
  · cases h2
theorem jx_wk_blind {w : jx_Wd} {U : State} (g : JFrame) (mk : MethodId) (a : Array Value) (h : jx_wk w U) : jx_wk w (U.calling g mk a) := by
  obtain ⟨h1, h2, h3, h4⟩ := h
  refine ⟨va_K.moved (u := U) (U := U.calling g mk a) (Vm.Alike.refl U.vm) h1, fun x hx => ?_, va_Z.moved (u := U) (U := U.calling g mk a) (Vm.Alike.refl U.vm) h3, va_T.moved (u := U) (U := U.calling g mk a) (Vm.Alike.refl U.vm) h4⟩
  obtain ⟨a1, i, y, b, rfl⟩ := jx_nest_f x hx
  exact va_Nw.same rfl rfl (h2 _ hx)
theorem jx_wk_warm {w : jx_Wd} {s U : State} {H : Heap} {locs : List Loc} (h : jx_wk w s) (hU : U.heap = H) (hW : s.WarmedH U.vm) (hS : va_S (jx_ar w) s.heap H locs) : jx_wk w U := by
  obtain ⟨h1, h2, h3, h4⟩ := h
  refine ⟨va_K.moved hW.alike h1, fun x hx => ?_, (va_Z.moved hW.alike h3).kept (fun a h5 h6 => by rw [hU]; exact hS.2.1 a h5 h6), (va_T.moved hW.alike h4).kept (fun a h5 h6 => by rw [hU]; exact hS.2.1 a h5 h6)⟩
  obtain ⟨a1, i, y, b, rfl⟩ := jx_nest_f x hx
  exact va_Nw.warmM hW (h2 _ hx)
theorem jx_tk_of : ∀ (n : Nat) (acc s a s' : List jx_V), jx_tk n acc s = some (a, s') → ∃ t, s = t ++ s' ∧ t.length = n ∧ a = t.reverse ++ acc := by
  intro n
  induction n with
  | zero =>
    intro acc s a s' h
    cases h
    exact ⟨[], rfl, rfl, rfl⟩
  | succ n ih =>
    intro acc s a s' h
    cases s with
    | nil => cases h
    | cons v s =>
      obtain ⟨t, h1, h2, h3⟩ := ih (v :: acc) s a s' h
      refine ⟨v :: t, by rw [h1]; rfl, by simp [h2], by rw [h3]; simp⟩
theorem jx_tk_0 {n : Nat} {s a s' : List jx_V} (h : jx_tk n [] s = some (a, s')) : s = a.reverse ++ s' ∧ a.length = n := by
  obtain ⟨t, h1, h2, h3⟩ := jx_tk_of n [] s a s' h
  rw [List.append_nil] at h3
  subst h3
  exact ⟨by rw [List.reverse_reverse]; exact h1, by rw [List.length_reverse]; exact h2⟩
theorem jx_bI_of {o : Option jx_R} {f : Int32 → jx_H → Option jx_R} {r : jx_R} (h : jx_bI o f = some r) : ∃ x h', o = some ([vi x], h') ∧ f x h' = some r := by
  unfold jx_bI at h
  split at h
  · exact ⟨_, _, rfl, h⟩
  · cases h
theorem jx_bL_of {o : Option jx_R} {f : Int64 → jx_H → Option jx_R} {r : jx_R} (h : jx_bL o f = some r) : ∃ x h', o = some ([vl x], h') ∧ f x h' = some r := by
  unfold jx_bL at h
  split at h
  · exact ⟨_, _, rfl, h⟩
  · cases h
theorem jx_bV_of {o : Option jx_R} {f : jx_H → Option jx_R} {r : jx_R} (h : jx_bV o f = some r) : ∃ h', o = some ([], h') ∧ f h' = some r := by
  unfold jx_bV at h
  split at h
  · exact ⟨_, rfl, h⟩
  · cases h
def jx_mf0 (y n : Nat) : Prop := ((jx_m y).1.cls ≠ "java/lang/invoke/MethodHandle" ∧ (jx_m y).1.cls ≠ "java/lang/invoke/VarHandle" ∧ (parseMethodDescriptor (jx_m y).1.desc).map (fun d => d.parameters.length) = some n) ∧ (jx_m y).2.2.1 ≤ 40 ∧ Cond.code (jx_m y).1 (jx_m y).2.1 (jx_m y).2.2.1 (jx_m y).2.2.2 ∈ jx_tg ∧ Cond.initialized (jx_m y).1.cls ∈ jx_tg
def jx_mfS (y n : Nat) : Prop := jx_mf0 y n ∧ Cond.static (jx_m y).1 ∈ jx_tg
def jx_mfV (y n : Nat) : Prop := jx_mf0 y n ∧ Cond.instanceMethod (jx_m y).1 ∈ jx_tg ∧ Cond.selects (jx_m y).1.cls (jx_m y).1 (jx_m y).1 ∈ jx_tg
theorem jx_good {x : Cond} (h : x ∈ jx_tg) : x ∈ jx_tg ∧ ((x.onTables && x.keeps) = true ∨ ∃ ty, x = .arrayClass ty) := ⟨h, good_of_word (jx_tg_good h)⟩
theorem jx_goodwy {y : Nat} (h : Cond.code (jx_m y).1 (jx_m y).2.1 (jx_m y).2.2.1 (jx_m y).2.2.2 ∈ jx_tg) : GoodIn jx_tg (jx_wy y) := fun x hx => by
  rcases List.mem_cons.mp hx with rfl | hx
  · exact jx_good h
  · exact jx_good hx
section
variable {p : Program} {l : Launch} {e : Env} {R : Room} {s : State} {m : MethodId} {args : Array Value} {below : List Frame} {meth : Method} {c : Code} {H : Heap} {locs : List Loc} {Q : State → Prop} {pc : Nat} {ls : Array Slot}
theorem jx_call {w : jx_Wd} {r' : jx_R} {a : Array Value} {st0 rest : List Value} (hr : va_Run p l e R s m args below meth c H locs 0 0 0 0 (F0 m pc ls st0) rest (jx_Po w r' a) (jx_ar w)) (hS : va_S (jx_ar w) s.heap H locs)
    (kk : ∀ (H1 : Heap) (locs1 : List Loc), va_P (jx_dd w) jx_cl (jx_ws w r'.2) H1 → va_S (jx_ar w) s.heap H1 locs1 → W p l e R s m args below meth c H1 locs1 0 0 Q (F0 m (pc + 3) ls ((r'.1.head?.map (jx_tr (jx_ad w))).toList ++ rest))) : W p l e R s m args below meth c H locs 0 0 Q (F0 m pc ls st0) := by
  intro T hT X
  obtain ⟨v, st₀, t, T', L, h0, X', hL, e1, e2, ⟨hv, hP1, hz, hk⟩, st⟩ := hr T hT X
  cases hv
  rw [h0] at hz hk
  obtain ⟨t2, a1, b1⟩ := kk T'.heap (locs ++ L) (by rw [e1]; exact hP1) ⟨Nat.le_trans hS.1 (by rw [e1]; exact hz), fun q h1 h2 => by rw [e1, hk q (Nat.lt_of_lt_of_le h1 hS.1) h2]; exact hS.2.1 q h1 h2, fun q hq => by
    rcases List.mem_append.mp hq with h | h
    · exact hS.2.2 q h
    · exact hL q h⟩ T' rfl X'
  exact ⟨t2, st t2 a1, b1⟩
theorem jx_blind (w : jx_Wd) (a : List jx_V) (h : jx_H) : FrameBlind (va_Pc (a.map (jx_tr (jx_ad w))) (jx_Pu w h)) := by
  intro a1 U g mk hq
  obtain ⟨q1, q2, q3⟩ := hq
  exact ⟨q1, q2, jx_wk_blind g mk a1 q3⟩
end
section
variable {cc : ByteArray} {nL : Nat} {own : String} {ret : Option FieldType} {D : jx_D} {pc : Nat}
/-- a static call, as far as the callee's end -/
theorem jx_runS {p : Program} {l : Launch} {e : Env} {R : Room} {s : State} {m : MethodId} {args : Array Value} {below : List Frame} {meth : Method} {c : Code} {w : jx_Wd} (C : jx_Cx p l R s m args meth c w cc nL own ret D) {y n idx : Nat} {a st' : List jx_V} {h : jx_H} {r' : jx_R} {H : Heap} {locs : List Loc} {ls : Array Slot}
    (hd : decode cc pc = .ok (.invokestatic idx, 3)) (mf : jx_mfS y n) (hlk : Cond.methodLink own idx (jx_m y).1 ∈ jx_tg ∨ ∃ host, Cond.methodLinkNest own idx (jx_m y).1 host ∈ jx_nest) (ho : D y a h = some r') (hok : ∀ v ∈ a, jx_ok w v) (hn : a.length = n) (hct : jx_ct st' ≤ 8)
    (hP : va_P (jx_dd w) jx_cl (jx_ws w h) H) (hS : va_S (jx_ar w) s.heap H locs) (hl : ls.size = nL) :
    va_Run p l e R s m args below meth c H locs 0 0 0 0 (F0 m pc ls ((a.reverse ++ st').map (jx_tr (jx_ad w)))) (st'.map (jx_tr (jx_ad w))) (jx_Po w r' (a.map (jx_tr (jx_ad w))).toArray) (jx_ar w) := by
  obtain ⟨cf, hr, hlocks, hw, hK, d, hR, hD⟩ := C
  obtain ⟨⟨m1, m2, m3, m4⟩, m5⟩ := mf
  have hM := hD y a h r' ho hok
  have hroom : (jx_rm d).frames + 1 ≤ R.frames ∧ 8 + ((jx_m y).2.2.1 + 11) + (jx_rm d).locals ≤ R.locals := by
    rw [hR]
    refine ⟨Nat.le_refl _, ?_⟩
    show 8 + ((jx_m y).2.2.1 + 11) + 64 * d ≤ 64 * (d + 1)
    omega
  have hpre : PreS s H (va_Pc (a.map (jx_tr (jx_ad w))) (jx_Pu w h)) (a.map (jx_tr (jx_ad w))) := ⟨jx_blind w a h, fun U hU hW => ⟨rfl, by rw [hU]; exact hP, jx_wk_warm hK hU hW hS⟩⟩
  have hstk : (F0 m pc ls ((a.reverse ++ st').map (jx_tr (jx_ad w)))).stack = (a.map (jx_tr (jx_ad w))).reverse ++ st'.map (jx_tr (jx_ad w)) := by
    show (a.reverse ++ st').map _ = _
    rw [List.map_append, List.map_reverse]
  have hcat : 2 * (F0 m pc ls ((a.reverse ++ st').map (jx_tr (jx_ad w)))).monitorRoom + ((st'.map (jx_tr (jx_ad w))).map fun v => v.category).sum ≤ 8 := lv_room (by rw [jx_ct_sum]; exact hct)
  rcases hlk with hlk | ⟨host, hlk⟩
  · exact va_runS (n := n) cf hM (va_cwS n cf.2.2.2.2 (fun x hx => by
      simp only [va_wsS, List.mem_append, List.mem_cons, List.not_mem_nil, or_false] at hx
      rcases hx with (rfl | rfl | rfl) | hx
      · exact jx_good hlk
      · exact jx_good m5
      · exact jx_good m4
      · exact jx_goodwy m3 x hx) rfl rfl rfl m1 hroom) hpre rfl (by simpa using hn) hl hstk hcat hd ⟨Nat.zero_le _, Nat.zero_le _⟩
  · exact va_runSN (n := n) cf hM ⟨va_cnB n cf.2.2.2.2 (jx_goodwy m3) rfl rfl rfl (hK.2.1 _ hlk) (cf.2.2.2.2 _ m4) m1 hroom, cf.2.2.2.2 _ m5, trivial⟩ hpre rfl (by simpa using hn) hl hstk hcat hd ⟨Nat.zero_le _, Nat.zero_le _⟩
/-- a virtual call -/
theorem jx_runV {p : Program} {l : Launch} {e : Env} {R : Room} {s : State} {m : MethodId} {args : Array Value} {below : List Frame} {meth : Method} {c : Code} {w : jx_Wd} (C : jx_Cx p l R s m args meth c w cc nL own ret D) {y n idx k ci i N : Nat} {T : u_T} {fl : List jx_F} {a st' : List jx_V} {h : jx_H} {r' : jx_R} {H : Heap} {locs : List Loc} {ls : Array Slot}
    (hd : decode cc pc = .ok (.invokevirtual idx, 3)) (mf : jx_mfV y n) (hlk : Cond.methodLink own idx (jx_m y).1 ∈ jx_tg) (hob : jx_ob k = some (ci, fl)) (hcl : jx_cl[ci]? = some ((jx_m y).1.cls, T, N)) (ho : D y (vr k i :: a) h = some r') (hok : ∀ v ∈ vr k i :: a, jx_ok w v) (hn : a.length = n) (hct : jx_ct st' ≤ 8)
    (hP : va_P (jx_dd w) jx_cl (jx_ws w h) H) (hS : va_S (jx_ar w) s.heap H locs) (hl : ls.size = nL) :
    va_Run p l e R s m args below meth c H locs 0 0 0 0 (F0 m pc ls (((vr k i :: a).reverse ++ st').map (jx_tr (jx_ad w)))) (st'.map (jx_tr (jx_ad w))) (jx_Po w r' ((vr k i :: a).map (jx_tr (jx_ad w))).toArray) (jx_ar w) := by
  obtain ⟨cf, hr, hlocks, hw, hK, d, hR, hD⟩ := C
  obtain ⟨⟨m1, m2, m3, m4⟩, m5, m6⟩ := mf
  have hM := hD y _ h r' ho hok
  have hm := jx_mem_of (jx_oh hok) (jx_ob60 hob)
  obtain ⟨q0, -, hq0⟩ := jx_ws_at (w := w) (h := h) hm
  rw [jx_cell_o hob] at hq0
  have hroom : (jx_rm d).frames + 1 ≤ R.frames ∧ 8 + ((jx_m y).2.2.1 + 11) + (jx_rm d).locals ≤ R.locals := by
    rw [hR]
    refine ⟨Nat.le_refl _, ?_⟩
    show 8 + ((jx_m y).2.2.1 + 11) + 64 * d ≤ 64 * (d + 1)
    omega
  have hpre : PreV s H (jx_m y).1.cls (jx_ad w k i) (va_Pc ((vr k i :: a).map (jx_tr (jx_ad w))) (jx_Pu w h)) (a.map (jx_tr (jx_ad w))) := ⟨jx_blind w _ h, va_recv hK.1 hP hcl hq0, fun U hU hW => ⟨rfl, by rw [hU]; exact hP, jx_wk_warm hK hU hW hS⟩⟩
  have hstk : (F0 m pc ls (((vr k i :: a).reverse ++ st').map (jx_tr (jx_ad w)))).stack = (a.map (jx_tr (jx_ad w))).reverse ++ .ref (jx_ad w k i) :: st'.map (jx_tr (jx_ad w)) := by
    show ((vr k i :: a).reverse ++ st').map _ = _
    simp [jx_tr]
  have hcat : 2 * (F0 m pc ls (((vr k i :: a).reverse ++ st').map (jx_tr (jx_ad w)))).monitorRoom + ((st'.map (jx_tr (jx_ad w))).map fun v => v.category).sum ≤ 8 := lv_room (by rw [jx_ct_sum]; exact hct)
  exact va_runV (n := n) cf hM (cwV n cf.2.2.2.2 (fun x hx => by
    simp only [wsV, List.mem_append, List.mem_cons, List.not_mem_nil, or_false] at hx
    rcases hx with (rfl | rfl | rfl | rfl) | hx
    · exact jx_good hlk
    · exact jx_good m5
    · exact jx_good m6
    · exact jx_good m4
    · exact jx_goodwy m3 x hx) rfl rfl rfl ⟨rfl, m1⟩ hroom) hpre rfl (by simpa using hn) hl hstk hcat hd ⟨Nat.zero_le _, Nat.zero_le _⟩
theorem jx_oap {w : jx_Wd} {a t : List jx_V} (h : ∀ v ∈ a.reverse ++ t, jx_ok w v) : (∀ v ∈ a, jx_ok w v) ∧ ∀ v ∈ t, jx_ok w v := ⟨fun v hv => h v (List.mem_append_left _ (List.mem_reverse.mpr hv)), fun v hv => h v (List.mem_append_right _ hv)⟩
theorem sd_cI {y n idx : Nat} (hd : decode cc pc = .ok (.invokestatic idx, 3)) (mf : jx_mfS y n) (hlk : Cond.methodLink own idx (jx_m y).1 ∈ jx_tg ∨ ∃ host, Cond.methodLinkNest own idx (jx_m y).1 host ∈ jx_nest) : jx_Snd cc nL own ret D pc (jx_cI D y n (pc + 3)) := by
  intro p l e R s m args below meth cd w r C k lo st h hk ha H locs ls hP hS hl o1 o2
  unfold jx_cI at ha
  split at ha
  · rename_i a st' e0
    obtain ⟨rfl, hn⟩ := jx_tk_0 e0
    cases hct : Nat.ble (jx_ct st') 8 with
    | false => rw [hct] at ha; cases ha
    | true =>
      rw [hct] at ha
      obtain ⟨ok1, ok2⟩ := jx_oap o2
      obtain ⟨x, h', e1, e2⟩ := jx_bI_of ha
      exact jx_call (jx_runS C hd mf hlk e1 ok1 hn (Nat.le_of_ble_eq_true hct) hP hS hl.2.1) hS (fun H1 locs1 hP1 hS1 => hk _ _ _ _ e2 H1 locs1 ls hP1 hS1 hl o1 (jx_oc trivial ok2))
  · cases ha
theorem sd_cL {y n idx : Nat} (hd : decode cc pc = .ok (.invokestatic idx, 3)) (mf : jx_mfS y n) (hlk : Cond.methodLink own idx (jx_m y).1 ∈ jx_tg ∨ ∃ host, Cond.methodLinkNest own idx (jx_m y).1 host ∈ jx_nest) : jx_Snd cc nL own ret D pc (jx_cL D y n (pc + 3)) := by
  intro p l e R s m args below meth cd w r C k lo st h hk ha H locs ls hP hS hl o1 o2
  unfold jx_cL at ha
  split at ha
  · rename_i a st' e0
    obtain ⟨rfl, hn⟩ := jx_tk_0 e0
    cases hct : Nat.ble (jx_ct st') 8 with
    | false => rw [hct] at ha; cases ha
    | true =>
      rw [hct] at ha
      obtain ⟨ok1, ok2⟩ := jx_oap o2
      obtain ⟨x, h', e1, e2⟩ := jx_bL_of ha
      exact jx_call (jx_runS C hd mf hlk e1 ok1 hn (Nat.le_of_ble_eq_true hct) hP hS hl.2.1) hS (fun H1 locs1 hP1 hS1 => hk _ _ _ _ e2 H1 locs1 ls hP1 hS1 hl o1 (jx_oc trivial ok2))
  · cases ha
theorem sd_cV {y n idx : Nat} (hd : decode cc pc = .ok (.invokestatic idx, 3)) (mf : jx_mfS y n) (hlk : Cond.methodLink own idx (jx_m y).1 ∈ jx_tg ∨ ∃ host, Cond.methodLinkNest own idx (jx_m y).1 host ∈ jx_nest) : jx_Snd cc nL own ret D pc (jx_cV D y n (pc + 3)) := by
  intro p l e R s m args below meth cd w r C k lo st h hk ha H locs ls hP hS hl o1 o2
  unfold jx_cV at ha
  split at ha
  · rename_i a st' e0
    obtain ⟨rfl, hn⟩ := jx_tk_0 e0
    cases hct : Nat.ble (jx_ct st') 8 with
    | false => rw [hct] at ha; cases ha
    | true =>
      rw [hct] at ha
      obtain ⟨ok1, ok2⟩ := jx_oap o2
      obtain ⟨h', e1, e2⟩ := jx_bV_of ha
      exact jx_call (jx_runS C hd mf hlk e1 ok1 hn (Nat.le_of_ble_eq_true hct) hP hS hl.2.1) hS (fun H1 locs1 hP1 hS1 => hk _ _ _ _ e2 H1 locs1 ls hP1 hS1 hl o1 ok2)
  · cases ha
theorem sd_vI {y n idx kd ci N : Nat} {T : u_T} {fl : List jx_F} (hd : decode cc pc = .ok (.invokevirtual idx, 3)) (mf : jx_mfV y n) (hlk : Cond.methodLink own idx (jx_m y).1 ∈ jx_tg) (hob : jx_ob kd = some (ci, fl)) (hcl : jx_cl[ci]? = some ((jx_m y).1.cls, T, N)) : jx_Snd cc nL own ret D pc (jx_vI D y kd (n + 1) (pc + 3)) := by
  intro p l e R s m args below meth cd w r C k lo st h hk ha H locs ls hP hS hl o1 o2
  unfold jx_vI at ha
  split at ha
  · rename_i c' i a st' e0
    obtain ⟨rfl, hn⟩ := jx_tk_0 e0
    cases hct : Nat.beq c' kd && Nat.ble (jx_ct st') 8 with
    | false => rw [hct] at ha; cases ha
    | true =>
      rw [hct] at ha
      obtain ⟨hc1, hct2⟩ := Bool.and_eq_true_iff.mp hct
      have := jx_beq hc1
      subst this
      obtain ⟨ok1, ok2⟩ := jx_oap o2
      obtain ⟨x, h', e1, e2⟩ := jx_bI_of ha
      exact jx_call (jx_runV C hd mf hlk hob hcl e1 ok1 (by simpa using hn) (Nat.le_of_ble_eq_true hct2) hP hS hl.2.1) hS (fun H1 locs1 hP1 hS1 => hk _ _ _ _ e2 H1 locs1 ls hP1 hS1 hl o1 (jx_oc trivial ok2))
  · cases ha
theorem sd_vL {y n idx kd ci N : Nat} {T : u_T} {fl : List jx_F} (hd : decode cc pc = .ok (.invokevirtual idx, 3)) (mf : jx_mfV y n) (hlk : Cond.methodLink own idx (jx_m y).1 ∈ jx_tg) (hob : jx_ob kd = some (ci, fl)) (hcl : jx_cl[ci]? = some ((jx_m y).1.cls, T, N)) : jx_Snd cc nL own ret D pc (jx_vL D y kd (n + 1) (pc + 3)) := by
  intro p l e R s m args below meth cd w r C k lo st h hk ha H locs ls hP hS hl o1 o2
  unfold jx_vL at ha
  split at ha
  · rename_i c' i a st' e0
    obtain ⟨rfl, hn⟩ := jx_tk_0 e0
    cases hct : Nat.beq c' kd && Nat.ble (jx_ct st') 8 with
    | false => rw [hct] at ha; cases ha
    | true =>
      rw [hct] at ha
      obtain ⟨hc1, hct2⟩ := Bool.and_eq_true_iff.mp hct
      have := jx_beq hc1
      subst this
      obtain ⟨ok1, ok2⟩ := jx_oap o2
      obtain ⟨x, h', e1, e2⟩ := jx_bL_of ha
      exact jx_call (jx_runV C hd mf hlk hob hcl e1 ok1 (by simpa using hn) (Nat.le_of_ble_eq_true hct2) hP hS hl.2.1) hS (fun H1 locs1 hP1 hS1 => hk _ _ _ _ e2 H1 locs1 ls hP1 hS1 hl o1 (jx_oc trivial ok2))
  · cases ha
theorem sd_vV {y n idx kd ci N : Nat} {T : u_T} {fl : List jx_F} (hd : decode cc pc = .ok (.invokevirtual idx, 3)) (mf : jx_mfV y n) (hlk : Cond.methodLink own idx (jx_m y).1 ∈ jx_tg) (hob : jx_ob kd = some (ci, fl)) (hcl : jx_cl[ci]? = some ((jx_m y).1.cls, T, N)) : jx_Snd cc nL own ret D pc (jx_vV D y kd (n + 1) (pc + 3)) := by
  intro p l e R s m args below meth cd w r C k lo st h hk ha H locs ls hP hS hl o1 o2
  unfold jx_vV at ha
  split at ha
  · rename_i c' i a st' e0
    obtain ⟨rfl, hn⟩ := jx_tk_0 e0
    cases hct : Nat.beq c' kd && Nat.ble (jx_ct st') 8 with
    | false => rw [hct] at ha; cases ha
    | true =>
      rw [hct] at ha
      obtain ⟨hc1, hct2⟩ := Bool.and_eq_true_iff.mp hct
      have := jx_beq hc1
      subst this
      obtain ⟨ok1, ok2⟩ := jx_oap o2
      obtain ⟨h', e1, e2⟩ := jx_bV_of ha
      exact jx_call (jx_runV C hd mf hlk hob hcl e1 ok1 (by simpa using hn) (Nat.le_of_ble_eq_true hct2) hP hS hl.2.1) hS (fun H1 locs1 hP1 hS1 => hk _ _ _ _ e2 H1 locs1 ls hP1 hS1 hl o1 ok2)
  · cases ha
end
/-- a table's run is the machine's -/
theorem jx_sound {cc : ByteArray} {nL : Nat} {own : String} {ret : Option FieldType} {D : jx_D} {p : Program} {l : Launch} {e : Env} {R : Room} {s : State} {m : MethodId} {args : Array Value} {below : List Frame} {meth : Method} {c : Code} {w : jx_Wd} {ct : Nat → jx_A} {nm : Nat → List jx_V → List jx_V} (C : jx_Cx p l R s m args meth c w cc nL own ret D) (hs : ∀ pc, jx_Snd cc nL own ret D pc (ct pc)) (hn : jx_nmok nm) {r : jx_R} :
    ∀ (n pc : Nat) (lo st : List jx_V) (h : jx_H), jx_run ct nm n pc lo st h = some r → jx_Go p l e R s m args below meth c w nL r pc lo st h := by
  intro n
  induction n with
  | zero => intro pc lo st h hr; cases hr
  | succ n ih =>
    intro pc lo st h hr
    refine hs pc p l e R s m args below meth c w r C _ lo st h (fun pc' lo' st' h' hk => ?_) hr
    have g := ih _ _ _ _ hk
    intro H locs ls hP hS hl o1 o2
    exact g H locs ls hP hS (jx_lr_nm hn hl) ((hn pc' lo').2.2 w o1) o2
def jx_all (P : Nat × jx_A → Prop) : List (Nat × jx_A) → Prop
  | [] => True
  | q :: r => P q ∧ jx_all P r
theorem jx_all0 {P : Nat × jx_A → Prop} : jx_all P [] := trivial
theorem jx_all1 {P : Nat × jx_A → Prop} {q : Nat × jx_A} {r : List (Nat × jx_A)} (h : P q) (h2 : jx_all P r) : jx_all P (q :: r) := ⟨h, h2⟩
theorem jx_all_mem {P : Nat × jx_A → Prop} : ∀ {t : List (Nat × jx_A)}, jx_all P t → ∀ q ∈ t, P q := by
  intro t
  induction t with
  | nil => intro _ q hq; cases hq
  | cons a t ih =>
    intro h q hq
    rcases List.mem_cons.mp hq with rfl | hq
    · exact h.1
    · exact ih h.2 q hq
theorem jx_look_snd {cc : ByteArray} {nL : Nat} {own : String} {ret : Option FieldType} {D : jx_D} {t : List (Nat × jx_A)} (h : jx_all (fun q => jx_Snd cc nL own ret D q.1 q.2) t) : ∀ pc, jx_Snd cc nL own ret D pc (jx_look t pc) := by
  induction t with
  | nil => intro pc; exact sd_no
  | cons q r ih =>
    intro pc
    show jx_Snd cc nL own ret D pc (bif Nat.beq q.1 pc then q.2 else jx_look r pc)
    cases hb : Nat.beq q.1 pc with
    | true =>
      have := jx_beq hb
      subst this
      exact h.1
    | false => exact ih h.2 pc
def jx_c1 : List jx_V → Bool
  | [] => true
  | .inl (.inr _) :: _ => false
  | _ :: t => jx_c1 t
theorem jx_c1_of : ∀ {a : List jx_V}, jx_c1 a = true → ∀ v ∈ a, ∀ x, v ≠ vl x := by
  intro a
  induction a with
  | nil => intro _ v hv; cases hv
  | cons b t ih =>
    intro h v hv x
    rcases List.mem_cons.mp hv with rfl | hv
    · intro e
      subst e
      cases h
    · refine ih ?_ v hv x
      rcases b with (y | y) | (_ | y) <;> first | exact h | cases h
theorem jx_cat1 {ad : Nat → Nat → Nat} {v : jx_V} (h : ∀ x, v ≠ vl x) : (jx_tr ad v).category = 1 := by
  rcases v with (x | x) | (_ | r)
  · rfl
  · exact absurd rfl (h x)
  · rfl
  · rfl
theorem jx_sl1 {ad : Nat → Nat → Nat} : ∀ {a : List jx_V}, (∀ v ∈ a, ∀ x, v ≠ vl x) → (lg_sl (a.map (jx_tr ad))).length = a.length := by
  intro a
  induction a with
  | nil => intro _; rfl
  | cons b t ih =>
    intro h
    have hb := jx_cat1 (ad := ad) (h b List.mem_cons_self)
    have := ih (fun v hv => h v (List.mem_cons_of_mem _ hv))
    simp only [lg_sl, List.map_cons, List.flatMap_cons, List.length_append, List.length_cons] at this ⊢
    rw [this]
    simp [hb]
    omega
theorem jx_args1 {ad : Nat → Nat → Nat} : ∀ {a : List jx_V} (i0 : Nat), (∀ v ∈ a, ∀ x, v ≠ vl x) → ∀ (j : Nat), jx_nth a j ≠ vn → (i0 + j, jx_tr ad (jx_nth a j)) ∈ lv_args i0 (a.map (jx_tr ad)) := by
  intro a
  induction a with
  | nil => intro i0 _ j hj; cases j <;> exact absurd rfl hj
  | cons b t ih =>
    intro i0 h j hj
    have hb := jx_cat1 (ad := ad) (h b List.mem_cons_self)
    have e : lv_args i0 ((b :: t).map (jx_tr ad)) = (i0, jx_tr ad b) :: lv_args (i0 + 1) (t.map (jx_tr ad)) := by
      simp only [List.map_cons, lv_args, hb]
      rfl
    rw [e]
    cases j with
    | zero => exact List.mem_cons_self
    | succ j =>
      have := ih (i0 + 1) (fun v hv => h v (List.mem_cons_of_mem _ hv)) j hj
      rw [show i0 + (j + 1) = i0 + 1 + j by omega]
      exact List.mem_cons_of_mem _ this
theorem jx_pad_nth : ∀ (n : Nat) (a : List jx_V) (j : Nat), jx_nth (jx_pad n a) j = vn ∨ jx_nth (jx_pad n a) j = jx_nth a j := by
  intro n
  induction n with
  | zero => intro a j; exact Or.inl (by cases j <;> rfl)
  | succ n ih =>
    intro a j
    cases a with
    | nil =>
      cases j with
      | zero => exact Or.inl rfl
      | succ j =>
        rcases ih [] j with h | h
        · exact Or.inl h
        · exact Or.inl (h.trans (by cases j <;> rfl))
    | cons b t =>
      cases j with
      | zero => exact Or.inr rfl
      | succ j => exact ih t j
theorem jx_pad_len : ∀ (n : Nat) (a : List jx_V), (jx_pad n a).length = n := by
  intro n
  induction n with
  | zero => intro a; cases a <;> rfl
  | succ n ih => intro a; cases a <;> simp only [jx_pad, List.length_cons, ih]
theorem jx_pad_ok {w : jx_Wd} : ∀ (n : Nat) (a : List jx_V), (∀ v ∈ a, jx_ok w v) → ∀ v ∈ jx_pad n a, jx_ok w v := by
  intro n
  induction n with
  | zero => intro a _ v hv; cases a <;> cases hv
  | succ n ih =>
    intro a h v hv
    cases a with
    | nil =>
      rcases List.mem_cons.mp hv with rfl | hv
      · trivial
      · exact ih [] h v hv
    | cons b t =>
      rcases List.mem_cons.mp hv with rfl | hv
      · exact h _ List.mem_cons_self
      · exact ih t (fun v hv => h v (List.mem_cons_of_mem _ hv)) v hv
/-- a method out of its table -/
theorem jx_met {l : Launch} {w : jx_Wd} {d y : Nat} {tab : List (Nat × jx_A)} {nm : Nat → List jx_V → List jx_V} {D : jx_D} (hy : plainName (jx_m y).1.cls = true) (hs : jx_all (fun q => jx_Snd (jx_m y).2.1 (jx_m y).2.2.1 (jx_m y).1.cls (jx_m y).2.2.2 D q.1 q.2) tab) (hnm : jx_nmok nm) (hw : jx_wf w)
    (hD : ∀ y a h r, D y a h = some r → (∀ v ∈ a, jx_ok w v) → jx_MT l w d y a h r) {a : List jx_V} {h : jx_H} {r : jx_R} (hr : jx_den (jx_look tab) nm 0 (nm 0 (jx_pad (jx_m y).2.2.1 a)) [] h = some r) (ha : ∀ v ∈ a, jx_ok w v) (h1 : jx_c1 a = true) (h2 : a.length ≤ (jx_m y).2.2.1) : jx_MT l w (d + 1) y a h r := by
  obtain ⟨n, hr⟩ := jx_den_run hr
  refine Met.ofW (cc := (jx_m y).2.1) (maxL := (jx_m y).2.2.1) (ret := (jx_m y).2.2.2) hy rfl ?_
  intro p e s m args below meth c s₁ B hml hv
  obtain ⟨rfl, hP, hK⟩ := hv
  have hts := atoms_spec (ws := jx_wy y) B.pre
  have C : jx_Cx p l (headSpec (jx_wy y) (jx_rm (d + 1))).room s m (a.map (jx_tr (jx_ad w))).toArray meth c w (jx_m y).2.1 (jx_m y).2.2.1 (jx_m y).1.cls (jx_m y).2.2.2 D :=
    ⟨⟨B.exec, B.bytes, hml, findClass_of_methodNamed B.named, fun x hx => hts x (List.mem_cons_of_mem _ hx)⟩, B.returns, B.notSynchronized, hw, hK, d, rfl, hD⟩
  have hc := jx_c1_of h1
  have hl := lv_entry (a.map (jx_tr (jx_ad w))) (n := (jx_m y).2.2.1) (by rw [jx_sl1 hc]; exact h2)
  rw [lg_entry_eq]
  generalize (lg_sl (a.map (jx_tr (jx_ad w))) ++ List.replicate ((jx_m y).2.2.1 - (lg_sl (a.map (jx_tr (jx_ad w)))).length) Slot.unset).toArray = ls at hl ⊢
  have hlr : jx_lr (jx_ad w) (jx_m y).2.2.1 (jx_pad (jx_m y).2.2.1 a) ls := by
    refine ⟨jx_pad_len _ _, hl.1, hl.2.1, fun j hj => ?_⟩
    rcases jx_pad_nth (jx_m y).2.2.1 a j with e | e
    · exact absurd e hj
    · rw [e] at hj ⊢
      have := hl.2.2 _ (jx_args1 0 hc j hj)
      rw [Nat.zero_add] at this
      exact this
  exact jx_sound C (jx_look_snd hs) hnm n 0 _ [] h hr s.heap [] ls hP va_S.rf (jx_lr_nm hnm hlr) ((hnm 0 _).2.2 w (jx_pad_ok _ _ ha)) (fun _ h => by cases h)
