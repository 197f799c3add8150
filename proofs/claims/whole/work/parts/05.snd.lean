/-! ===== the acts are the machine's ===== -/
/-- virtual calls: the receiver's kind is looked at -/
def jx_vI (D : jx_D) (y c n nx : Nat) : jx_A := fun k l s h => match jx_tk n [] s with
  | some (.inr (some (c', i)) :: a, s) => bif Nat.beq c' c && Nat.ble (jx_ct s) 8 then jx_bI (D y (vr c i :: a) h) (fun x h => k nx l (vi x :: s) h) else none
  | _ => none
def jx_vL (D : jx_D) (y c n nx : Nat) : jx_A := fun k l s h => match jx_tk n [] s with
  | some (.inr (some (c', i)) :: a, s) => bif Nat.beq c' c && Nat.ble (jx_ct s) 8 then jx_bL (D y (vr c i :: a) h) (fun x h => k nx l (vl x :: s) h) else none
  | _ => none
def jx_vV (D : jx_D) (y c n nx : Nat) : jx_A := fun k l s h => match jx_tk n [] s with
  | some (.inr (some (c', i)) :: a, s) => bif Nat.beq c' c && Nat.ble (jx_ct s) 8 then jx_bV (D y (vr c i :: a) h) (fun h => k nx l s h) else none
  | _ => none
def jx_rm (d : Nat) : Room := { frames := d, cells := 0, slots := 0, locals := 64 * d }
def jx_wk (w : jx_Wd) (U : State) : Prop := va_K (jx_dd w) jx_cl (jx_tys w) U ∧ (∀ x ∈ jx_nest, va_Nw x U) ∧ va_Z RX9 "KIND_ABOVE" "[I" (.ref (jx_ad w 60 0)) (jx_ar w) U U.heap ∧ va_T .int (jx_ad w 60 0) 4 (fun j => .int (jx_ka j)) (jx_ar w) U U.heap
def jx_Pu (w : jx_Wd) (h : jx_H) (U : State) : Prop := va_P (jx_dd w) jx_cl (jx_ws w h) U.heap ∧ jx_wk w U
def jx_Po (w : jx_Wd) (r : jx_R) : Array Value → State → Outcome → State → Prop := fun _ st oc t => oc = .returned (r.1.head?.map (jx_tr (jx_ad w))) ∧ va_P (jx_dd w) jx_cl (jx_ws w r.2) t.heap ∧ va_F (jx_ar w) st t
def jx_wy (y : Nat) : List Cond := .code (jx_m y).1 (jx_m y).2.1 (jx_m y).2.2.1 (jx_m y).2.2.2 :: jx_tg
def jx_MT (l : Launch) (w : jx_Wd) (d y : Nat) (a : List jx_V) (h : jx_H) (r : jx_R) : Prop := Met l (jx_m y).1 (jx_wy y) (jx_rm d) (va_Pc (a.map (jx_tr (jx_ad w))) (jx_Pu w h)) (jx_Po w r) 0 0 (jx_ar w)
def jx_Cx (p : Program) (l : Launch) (R : Room) (s : State) (m : MethodId) (args : Array Value) (meth : Method) (c : Code) (w : jx_Wd) (cc : ByteArray) (nL : Nat) (own : String) (ret : Option FieldType) (D : jx_D) : Prop :=
  CallFix p m c cc nL s args jx_tg own ∧ meth.sig.returnType = ret ∧ meth.locks = false ∧ jx_wf w ∧ jx_wk w s ∧ ∃ d, R = jx_rm (d + 1) ∧ ∀ y a h r, D y a h = some r → (∀ v ∈ a, jx_ok w v) → jx_MT l w d y a h r
def jx_Go (p : Program) (l : Launch) (e : Env) (R : Room) (s : State) (m : MethodId) (args : Array Value) (below : List Frame) (meth : Method) (c : Code) (w : jx_Wd) (nL : Nat) (r : jx_R) (pc : Nat) (lo st : List jx_V) (h : jx_H) : Prop :=
  ∀ (H : Heap) (locs : List Loc) (ls : Array Slot), va_P (jx_dd w) jx_cl (jx_ws w h) H → va_S (jx_ar w) s.heap H locs → jx_lr (jx_ad w) nL lo ls → (∀ v ∈ lo, jx_ok w v) → (∀ v ∈ st, jx_ok w v) → W p l e R s m args below meth c H locs 0 0 (MQ below (jx_Po w r) args s 0 0 (jx_ar w)) (F0 m pc ls (st.map (jx_tr (jx_ad w))))
def jx_Snd (cc : ByteArray) (nL : Nat) (own : String) (ret : Option FieldType) (D : jx_D) (pc : Nat) (a : jx_A) : Prop :=
  ∀ (p : Program) (l : Launch) (e : Env) (R : Room) (s : State) (m : MethodId) (args : Array Value) (below : List Frame) (meth : Method) (c : Code) (w : jx_Wd) (r : jx_R), jx_Cx p l R s m args meth c w cc nL own ret D →
  ∀ (k : jx_K) (lo st : List jx_V) (h : jx_H), (∀ pc' lo' st' h', k pc' lo' st' h' = some r → jx_Go p l e R s m args below meth c w nL r pc' lo' st' h') → a k lo st h = some r → jx_Go p l e R s m args below meth c w nL r pc lo st h
theorem jx_o1 {w : jx_Wd} {a : jx_V} {t : List jx_V} (h : ∀ v ∈ a :: t, jx_ok w v) : ∀ v ∈ t, jx_ok w v := fun v hv => h v (List.mem_cons_of_mem _ hv)
theorem jx_oh {w : jx_Wd} {a : jx_V} {t : List jx_V} (h : ∀ v ∈ a :: t, jx_ok w v) : jx_ok w a := h a List.mem_cons_self
theorem jx_oc {w : jx_Wd} {a : jx_V} {t : List jx_V} (h1 : jx_ok w a) (h : ∀ v ∈ t, jx_ok w v) : ∀ v ∈ a :: t, jx_ok w v := fun v hv => (List.mem_cons.mp hv).elim (fun e => e ▸ h1) (h v)
section
variable {cc : ByteArray} {nL : Nat} {own : String} {ret : Option FieldType} {D : jx_D} {pc : Nat}
theorem sd_no : jx_Snd cc nL own ret D pc jx_no := fun _ _ _ _ _ _ _ _ _ _ _ _ _ _ _ _ _ _ ha => by cases ha

theorem sd_iconst {n : Int} {v : Int32} (hd : decode cc pc = .ok (.iconst n, 1)) (hv : Int32.ofInt n = v) : jx_Snd cc nL own ret D pc (jx_push (vi v) (pc + 1)) := by
  intro p l e R s m args below meth c w r C k lo st h hk ha H locs ls hP hS hl o1 o2
  obtain ⟨⟨hx, hb, hml, hown, hts⟩, hr, hlocks, hw, hK, d, hR, hD⟩ := C
  exact lv_iconst hx hb hd hv (hk _ _ _ _ ha H locs ls hP hS hl o1 (jx_oc trivial o2))
theorem sd_bipush {n : Int} {v : Int32} (hd : decode cc pc = .ok (.bipush n, 2)) (hv : (Int8.ofInt n).toInt32 = v) : jx_Snd cc nL own ret D pc (jx_push (vi v) (pc + 2)) := by
  intro p l e R s m args below meth c w r C k lo st h hk ha H locs ls hP hS hl o1 o2
  obtain ⟨⟨hx, hb, hml, hown, hts⟩, hr, hlocks, hw, hK, d, hR, hD⟩ := C
  exact lv_bipush hx hb hd hv (hk _ _ _ _ ha H locs ls hP hS hl o1 (jx_oc trivial o2))
theorem sd_sipush {n : Int} {v : Int32} (hd : decode cc pc = .ok (.sipush n, 3)) (hv : (Int16.ofInt n).toInt32 = v) : jx_Snd cc nL own ret D pc (jx_push (vi v) (pc + 3)) := by
  intro p l e R s m args below meth c w r C k lo st h hk ha H locs ls hP hS hl o1 o2
  obtain ⟨⟨hx, hb, hml, hown, hts⟩, hr, hlocks, hw, hK, d, hR, hD⟩ := C
  exact lv_sipush hx hb hd hv (hk _ _ _ _ ha H locs ls hP hS hl o1 (jx_oc trivial o2))
theorem sd_lconst {n : Fin 2} {v : Int64} (hd : decode cc pc = .ok (.lconst n, 1)) (hv : Int64.ofNat (n : Nat) = v) : jx_Snd cc nL own ret D pc (jx_push (vl v) (pc + 1)) := by
  intro p l e R s m args below meth c w r C k lo st h hk ha H locs ls hP hS hl o1 o2
  obtain ⟨⟨hx, hb, hml, hown, hts⟩, hr, hlocks, hw, hK, d, hR, hD⟩ := C
  exact lv_lconst hx hb hd hv (hk _ _ _ _ ha H locs ls hP hS hl o1 (jx_oc trivial o2))
theorem sd_ldcw {i : Nat} {v : Int32} (hd : decode cc pc = .ok (.ldc_w i, 3)) (hc : Cond.constant own i v ∈ jx_tg) : jx_Snd cc nL own ret D pc (jx_push (vi v) (pc + 3)) := by
  intro p l e R s m args below meth c w r C k lo st h hk ha H locs ls hP hS hl o1 o2
  obtain ⟨⟨hx, hb, hml, hown, hts⟩, hr, hlocks, hw, hK, d, hR, hD⟩ := C
  exact lv_ldcw hx hb hown (hts _ hc) hd (hk _ _ _ _ ha H locs ls hP hS hl o1 (jx_oc trivial o2))
theorem sd_ldc2 {i : Nat} {v : Int64} (hd : decode cc pc = .ok (.ldc2_w i, 3)) (hc : Cond.constantLong own i v ∈ jx_tg) : jx_Snd cc nL own ret D pc (jx_push (vl v) (pc + 3)) := by
  intro p l e R s m args below meth c w r C k lo st h hk ha H locs ls hP hS hl o1 o2
  obtain ⟨⟨hx, hb, hml, hown, hts⟩, hr, hlocks, hw, hK, d, hR, hD⟩ := C
  exact lv_ldc2 hx hb hown (hts _ hc) hd (hk _ _ _ _ ha H locs ls hP hS hl o1 (jx_oc trivial o2))
def jx_ldI (i nx : Nat) : jx_A := fun k l s h => match jx_nth l i with
  | .inl (.inl x) => k nx l (vi x :: s) h
  | _ => none
def jx_ldL (i nx : Nat) : jx_A := fun k l s h => match jx_nth l i with
  | .inl (.inr x) => k nx l (vl x :: s) h
  | _ => none
def jx_ldR (i nx : Nat) : jx_A := fun k l s h => match jx_nth l i with
  | .inr (some r) => k nx l (.inr (some r) :: s) h
  | _ => none
def jx_stI (i nL nx : Nat) : jx_A := fun k l s h => match s with
  | .inl (.inl x) :: s => bif jx_pv l i && Nat.blt i nL then k nx (jx_set l i (vi x)) s h else none
  | _ => none
def jx_stR (i nL nx : Nat) : jx_A := fun k l s h => match s with
  | .inr (some r) :: s => bif jx_pv l i && Nat.blt i nL then k nx (jx_set l i (.inr (some r))) s h else none
  | _ => none
def jx_stL (i nL nx : Nat) : jx_A := fun k l s h => match s with
  | .inl (.inr x) :: s => bif jx_pv l i && Nat.blt (i + 1) nL then k nx (jx_set (jx_set l i (vl x)) (i + 1) vn) s h else none
  | _ => none
def jx_incI (i nL : Nat) (c : Int32) (nx : Nat) : jx_A := fun k l s h => match jx_nth l i with
  | .inl (.inl x) => bif jx_pv l i && Nat.blt i nL then k nx (jx_set l i (vi (x + c))) s h else none
  | _ => none
theorem jx_blt {a b : Nat} (h : Nat.blt a b = true) : a < b := Nat.le_of_ble_eq_true h
theorem sd_iload_n {q : Fin 4} {i : Nat} (hd : decode cc pc = .ok (.iload_n q, 1)) (hi : (q : Nat) = i) : jx_Snd cc nL own ret D pc (jx_ldI i (pc + 1)) := by
  intro p l e R s m args below meth c w r C k lo st h hk ha H locs ls hP hS hl o1 o2
  obtain ⟨⟨hx, hb, hml, hown, hts⟩, hr, hlocks, hw, hK, d, hR, hD⟩ := C
  unfold jx_ldI at ha
  have hn := hl.2.2.2 i
  have ho := jx_nth_ok lo i o1
  split at ha
  · rename_i e
    rw [e] at hn ho
    exact lv_iload_n hx hb hd hi (hn (by simp)) (hk _ _ _ _ ha H locs ls hP hS hl o1 (jx_oc ho o2))
  · cases ha
theorem sd_iload {i : Nat} (hd : decode cc pc = .ok (.iload i, 2)) : jx_Snd cc nL own ret D pc (jx_ldI i (pc + 2)) := by
  intro p l e R s m args below meth c w r C k lo st h hk ha H locs ls hP hS hl o1 o2
  obtain ⟨⟨hx, hb, hml, hown, hts⟩, hr, hlocks, hw, hK, d, hR, hD⟩ := C
  unfold jx_ldI at ha
  have hn := hl.2.2.2 i
  have ho := jx_nth_ok lo i o1
  split at ha
  · rename_i e
    rw [e] at hn ho
    exact lv_iload hx hb hd (hn (by simp)) (hk _ _ _ _ ha H locs ls hP hS hl o1 (jx_oc ho o2))
  · cases ha
theorem sd_lload_n {q : Fin 4} {i : Nat} (hd : decode cc pc = .ok (.lload_n q, 1)) (hi : (q : Nat) = i) : jx_Snd cc nL own ret D pc (jx_ldL i (pc + 1)) := by
  intro p l e R s m args below meth c w r C k lo st h hk ha H locs ls hP hS hl o1 o2
  obtain ⟨⟨hx, hb, hml, hown, hts⟩, hr, hlocks, hw, hK, d, hR, hD⟩ := C
  unfold jx_ldL at ha
  have hn := hl.2.2.2 i
  have ho := jx_nth_ok lo i o1
  split at ha
  · rename_i e
    rw [e] at hn ho
    exact lv_lload_n hx hb hd hi (hn (by simp)) (hk _ _ _ _ ha H locs ls hP hS hl o1 (jx_oc ho o2))
  · cases ha
theorem sd_lload {i : Nat} (hd : decode cc pc = .ok (.lload i, 2)) : jx_Snd cc nL own ret D pc (jx_ldL i (pc + 2)) := by
  intro p l e R s m args below meth c w r C k lo st h hk ha H locs ls hP hS hl o1 o2
  obtain ⟨⟨hx, hb, hml, hown, hts⟩, hr, hlocks, hw, hK, d, hR, hD⟩ := C
  unfold jx_ldL at ha
  have hn := hl.2.2.2 i
  have ho := jx_nth_ok lo i o1
  split at ha
  · rename_i e
    rw [e] at hn ho
    exact lv_lload hx hb hd (hn (by simp)) (hk _ _ _ _ ha H locs ls hP hS hl o1 (jx_oc ho o2))
  · cases ha
theorem sd_aload_n {q : Fin 4} {i : Nat} (hd : decode cc pc = .ok (.aload_n q, 1)) (hi : (q : Nat) = i) : jx_Snd cc nL own ret D pc (jx_ldR i (pc + 1)) := by
  intro p l e R s m args below meth c w r C k lo st h hk ha H locs ls hP hS hl o1 o2
  obtain ⟨⟨hx, hb, hml, hown, hts⟩, hr, hlocks, hw, hK, d, hR, hD⟩ := C
  unfold jx_ldR at ha
  have hn := hl.2.2.2 i
  have ho := jx_nth_ok lo i o1
  split at ha
  · rename_i e
    rw [e] at hn ho
    exact lv_aload_n hx hb hd hi (hn (by simp)) (hk _ _ _ _ ha H locs ls hP hS hl o1 (jx_oc ho o2))
  · cases ha
theorem sd_aload {i : Nat} (hd : decode cc pc = .ok (.aload i, 2)) : jx_Snd cc nL own ret D pc (jx_ldR i (pc + 2)) := by
  intro p l e R s m args below meth c w r C k lo st h hk ha H locs ls hP hS hl o1 o2
  obtain ⟨⟨hx, hb, hml, hown, hts⟩, hr, hlocks, hw, hK, d, hR, hD⟩ := C
  unfold jx_ldR at ha
  have hn := hl.2.2.2 i
  have ho := jx_nth_ok lo i o1
  split at ha
  · rename_i e
    rw [e] at hn ho
    exact lv_aload hx hb hd (hn (by simp)) (hk _ _ _ _ ha H locs ls hP hS hl o1 (jx_oc ho o2))
  · cases ha
theorem sd_istore_n {q : Fin 4} {i : Nat} (hd : decode cc pc = .ok (.istore_n q, 1)) (hi : (q : Nat) = i) : jx_Snd cc nL own ret D pc (jx_stI i nL (pc + 1)) := by
  intro p l e R s m args below meth c w r C k lo st h hk ha H locs ls hP hS hl o1 o2
  obtain ⟨⟨hx, hb, hml, hown, hts⟩, hr, hlocks, hw, hK, d, hR, hD⟩ := C
  unfold jx_stI at ha
  split at ha
  · rename_i x st
    cases hp : jx_pv lo i && Nat.blt i nL with
    | false => rw [hp] at ha; cases ha
    | true =>
      rw [hp] at ha
      obtain ⟨hp1, hp2⟩ := Bool.and_eq_true_iff.mp hp
      exact lv_istore_n hx hb hd hi (jx_lr_has hl) (jx_blt hp2) rfl (fun ls' hl' => hk _ _ _ _ ha H locs ls' hP hS (jx_lr_st1 hl hp1 (jx_blt hp2) hl') (jx_set_ok _ _ _ o1 (jx_oh o2)) (jx_o1 o2))
  · cases ha
theorem sd_istore {i : Nat} (hd : decode cc pc = .ok (.istore i, 2)) : jx_Snd cc nL own ret D pc (jx_stI i nL (pc + 2)) := by
  intro p l e R s m args below meth c w r C k lo st h hk ha H locs ls hP hS hl o1 o2
  obtain ⟨⟨hx, hb, hml, hown, hts⟩, hr, hlocks, hw, hK, d, hR, hD⟩ := C
  unfold jx_stI at ha
  split at ha
  · rename_i x st
    cases hp : jx_pv lo i && Nat.blt i nL with
    | false => rw [hp] at ha; cases ha
    | true =>
      rw [hp] at ha
      obtain ⟨hp1, hp2⟩ := Bool.and_eq_true_iff.mp hp
      exact lv_istore hx hb hd (jx_lr_has hl) (jx_blt hp2) rfl (fun ls' hl' => hk _ _ _ _ ha H locs ls' hP hS (jx_lr_st1 hl hp1 (jx_blt hp2) hl') (jx_set_ok _ _ _ o1 (jx_oh o2)) (jx_o1 o2))
  · cases ha
theorem sd_astore_n {q : Fin 4} {i : Nat} (hd : decode cc pc = .ok (.astore_n q, 1)) (hi : (q : Nat) = i) : jx_Snd cc nL own ret D pc (jx_stR i nL (pc + 1)) := by
  intro p l e R s m args below meth c w r C k lo st h hk ha H locs ls hP hS hl o1 o2
  obtain ⟨⟨hx, hb, hml, hown, hts⟩, hr, hlocks, hw, hK, d, hR, hD⟩ := C
  unfold jx_stR at ha
  split at ha
  · rename_i x st
    cases hp : jx_pv lo i && Nat.blt i nL with
    | false => rw [hp] at ha; cases ha
    | true =>
      rw [hp] at ha
      obtain ⟨hp1, hp2⟩ := Bool.and_eq_true_iff.mp hp
      exact lv_astore_n hx hb hd hi (jx_lr_has hl) (jx_blt hp2) rfl (fun ls' hl' => hk _ _ _ _ ha H locs ls' hP hS (jx_lr_st1 hl hp1 (jx_blt hp2) hl') (jx_set_ok _ _ _ o1 (jx_oh o2)) (jx_o1 o2))
  · cases ha
theorem sd_astore {i : Nat} (hd : decode cc pc = .ok (.astore i, 2)) : jx_Snd cc nL own ret D pc (jx_stR i nL (pc + 2)) := by
  intro p l e R s m args below meth c w r C k lo st h hk ha H locs ls hP hS hl o1 o2
  obtain ⟨⟨hx, hb, hml, hown, hts⟩, hr, hlocks, hw, hK, d, hR, hD⟩ := C
  unfold jx_stR at ha
  split at ha
  · rename_i x st
    cases hp : jx_pv lo i && Nat.blt i nL with
    | false => rw [hp] at ha; cases ha
    | true =>
      rw [hp] at ha
      obtain ⟨hp1, hp2⟩ := Bool.and_eq_true_iff.mp hp
      exact lv_astore hx hb hd (jx_lr_has hl) (jx_blt hp2) rfl (fun ls' hl' => hk _ _ _ _ ha H locs ls' hP hS (jx_lr_st1 hl hp1 (jx_blt hp2) hl') (jx_set_ok _ _ _ o1 (jx_oh o2)) (jx_o1 o2))
  · cases ha
theorem sd_lstore_n {q : Fin 4} {i : Nat} (hd : decode cc pc = .ok (.lstore_n q, 1)) (hi : (q : Nat) = i) : jx_Snd cc nL own ret D pc (jx_stL i nL (pc + 1)) := by
  intro p l e R s m args below meth c w r C k lo st h hk ha H locs ls hP hS hl o1 o2
  obtain ⟨⟨hx, hb, hml, hown, hts⟩, hr, hlocks, hw, hK, d, hR, hD⟩ := C
  unfold jx_stL at ha
  split at ha
  · rename_i x st
    cases hp : jx_pv lo i && Nat.blt (i + 1) nL with
    | false => rw [hp] at ha; cases ha
    | true =>
      rw [hp] at ha
      obtain ⟨hp1, hp2⟩ := Bool.and_eq_true_iff.mp hp
      exact lv_lstore_n hx hb hd hi (jx_lr_has hl) (jx_blt hp2) rfl (fun ls' hl' => hk _ _ _ _ ha H locs ls' hP hS (jx_lr_st2 hl hp1 (jx_blt hp2) hl') (jx_set_ok _ _ _ (jx_set_ok _ _ _ o1 (jx_oh o2)) trivial) (jx_o1 o2))
  · cases ha
theorem sd_lstore {i : Nat} (hd : decode cc pc = .ok (.lstore i, 2)) : jx_Snd cc nL own ret D pc (jx_stL i nL (pc + 2)) := by
  intro p l e R s m args below meth c w r C k lo st h hk ha H locs ls hP hS hl o1 o2
  obtain ⟨⟨hx, hb, hml, hown, hts⟩, hr, hlocks, hw, hK, d, hR, hD⟩ := C
  unfold jx_stL at ha
  split at ha
  · rename_i x st
    cases hp : jx_pv lo i && Nat.blt (i + 1) nL with
    | false => rw [hp] at ha; cases ha
    | true =>
      rw [hp] at ha
      obtain ⟨hp1, hp2⟩ := Bool.and_eq_true_iff.mp hp
      exact lv_lstore hx hb hd (jx_lr_has hl) (jx_blt hp2) rfl (fun ls' hl' => hk _ _ _ _ ha H locs ls' hP hS (jx_lr_st2 hl hp1 (jx_blt hp2) hl') (jx_set_ok _ _ _ (jx_set_ok _ _ _ o1 (jx_oh o2)) trivial) (jx_o1 o2))
  · cases ha
theorem sd_iinc {i : Nat} {n : Int} {v : Int32} (hd : decode cc pc = .ok (.iinc i n, 3)) (hv : Int32.ofInt n = v) : jx_Snd cc nL own ret D pc (jx_incI i nL v (pc + 3)) := by
  intro p l e R s m args below meth c w r C k lo st h hk ha H locs ls hP hS hl o1 o2
  obtain ⟨⟨hx, hb, hml, hown, hts⟩, hr, hlocks, hw, hK, d, hR, hD⟩ := C
  subst hv
  unfold jx_incI at ha
  split at ha
  · rename_i x e
    cases hp : jx_pv lo i && Nat.blt i nL with
    | false => rw [hp] at ha; cases ha
    | true =>
      rw [hp] at ha
      obtain ⟨hp1, hp2⟩ := Bool.and_eq_true_iff.mp hp
      have hm : (i, Value.int x) ∈ jx_lv (jx_ad w) lo := by
        have := jx_lv_mem (ad := jx_ad w) (l := lo) (j := i) (by rw [e]; simp)
        rw [e] at this
        exact this
      obtain ⟨k0, hk0⟩ := List.getElem?_of_mem hm
      exact lv_iinc hx hb hd (jx_lr_has hl) hk0 rfl (jx_blt hp2) rfl (fun ls' hl' => hk _ _ _ _ ha H locs ls' hP hS (jx_lr_st1 (v := vi (x + Int32.ofInt n)) hl hp1 (jx_blt hp2) hl') (jx_set_ok _ _ _ o1 trivial) o2)
  · cases ha
theorem sd_iadd (hd : decode cc pc = .ok (.iadd, 1)) : jx_Snd cc nL own ret D pc (jx_i2 (fun x y => x + y) (pc + 1)) := by
  intro p l e R s m args below meth c w r C k lo st h hk ha H locs ls hP hS hl o1 o2
  obtain ⟨⟨hx, hb, hml, hown, hts⟩, hr, hlocks, hw, hK, d, hR, hD⟩ := C
  unfold jx_i2 at ha
  split at ha
  · exact lv_iadd hx hb hd (hk _ _ _ _ ha H locs ls hP hS hl o1 (jx_oc trivial (jx_o1 (jx_o1 o2))))
  · cases ha
theorem sd_isub (hd : decode cc pc = .ok (.isub, 1)) : jx_Snd cc nL own ret D pc (jx_i2 (fun x y => x - y) (pc + 1)) := by
  intro p l e R s m args below meth c w r C k lo st h hk ha H locs ls hP hS hl o1 o2
  obtain ⟨⟨hx, hb, hml, hown, hts⟩, hr, hlocks, hw, hK, d, hR, hD⟩ := C
  unfold jx_i2 at ha
  split at ha
  · exact lv_isub hx hb hd (hk _ _ _ _ ha H locs ls hP hS hl o1 (jx_oc trivial (jx_o1 (jx_o1 o2))))
  · cases ha
theorem sd_imul (hd : decode cc pc = .ok (.imul, 1)) : jx_Snd cc nL own ret D pc (jx_i2 (fun x y => x * y) (pc + 1)) := by
  intro p l e R s m args below meth c w r C k lo st h hk ha H locs ls hP hS hl o1 o2
  obtain ⟨⟨hx, hb, hml, hown, hts⟩, hr, hlocks, hw, hK, d, hR, hD⟩ := C
  unfold jx_i2 at ha
  split at ha
  · exact lv_imul hx hb hd (hk _ _ _ _ ha H locs ls hP hS hl o1 (jx_oc trivial (jx_o1 (jx_o1 o2))))
  · cases ha
theorem sd_iand (hd : decode cc pc = .ok (.iand, 1)) : jx_Snd cc nL own ret D pc (jx_i2 (fun x y => x &&& y) (pc + 1)) := by
  intro p l e R s m args below meth c w r C k lo st h hk ha H locs ls hP hS hl o1 o2
  obtain ⟨⟨hx, hb, hml, hown, hts⟩, hr, hlocks, hw, hK, d, hR, hD⟩ := C
  unfold jx_i2 at ha
  split at ha
  · exact lv_iand hx hb hd (hk _ _ _ _ ha H locs ls hP hS hl o1 (jx_oc trivial (jx_o1 (jx_o1 o2))))
  · cases ha
theorem sd_ior (hd : decode cc pc = .ok (.ior, 1)) : jx_Snd cc nL own ret D pc (jx_i2 (fun x y => x ||| y) (pc + 1)) := by
  intro p l e R s m args below meth c w r C k lo st h hk ha H locs ls hP hS hl o1 o2
  obtain ⟨⟨hx, hb, hml, hown, hts⟩, hr, hlocks, hw, hK, d, hR, hD⟩ := C
  unfold jx_i2 at ha
  split at ha
  · exact lv_ior hx hb hd (hk _ _ _ _ ha H locs ls hP hS hl o1 (jx_oc trivial (jx_o1 (jx_o1 o2))))
  · cases ha
theorem sd_ixor (hd : decode cc pc = .ok (.ixor, 1)) : jx_Snd cc nL own ret D pc (jx_i2 (fun x y => x ^^^ y) (pc + 1)) := by
  intro p l e R s m args below meth c w r C k lo st h hk ha H locs ls hP hS hl o1 o2
  obtain ⟨⟨hx, hb, hml, hown, hts⟩, hr, hlocks, hw, hK, d, hR, hD⟩ := C
  unfold jx_i2 at ha
  split at ha
  · exact lv_ixor hx hb hd (hk _ _ _ _ ha H locs ls hP hS hl o1 (jx_oc trivial (jx_o1 (jx_o1 o2))))
  · cases ha
theorem sd_ishl (hd : decode cc pc = .ok (.ishl, 1)) : jx_Snd cc nL own ret D pc (jx_i2 (fun x y => x <<< (y &&& 31)) (pc + 1)) := by
  intro p l e R s m args below meth c w r C k lo st h hk ha H locs ls hP hS hl o1 o2
  obtain ⟨⟨hx, hb, hml, hown, hts⟩, hr, hlocks, hw, hK, d, hR, hD⟩ := C
  unfold jx_i2 at ha
  split at ha
  · exact lv_ishl hx hb hd (hk _ _ _ _ ha H locs ls hP hS hl o1 (jx_oc trivial (jx_o1 (jx_o1 o2))))
  · cases ha
theorem sd_ishr (hd : decode cc pc = .ok (.ishr, 1)) : jx_Snd cc nL own ret D pc (jx_i2 (fun x y => x >>> (y &&& 31)) (pc + 1)) := by
  intro p l e R s m args below meth c w r C k lo st h hk ha H locs ls hP hS hl o1 o2
  obtain ⟨⟨hx, hb, hml, hown, hts⟩, hr, hlocks, hw, hK, d, hR, hD⟩ := C
  unfold jx_i2 at ha
  split at ha
  · exact lv_ishr hx hb hd (hk _ _ _ _ ha H locs ls hP hS hl o1 (jx_oc trivial (jx_o1 (jx_o1 o2))))
  · cases ha
theorem sd_iushr (hd : decode cc pc = .ok (.iushr, 1)) : jx_Snd cc nL own ret D pc (jx_i2 (fun x y => (x.toUInt32 >>> (y.toUInt32 &&& Int32.toUInt32 31)).toInt32) (pc + 1)) := by
  intro p l e R s m args below meth c w r C k lo st h hk ha H locs ls hP hS hl o1 o2
  obtain ⟨⟨hx, hb, hml, hown, hts⟩, hr, hlocks, hw, hK, d, hR, hD⟩ := C
  unfold jx_i2 at ha
  split at ha
  · exact lv_iushr hx hb hd rfl (hk _ _ _ _ ha H locs ls hP hS hl o1 (jx_oc trivial (jx_o1 (jx_o1 o2))))
  · cases ha
theorem sd_ineg (hd : decode cc pc = .ok (.ineg, 1)) : jx_Snd cc nL own ret D pc (jx_i1 (fun x => -x) (pc + 1)) := by
  intro p l e R s m args below meth c w r C k lo st h hk ha H locs ls hP hS hl o1 o2
  obtain ⟨⟨hx, hb, hml, hown, hts⟩, hr, hlocks, hw, hK, d, hR, hD⟩ := C
  unfold jx_i1 at ha
  split at ha
  · exact lv_ineg hx hb hd (hk _ _ _ _ ha H locs ls hP hS hl o1 (jx_oc trivial (jx_o1 o2)))
  · cases ha
theorem sd_i2b (hd : decode cc pc = .ok (.i2b, 1)) : jx_Snd cc nL own ret D pc (jx_i1 (fun x => x.toInt8.toInt32) (pc + 1)) := by
  intro p l e R s m args below meth c w r C k lo st h hk ha H locs ls hP hS hl o1 o2
  obtain ⟨⟨hx, hb, hml, hown, hts⟩, hr, hlocks, hw, hK, d, hR, hD⟩ := C
  unfold jx_i1 at ha
  split at ha
  · exact lv_i2b hx hb hd rfl (hk _ _ _ _ ha H locs ls hP hS hl o1 (jx_oc trivial (jx_o1 o2)))
  · cases ha
theorem sd_i2s (hd : decode cc pc = .ok (.i2s, 1)) : jx_Snd cc nL own ret D pc (jx_i1 (fun x => x.toInt16.toInt32) (pc + 1)) := by
  intro p l e R s m args below meth c w r C k lo st h hk ha H locs ls hP hS hl o1 o2
  obtain ⟨⟨hx, hb, hml, hown, hts⟩, hr, hlocks, hw, hK, d, hR, hD⟩ := C
  unfold jx_i1 at ha
  split at ha
  · exact lv_i2s hx hb hd rfl (hk _ _ _ _ ha H locs ls hP hS hl o1 (jx_oc trivial (jx_o1 o2)))
  · cases ha
theorem sd_i2l (hd : decode cc pc = .ok (.i2l, 1)) : jx_Snd cc nL own ret D pc (jx_i2l (pc + 1)) := by
  intro p l e R s m args below meth c w r C k lo st h hk ha H locs ls hP hS hl o1 o2
  obtain ⟨⟨hx, hb, hml, hown, hts⟩, hr, hlocks, hw, hK, d, hR, hD⟩ := C
  unfold jx_i2l at ha
  split at ha
  · exact lv_i2l hx hb hd rfl (hk _ _ _ _ ha H locs ls hP hS hl o1 (jx_oc trivial (jx_o1 o2)))
  · cases ha
theorem sd_ladd (hd : decode cc pc = .ok (.ladd, 1)) : jx_Snd cc nL own ret D pc (jx_l2 (fun x y => x + y) (pc + 1)) := by
  intro p l e R s m args below meth c w r C k lo st h hk ha H locs ls hP hS hl o1 o2
  obtain ⟨⟨hx, hb, hml, hown, hts⟩, hr, hlocks, hw, hK, d, hR, hD⟩ := C
  unfold jx_l2 at ha
  split at ha
  · exact lv_ladd hx hb hd (hk _ _ _ _ ha H locs ls hP hS hl o1 (jx_oc trivial (jx_o1 (jx_o1 o2))))
  · cases ha
theorem sd_lsub (hd : decode cc pc = .ok (.lsub, 1)) : jx_Snd cc nL own ret D pc (jx_l2 (fun x y => x - y) (pc + 1)) := by
  intro p l e R s m args below meth c w r C k lo st h hk ha H locs ls hP hS hl o1 o2
  obtain ⟨⟨hx, hb, hml, hown, hts⟩, hr, hlocks, hw, hK, d, hR, hD⟩ := C
  unfold jx_l2 at ha
  split at ha
  · exact lv_lsub hx hb hd (hk _ _ _ _ ha H locs ls hP hS hl o1 (jx_oc trivial (jx_o1 (jx_o1 o2))))
  · cases ha
theorem sd_lmul (hd : decode cc pc = .ok (.lmul, 1)) : jx_Snd cc nL own ret D pc (jx_l2 (fun x y => x * y) (pc + 1)) := by
  intro p l e R s m args below meth c w r C k lo st h hk ha H locs ls hP hS hl o1 o2
  obtain ⟨⟨hx, hb, hml, hown, hts⟩, hr, hlocks, hw, hK, d, hR, hD⟩ := C
  unfold jx_l2 at ha
  split at ha
  · exact lv_lmul hx hb hd (hk _ _ _ _ ha H locs ls hP hS hl o1 (jx_oc trivial (jx_o1 (jx_o1 o2))))
  · cases ha
theorem sd_lshl (hd : decode cc pc = .ok (.lshl, 1)) : jx_Snd cc nL own ret D pc (jx_lsh (pc + 1)) := by
  intro p l e R s m args below meth c w r C k lo st h hk ha H locs ls hP hS hl o1 o2
  obtain ⟨⟨hx, hb, hml, hown, hts⟩, hr, hlocks, hw, hK, d, hR, hD⟩ := C
  unfold jx_lsh at ha
  split at ha
  · exact lv_lshl hx hb hd rfl (hk _ _ _ _ ha H locs ls hP hS hl o1 (jx_oc trivial (jx_o1 (jx_o1 o2))))
  · cases ha
theorem sd_lcmp (hd : decode cc pc = .ok (.lcmp, 1)) : jx_Snd cc nL own ret D pc (jx_lcm (pc + 1)) := by
  intro p l e R s m args below meth c w r C k lo st h hk ha H locs ls hP hS hl o1 o2
  obtain ⟨⟨hx, hb, hml, hown, hts⟩, hr, hlocks, hw, hK, d, hR, hD⟩ := C
  unfold jx_lcm at ha
  split at ha
  · exact W.lcmp hx hb hd (hk _ _ _ _ ha H locs ls hP hS hl o1 (jx_oc trivial (jx_o1 (jx_o1 o2))))
  · cases ha
theorem sd_idiv (hd : decode cc pc = .ok (.idiv, 1)) : jx_Snd cc nL own ret D pc (jx_dv (fun x y => x / y) (pc + 1)) := by
  intro p l e R s m args below meth c w r C k lo st h hk ha H locs ls hP hS hl o1 o2
  obtain ⟨⟨hx, hb, hml, hown, hts⟩, hr, hlocks, hw, hK, d, hR, hD⟩ := C
  unfold jx_dv at ha
  split at ha
  · rename_i y x st
    by_cases hy : y = 0
    · rw [jx_ifp hy] at ha; cases ha
    · rw [jx_ifn hy] at ha
      exact lv_idiv hx hb hd hy (hk _ _ _ _ ha H locs ls hP hS hl o1 (jx_oc trivial (jx_o1 (jx_o1 o2))))
  · cases ha
theorem sd_irem (hd : decode cc pc = .ok (.irem, 1)) : jx_Snd cc nL own ret D pc (jx_dv (fun x y => x - x / y * y) (pc + 1)) := by
  intro p l e R s m args below meth c w r C k lo st h hk ha H locs ls hP hS hl o1 o2
  obtain ⟨⟨hx, hb, hml, hown, hts⟩, hr, hlocks, hw, hK, d, hR, hD⟩ := C
  unfold jx_dv at ha
  split at ha
  · rename_i y x st
    by_cases hy : y = 0
    · rw [jx_ifp hy] at ha; cases ha
    · rw [jx_ifn hy] at ha
      exact lv_irem hx hb hd hy (hk _ _ _ _ ha H locs ls hP hS hl o1 (jx_oc trivial (jx_o1 (jx_o1 o2))))
  · cases ha
theorem sd_dup (hd : decode cc pc = .ok (.dup, 1)) : jx_Snd cc nL own ret D pc (jx_dup (pc + 1)) := by
  intro p l e R s m args below meth c w r C k lo st h hk ha H locs ls hP hS hl o1 o2
  obtain ⟨⟨hx, hb, hml, hown, hts⟩, hr, hlocks, hw, hK, d, hR, hD⟩ := C
  unfold jx_dup at ha
  split at ha
  · exact lv_dup hx hb hd rfl (hk _ _ _ _ ha H locs ls hP hS hl o1 (jx_oc trivial o2))
  · exact lv_dup hx hb hd rfl (hk _ _ _ _ ha H locs ls hP hS hl o1 (jx_oc (jx_oh o2) o2))
  · cases ha
theorem sd_dup2 (hd : decode cc pc = .ok (.dup2, 1)) : jx_Snd cc nL own ret D pc (jx_dup2 (pc + 1)) := by
  intro p l e R s m args below meth c w r C k lo st h hk ha H locs ls hP hS hl o1 o2
  obtain ⟨⟨hx, hb, hml, hown, hts⟩, hr, hlocks, hw, hK, d, hR, hD⟩ := C
  unfold jx_dup2 at ha
  split at ha
  · exact lv_dup2_11 hx hb hd rfl rfl (hk _ _ _ _ ha H locs ls hP hS hl o1 (jx_oc trivial (jx_oc (jx_oh (jx_o1 o2)) o2)))
  · cases ha
theorem sd_pop (hd : decode cc pc = .ok (.pop, 1)) : jx_Snd cc nL own ret D pc (jx_pop (pc + 1)) := by
  intro p l e R s m args below meth c w r C k lo st h hk ha H locs ls hP hS hl o1 o2
  obtain ⟨⟨hx, hb, hml, hown, hts⟩, hr, hlocks, hw, hK, d, hR, hD⟩ := C
  unfold jx_pop at ha
  split at ha
  · exact lv_pop hx hb hd rfl (hk _ _ _ _ ha H locs ls hP hS hl o1 (jx_o1 o2))
  · cases ha
theorem sd_ifeq {off : Int} {t : Nat} (hd : decode cc pc = .ok (.ifCond .eq off, 3)) (ht : (pc : Int) + off = (t : Int)) : jx_Snd cc nL own ret D pc (jx_eq0 t (pc + 3)) := by
  intro p l e R s m args below meth c w r C k lo st h hk ha H locs ls hP hS hl o1 o2
  obtain ⟨⟨hx, hb, hml, hown, hts⟩, hr, hlocks, hw, hK, d, hR, hD⟩ := C
  unfold jx_eq0 at ha
  split at ha
  · refine lv_if_eq hx hb hd ht (fun c => ?_) (fun c => ?_)
    · rw [jx_ifp c] at ha; exact hk _ _ _ _ ha H locs ls hP hS hl o1 (jx_o1 o2)
    · rw [jx_ifn c] at ha; exact hk _ _ _ _ ha H locs ls hP hS hl o1 (jx_o1 o2)
  · cases ha
theorem sd_ifne {off : Int} {t : Nat} (hd : decode cc pc = .ok (.ifCond .ne off, 3)) (ht : (pc : Int) + off = (t : Int)) : jx_Snd cc nL own ret D pc (jx_ne0 t (pc + 3)) := by
  intro p l e R s m args below meth c w r C k lo st h hk ha H locs ls hP hS hl o1 o2
  obtain ⟨⟨hx, hb, hml, hown, hts⟩, hr, hlocks, hw, hK, d, hR, hD⟩ := C
  unfold jx_ne0 at ha
  split at ha
  · refine lv_if_ne hx hb hd ht (fun c => ?_) (fun c => ?_)
    · rw [jx_ifn c] at ha; exact hk _ _ _ _ ha H locs ls hP hS hl o1 (jx_o1 o2)
    · rw [jx_ifp c] at ha; exact hk _ _ _ _ ha H locs ls hP hS hl o1 (jx_o1 o2)
  · cases ha
theorem sd_iflt {off : Int} {t : Nat} (hd : decode cc pc = .ok (.ifCond .lt off, 3)) (ht : (pc : Int) + off = (t : Int)) : jx_Snd cc nL own ret D pc (jx_lt0 t (pc + 3)) := by
  intro p l e R s m args below meth c w r C k lo st h hk ha H locs ls hP hS hl o1 o2
  obtain ⟨⟨hx, hb, hml, hown, hts⟩, hr, hlocks, hw, hK, d, hR, hD⟩ := C
  unfold jx_lt0 at ha
  split at ha
  · refine lv_if_lt hx hb hd ht (fun c => ?_) (fun c => ?_)
    · rw [jx_ifp c] at ha; exact hk _ _ _ _ ha H locs ls hP hS hl o1 (jx_o1 o2)
    · rw [jx_ifn c] at ha; exact hk _ _ _ _ ha H locs ls hP hS hl o1 (jx_o1 o2)
  · cases ha
theorem sd_ifge {off : Int} {t : Nat} (hd : decode cc pc = .ok (.ifCond .ge off, 3)) (ht : (pc : Int) + off = (t : Int)) : jx_Snd cc nL own ret D pc (jx_ge0 t (pc + 3)) := by
  intro p l e R s m args below meth c w r C k lo st h hk ha H locs ls hP hS hl o1 o2
  obtain ⟨⟨hx, hb, hml, hown, hts⟩, hr, hlocks, hw, hK, d, hR, hD⟩ := C
  unfold jx_ge0 at ha
  split at ha
  · refine lv_if_ge hx hb hd ht (fun c => ?_) (fun c => ?_)
    · rw [jx_ifn (Int32.not_lt.mpr c)] at ha; exact hk _ _ _ _ ha H locs ls hP hS hl o1 (jx_o1 o2)
    · rw [jx_ifp (Int32.not_le.mp c)] at ha; exact hk _ _ _ _ ha H locs ls hP hS hl o1 (jx_o1 o2)
  · cases ha
theorem sd_ifgt {off : Int} {t : Nat} (hd : decode cc pc = .ok (.ifCond .gt off, 3)) (ht : (pc : Int) + off = (t : Int)) : jx_Snd cc nL own ret D pc (jx_gt0 t (pc + 3)) := by
  intro p l e R s m args below meth c w r C k lo st h hk ha H locs ls hP hS hl o1 o2
  obtain ⟨⟨hx, hb, hml, hown, hts⟩, hr, hlocks, hw, hK, d, hR, hD⟩ := C
  unfold jx_gt0 at ha
  split at ha
  · refine lv_if_gt hx hb hd ht (fun c => ?_) (fun c => ?_)
    · rw [jx_ifp c] at ha; exact hk _ _ _ _ ha H locs ls hP hS hl o1 (jx_o1 o2)
    · rw [jx_ifn c] at ha; exact hk _ _ _ _ ha H locs ls hP hS hl o1 (jx_o1 o2)
  · cases ha
theorem sd_ifle {off : Int} {t : Nat} (hd : decode cc pc = .ok (.ifCond .le off, 3)) (ht : (pc : Int) + off = (t : Int)) : jx_Snd cc nL own ret D pc (jx_le0 t (pc + 3)) := by
  intro p l e R s m args below meth c w r C k lo st h hk ha H locs ls hP hS hl o1 o2
  obtain ⟨⟨hx, hb, hml, hown, hts⟩, hr, hlocks, hw, hK, d, hR, hD⟩ := C
  unfold jx_le0 at ha
  split at ha
  · refine lv_if_le hx hb hd ht (fun c => ?_) (fun c => ?_)
    · rw [jx_ifn (Int32.not_lt.mpr c)] at ha; exact hk _ _ _ _ ha H locs ls hP hS hl o1 (jx_o1 o2)
    · rw [jx_ifp (Int32.not_le.mp c)] at ha; exact hk _ _ _ _ ha H locs ls hP hS hl o1 (jx_o1 o2)
  · cases ha
theorem sd_iceq {off : Int} {t : Nat} (hd : decode cc pc = .ok (.if_icmp .eq off, 3)) (ht : (pc : Int) + off = (t : Int)) : jx_Snd cc nL own ret D pc (jx_ceq t (pc + 3)) := by
  intro p l e R s m args below meth c w r C k lo st h hk ha H locs ls hP hS hl o1 o2
  obtain ⟨⟨hx, hb, hml, hown, hts⟩, hr, hlocks, hw, hK, d, hR, hD⟩ := C
  unfold jx_ceq at ha
  split at ha
  · refine lv_icmp_eq hx hb hd ht (fun c => ?_) (fun c => ?_)
    · rw [jx_ifp c] at ha; exact hk _ _ _ _ ha H locs ls hP hS hl o1 (jx_o1 (jx_o1 o2))
    · rw [jx_ifn c] at ha; exact hk _ _ _ _ ha H locs ls hP hS hl o1 (jx_o1 (jx_o1 o2))
  · cases ha
theorem sd_icne {off : Int} {t : Nat} (hd : decode cc pc = .ok (.if_icmp .ne off, 3)) (ht : (pc : Int) + off = (t : Int)) : jx_Snd cc nL own ret D pc (jx_cne t (pc + 3)) := by
  intro p l e R s m args below meth c w r C k lo st h hk ha H locs ls hP hS hl o1 o2
  obtain ⟨⟨hx, hb, hml, hown, hts⟩, hr, hlocks, hw, hK, d, hR, hD⟩ := C
  unfold jx_cne at ha
  split at ha
  · refine lv_icmp_ne hx hb hd ht (fun c => ?_) (fun c => ?_)
    · rw [jx_ifn c] at ha; exact hk _ _ _ _ ha H locs ls hP hS hl o1 (jx_o1 (jx_o1 o2))
    · rw [jx_ifp c] at ha; exact hk _ _ _ _ ha H locs ls hP hS hl o1 (jx_o1 (jx_o1 o2))
  · cases ha
theorem sd_iclt {off : Int} {t : Nat} (hd : decode cc pc = .ok (.if_icmp .lt off, 3)) (ht : (pc : Int) + off = (t : Int)) : jx_Snd cc nL own ret D pc (jx_clt t (pc + 3)) := by
  intro p l e R s m args below meth c w r C k lo st h hk ha H locs ls hP hS hl o1 o2
  obtain ⟨⟨hx, hb, hml, hown, hts⟩, hr, hlocks, hw, hK, d, hR, hD⟩ := C
  unfold jx_clt at ha
  split at ha
  · refine lv_icmp_lt hx hb hd ht (fun c => ?_) (fun c => ?_)
    · rw [jx_ifp c] at ha; exact hk _ _ _ _ ha H locs ls hP hS hl o1 (jx_o1 (jx_o1 o2))
    · rw [jx_ifn c] at ha; exact hk _ _ _ _ ha H locs ls hP hS hl o1 (jx_o1 (jx_o1 o2))
  · cases ha
theorem sd_icge {off : Int} {t : Nat} (hd : decode cc pc = .ok (.if_icmp .ge off, 3)) (ht : (pc : Int) + off = (t : Int)) : jx_Snd cc nL own ret D pc (jx_cge t (pc + 3)) := by
  intro p l e R s m args below meth c w r C k lo st h hk ha H locs ls hP hS hl o1 o2
  obtain ⟨⟨hx, hb, hml, hown, hts⟩, hr, hlocks, hw, hK, d, hR, hD⟩ := C
  unfold jx_cge at ha
  split at ha
  · refine lv_icmp_ge hx hb hd ht (fun c => ?_) (fun c => ?_)
    · rw [jx_ifn (Int32.not_lt.mpr c)] at ha; exact hk _ _ _ _ ha H locs ls hP hS hl o1 (jx_o1 (jx_o1 o2))
    · rw [jx_ifp (Int32.not_le.mp c)] at ha; exact hk _ _ _ _ ha H locs ls hP hS hl o1 (jx_o1 (jx_o1 o2))
  · cases ha
theorem sd_icgt {off : Int} {t : Nat} (hd : decode cc pc = .ok (.if_icmp .gt off, 3)) (ht : (pc : Int) + off = (t : Int)) : jx_Snd cc nL own ret D pc (jx_cgt t (pc + 3)) := by
  intro p l e R s m args below meth c w r C k lo st h hk ha H locs ls hP hS hl o1 o2
  obtain ⟨⟨hx, hb, hml, hown, hts⟩, hr, hlocks, hw, hK, d, hR, hD⟩ := C
  unfold jx_cgt at ha
  split at ha
  · refine lv_icmp_gt hx hb hd ht (fun c => ?_) (fun c => ?_)
    · rw [jx_ifn (Int32.not_le.mpr c)] at ha; exact hk _ _ _ _ ha H locs ls hP hS hl o1 (jx_o1 (jx_o1 o2))
    · rw [jx_ifp (Int32.not_lt.mp c)] at ha; exact hk _ _ _ _ ha H locs ls hP hS hl o1 (jx_o1 (jx_o1 o2))
  · cases ha
theorem sd_icle {off : Int} {t : Nat} (hd : decode cc pc = .ok (.if_icmp .le off, 3)) (ht : (pc : Int) + off = (t : Int)) : jx_Snd cc nL own ret D pc (jx_cle t (pc + 3)) := by
  intro p l e R s m args below meth c w r C k lo st h hk ha H locs ls hP hS hl o1 o2
  obtain ⟨⟨hx, hb, hml, hown, hts⟩, hr, hlocks, hw, hK, d, hR, hD⟩ := C
  unfold jx_cle at ha
  split at ha
  · refine lv_icmp_le hx hb hd ht (fun c => ?_) (fun c => ?_)
    · rw [jx_ifp c] at ha; exact hk _ _ _ _ ha H locs ls hP hS hl o1 (jx_o1 (jx_o1 o2))
    · rw [jx_ifn c] at ha; exact hk _ _ _ _ ha H locs ls hP hS hl o1 (jx_o1 (jx_o1 o2))
  · cases ha
theorem sd_goto {off : Int} {t : Nat} (hd : decode cc pc = .ok (.goto off, 3)) (ht : (pc : Int) + off = (t : Int)) : jx_Snd cc nL own ret D pc (jx_go t) := by
  intro p l e R s m args below meth c w r C k lo st h hk ha H locs ls hP hS hl o1 o2
  obtain ⟨⟨hx, hb, hml, hown, hts⟩, hr, hlocks, hw, hK, d, hR, hD⟩ := C
  exact lv_goto hx hb hd ht (hk _ _ _ _ ha H locs ls hP hS hl o1 o2)
theorem sd_ireturn (hd : decode cc pc = .ok (.ireturn, 1)) (hi : ret = some .int) : jx_Snd cc nL own ret D pc (jx_rI) := by
  intro p l e R s m args below meth c w r C k lo st h hk ha H locs ls hP hS hl o1 o2
  obtain ⟨⟨hx, hb, hml, hown, hts⟩, hr, hlocks, hw, hK, d, hR, hD⟩ := C
  unfold jx_rI at ha
  split at ha
  · cases ha
    exact W.iret hx hb (hr.trans hi) (fun t ht _ => ⟨rfl, by rw [ht]; exact hP, hS.F ht⟩) hS.2.2 hd hlocks
  · cases ha
theorem sd_zreturn (hd : decode cc pc = .ok (.ireturn, 1)) (hi : ret = some .boolean) : jx_Snd cc nL own ret D pc (jx_rZ) := by
  intro p l e R s m args below meth c w r C k lo st h hk ha H locs ls hP hS hl o1 o2
  obtain ⟨⟨hx, hb, hml, hown, hts⟩, hr, hlocks, hw, hK, d, hR, hD⟩ := C
  unfold jx_rZ at ha
  split at ha
  · rename_i x
    by_cases hv : x = 0 ∨ x = 1
    · rw [jx_ifp hv] at ha
      cases ha
      exact W.zret hx hb (hr.trans hi) (by rcases hv with rfl | rfl <;> rfl) (fun t ht _ => ⟨rfl, by rw [ht]; exact hP, hS.F ht⟩) hS.2.2 hd hlocks
    · rw [jx_ifn hv] at ha
      cases ha
  · cases ha
theorem sd_lreturn (hd : decode cc pc = .ok (.lreturn, 1)) (hi : ret = some .long) : jx_Snd cc nL own ret D pc (jx_rL) := by
  intro p l e R s m args below meth c w r C k lo st h hk ha H locs ls hP hS hl o1 o2
  obtain ⟨⟨hx, hb, hml, hown, hts⟩, hr, hlocks, hw, hK, d, hR, hD⟩ := C
  unfold jx_rL at ha
  split at ha
  · cases ha
    exact W.lret hx hb (hr.trans hi) (fun t ht _ => ⟨rfl, by rw [ht]; exact hP, hS.F ht⟩) hS.2.2 hd hlocks
  · cases ha
theorem sd_return (hd : decode cc pc = .ok (.return_, 1)) (hi : ret = none) : jx_Snd cc nL own ret D pc (jx_rV) := by
  intro p l e R s m args below meth c w r C k lo st h hk ha H locs ls hP hS hl o1 o2
  obtain ⟨⟨hx, hb, hml, hown, hts⟩, hr, hlocks, hw, hK, d, hR, hD⟩ := C
  unfold jx_rV at ha
  split at ha
  · cases ha
    exact W.vret hx hb (hr.trans hi) (fun t ht _ => ⟨rfl, by rw [ht]; exact hP, hS.F ht⟩) hS.2.2 hd hlocks
  · cases ha
end
