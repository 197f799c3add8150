/-! ===== constructors: worlds that grow, by their addresses in order ===== -/
def jc_ws (b0 n : Nat) (cf : Nat → va_E) : va_W := (List.range n).map fun k => (b0 + k, cf k)
theorem jc_at {b0 n k : Nat} {cf : Nat → va_E} (h : k < n) : (jc_ws b0 n cf)[k]? = some (b0 + k, cf k) := by simp [jc_ws, h]
theorem jc_out {b0 n k : Nat} {cf : Nat → va_E} (h : n ≤ k) : (jc_ws b0 n cf)[k]? = none := by simp [jc_ws, h]
theorem jc_set {b0 n k : Nat} {cf : Nat → va_E} {e : va_E} : (jc_ws b0 n cf).set k (b0 + k, e) = jc_ws b0 n (va_up cf k e) := by
  apply List.ext_getElem?
  intro j
  rw [List.getElem?_set]
  rcases Nat.lt_or_ge j n with hj | hj
  · rw [jc_at hj, jc_at hj]
    by_cases h : k = j
    · subst h
      simp [va_up, jc_ws, hj]
    · rw [if_neg h]
      simp [va_up, Ne.symm h]
  · rw [jc_out hj, jc_out hj]
    by_cases h : k = j
    · subst h
      simp [jc_ws, Nat.not_lt.mpr hj]
    · rw [if_neg h]
theorem jc_push {b0 n : Nat} {cf : Nat → va_E} {e : va_E} : jc_ws b0 n cf ++ [(b0 + n, e)] = jc_ws b0 (n + 1) (va_up cf n e) := by
  apply List.ext_getElem?
  intro j
  rcases Nat.lt_trichotomy j n with hj | hj | hj
  · rw [List.getElem?_append_left (by simpa [jc_ws] using hj), jc_at hj, jc_at (by omega)]
    simp [va_up, Nat.ne_of_lt hj]
  · subst hj
    rw [List.getElem?_append_right (by simp [jc_ws]), jc_at (by omega)]
    simp [va_up, jc_ws]
  · rw [List.getElem?_append_right (by simp [jc_ws]; omega), jc_out (by omega)]
    simp [jc_ws]
    omega
theorem jc_D {b0 n : Nat} {cf : Nat → va_E} : va_D (fun q => b0 ≤ q) (jc_ws b0 n cf) := by
  refine ⟨fun i j p q hi hj e => ?_, fun k q hk => ?_⟩
  · have hi' : i < n := by
      rcases Nat.lt_or_ge i n with h | h
      · exact h
      · rw [jc_out h] at hi; cases hi
    have hj' : j < n := by
      rcases Nat.lt_or_ge j n with h | h
      · exact h
      · rw [jc_out h] at hj; cases hj
    rw [jc_at hi'] at hi
    rw [jc_at hj'] at hj
    cases hi
    cases hj
    have e2 : b0 + i = b0 + j := e
    omega
  · have hk' : k < n := by
      rcases Nat.lt_or_ge k n with h | h
      · exact h
      · rw [jc_out h] at hk; cases hk
    rw [jc_at hk'] at hk
    cases hk
    exact Nat.le_add_right _ _
def jc_U (w : jx_Wd) (b0 n : Nat) (cf : Nat → va_E) (U : State) : Prop := va_P (jx_dd w) jx_cl (jc_ws b0 n cf) U.heap ∧ U.heap.size = b0 + n ∧ va_K (jx_dd w) jx_cl (jx_tys w) U ∧ (∀ x ∈ jx_nest, va_Nw x U) ∧ va_AO RX3 U ∧ va_AO RX7 U
def jc_Po (w : jx_Wd) (b0 n : Nat) (cf : Nat → va_E) : Array Value → State → Outcome → State → Prop := fun _ st oc t => oc = .returned none ∧ va_P (jx_dd w) jx_cl (jc_ws b0 n cf) t.heap ∧ t.heap.size = b0 + n ∧ va_F (fun q => b0 ≤ q) st t
def jc_rm (d mc ms : Nat) : Room := { frames := d, cells := mc, slots := ms, locals := 64 * d }
def jc_MT (l : Launch) (w : jx_Wd) (b0 : Nat) (y : MethodName) (cc : ByteArray) (nL d mc ms k n : Nat) (cf : Nat → va_E) (n' : Nat) (cf' : Nat → va_E) : Prop := Met l y (.code y cc nL none :: jx_tg) (jc_rm d mc ms) (va_Pc [.ref (b0 + k)] (jc_U w b0 n cf)) (jc_Po w b0 n' cf') mc ms (fun q => b0 ≤ q)
/-- what stands through a constructor's body -/
def jc_Cx (p : Program) (R : Room) (s : State) (m : MethodId) (args : Array Value) (meth : Method) (c : Code) (w : jx_Wd) (cc : ByteArray) (nL : Nat) (own : String) (b0 d mc ms : Nat) : Prop :=
  CallFix p m c cc nL s args jx_tg own ∧ meth.sig.returnType = none ∧ meth.locks = false ∧ meth.name = "<init>" ∧ b0 ≤ s.heap.size ∧ (va_K (jx_dd w) jx_cl (jx_tys w) s ∧ (∀ x ∈ jx_nest, va_Nw x s) ∧ va_AO RX3 s ∧ va_AO RX7 s) ∧ R = jc_rm (d + 1) mc ms
def jc_Go (p : Program) (l : Launch) (e : Env) (R : Room) (s : State) (m : MethodId) (args : Array Value) (below : List Frame) (meth : Method) (c : Code) (w : jx_Wd) (nL b0 : Nat) (Q : State → Prop) (n : Nat) (cf : Nat → va_E) (cells slots pc : Nat) (lv : List (Nat × Value)) (st : List Value) : Prop :=
  ∀ (H : Heap) (locs : List Loc) (ls : Array Slot), va_P (jx_dd w) jx_cl (jc_ws b0 n cf) H → H.size = b0 + n → va_S (fun q => b0 ≤ q) s.heap H locs → lv_has ls nL lv → W p l e R s m args below meth c H locs cells slots Q (F0 m pc ls st)
def jc_arr (w : jx_Wd) (t N : Nat) : va_E := match t with
  | 0 => .inl (jx_ca w 0, N, .inl (fun _ => 0))
  | 1 => .inl (jx_ca w 1, N, .inr (.inl (fun _ => 0)))
  | _ => .inl (jx_ca w 2, N, .inl (fun _ => 0))
def jc_rar (w : jx_Wd) (t N : Nat) (f : Nat → Option Nat) : va_E := .inl (jx_ca w t, N, .inr (.inr (.inr (.inr f))))
section
variable {p : Program} {l : Launch} {e : Env} {R : Room} {s : State} {m : MethodId} {args : Array Value} {below : List Frame} {meth : Method} {c : Code} {w : jx_Wd} {cc : ByteArray} {nL : Nat} {own : String} {b0 d mc ms : Nat} {Q : State → Prop} {n : Nat} {cf : Nat → va_E} {cells slots pc : Nat} {lv : List (Nat × Value)} {st : List Value}
theorem jc_aload (C : jc_Cx p R s m args meth c w cc nL own b0 d mc ms) {a : Nat} (hd : decode cc pc = .ok (.aload_n 0, 1)) (j : Nat) (hj : lv[j]? = some (0, .ref a)) (k : jc_Go p l e R s m args below meth c w nL b0 Q n cf cells slots (pc + 1) lv (.ref a :: st)) : jc_Go p l e R s m args below meth c w nL b0 Q n cf cells slots pc lv st :=
  fun H locs ls hP hz hS hl => lv_aload_n C.1.1 C.1.2.1 hd rfl (lv_at hl j hj) (k H locs ls hP hz hS hl)
theorem jc_iload (C : jc_Cx p R s m args meth c w cc nL own b0 d mc ms) {x : Int32} (hd : decode cc pc = .ok (.iload_n 1, 1)) (j : Nat) (hj : lv[j]? = some (1, .int x)) (k : jc_Go p l e R s m args below meth c w nL b0 Q n cf cells slots (pc + 1) lv (.int x :: st)) : jc_Go p l e R s m args below meth c w nL b0 Q n cf cells slots pc lv st :=
  fun H locs ls hP hz hS hl => lv_iload_n C.1.1 C.1.2.1 hd rfl (lv_at hl j hj) (k H locs ls hP hz hS hl)
theorem jc_iconst (C : jc_Cx p R s m args meth c w cc nL own b0 d mc ms) {i : Int} {v : Int32} (hd : decode cc pc = .ok (.iconst i, 1)) (hv : Int32.ofInt i = v) (k : jc_Go p l e R s m args below meth c w nL b0 Q n cf cells slots (pc + 1) lv (.int v :: st)) : jc_Go p l e R s m args below meth c w nL b0 Q n cf cells slots pc lv st :=
  fun H locs ls hP hz hS hl => lv_iconst C.1.1 C.1.2.1 hd hv (k H locs ls hP hz hS hl)
theorem jc_bipush (C : jc_Cx p R s m args meth c w cc nL own b0 d mc ms) {i : Int} {v : Int32} (hd : decode cc pc = .ok (.bipush i, 2)) (hv : (Int8.ofInt i).toInt32 = v) (k : jc_Go p l e R s m args below meth c w nL b0 Q n cf cells slots (pc + 2) lv (.int v :: st)) : jc_Go p l e R s m args below meth c w nL b0 Q n cf cells slots pc lv st :=
  fun H locs ls hP hz hS hl => lv_bipush C.1.1 C.1.2.1 hd hv (k H locs ls hP hz hS hl)
theorem jc_sipush (C : jc_Cx p R s m args meth c w cc nL own b0 d mc ms) {i : Int} {v : Int32} (hd : decode cc pc = .ok (.sipush i, 3)) (hv : (Int16.ofInt i).toInt32 = v) (k : jc_Go p l e R s m args below meth c w nL b0 Q n cf cells slots (pc + 3) lv (.int v :: st)) : jc_Go p l e R s m args below meth c w nL b0 Q n cf cells slots pc lv st :=
  fun H locs ls hP hz hS hl => lv_sipush C.1.1 C.1.2.1 hd hv (k H locs ls hP hz hS hl)
theorem jc_dup (C : jc_Cx p R s m args meth c w cc nL own b0 d mc ms) {a : Nat} (hd : decode cc pc = .ok (.dup, 1)) (k : jc_Go p l e R s m args below meth c w nL b0 Q n cf cells slots (pc + 1) lv (.ref a :: .ref a :: st)) : jc_Go p l e R s m args below meth c w nL b0 Q n cf cells slots pc lv (.ref a :: st) :=
  fun H locs ls hP hz hS hl => lv_dup C.1.1 C.1.2.1 hd rfl (k H locs ls hP hz hS hl)
theorem jc_istore (C : jc_Cx p R s m args meth c w cc nL own b0 d mc ms) {x : Int32} {lv' : List (Nat × Value)} (hd : decode cc pc = .ok (.istore_n 1, 1)) (hn : 1 < nL) (hl' : (1, Value.int x) :: lv.filter (fun q => !(q.1 == 1) && !(q.1 + 1 == 1 && q.2.category == 2)) = lv') (k : jc_Go p l e R s m args below meth c w nL b0 Q n cf cells slots (pc + 1) lv' st) : jc_Go p l e R s m args below meth c w nL b0 Q n cf cells slots pc lv (.int x :: st) :=
  fun H locs ls hP hz hS hl => lv_istore_n C.1.1 C.1.2.1 hd rfl hl hn hl' (fun ls' hl'' => k H locs ls' hP hz hS hl'')
theorem jc_iinc (C : jc_Cx p R s m args meth c w cc nL own b0 d mc ms) {x v : Int32} {lv' : List (Nat × Value)} (hd : decode cc pc = .ok (.iinc 1 1, 3)) (j : Nat) (hj : lv[j]? = some (1, .int x)) (hv : x + 1 = v) (hn : 1 < nL) (hl' : (1, Value.int v) :: lv.filter (fun q => !(q.1 == 1) && !(q.1 + 1 == 1 && q.2.category == 2)) = lv') (k : jc_Go p l e R s m args below meth c w nL b0 Q n cf cells slots (pc + 3) lv' st) : jc_Go p l e R s m args below meth c w nL b0 Q n cf cells slots pc lv st :=
  fun H locs ls hP hz hS hl => lv_iinc C.1.1 C.1.2.1 hd hl hj hv hn hl' (fun ls' hl'' => k H locs ls' hP hz hS hl'')
theorem jc_goto (C : jc_Cx p R s m args meth c w cc nL own b0 d mc ms) {off : Int} {t : Nat} (hd : decode cc pc = .ok (.goto off, 3)) (ht : (pc : Int) + off = (t : Int)) (k : jc_Go p l e R s m args below meth c w nL b0 Q n cf cells slots t lv st) : jc_Go p l e R s m args below meth c w nL b0 Q n cf cells slots pc lv st :=
  fun H locs ls hP hz hS hl => lv_goto C.1.1 C.1.2.1 hd ht (k H locs ls hP hz hS hl)
theorem jc_icge (C : jc_Cx p R s m args meth c w cc nL own b0 d mc ms) {x y : Int32} {off : Int} {t : Nat} (hd : decode cc pc = .ok (.if_icmp .ge off, 3)) (ht : (pc : Int) + off = (t : Int)) (kt : y ≤ x → jc_Go p l e R s m args below meth c w nL b0 Q n cf cells slots t lv st) (kf : ¬ y ≤ x → jc_Go p l e R s m args below meth c w nL b0 Q n cf cells slots (pc + 3) lv st) : jc_Go p l e R s m args below meth c w nL b0 Q n cf cells slots pc lv (.int y :: .int x :: st) :=
  fun H locs ls hP hz hS hl => lv_icmp_ge C.1.1 C.1.2.1 hd ht (fun g => kt g H locs ls hP hz hS hl) (fun g => kf g H locs ls hP hz hS hl)
theorem jc_obj (C : jc_Cx p R s m args meth c w cc nL own b0 d mc ms) {a idx : Nat} (hd : decode cc pc = .ok (.invokespecial idx, 3)) (hlk : Cond.methodLink own idx Lib.objectInit ∈ jx_tg) (hi : Cond.instanceMethod Lib.objectInit ∈ jx_tg) (hc : Cond.code Lib.objectInit ⟨#[0xb1]⟩ 1 none ∈ jx_tg) (h8 : (st.map fun v => v.category).sum ≤ 8) (k : jc_Go p l e R s m args below meth c w nL b0 Q n cf cells slots (pc + 3) lv st) : jc_Go p l e R s m args below meth c w nL b0 Q n cf cells slots pc lv (.ref a :: st) := by
  obtain ⟨⟨hx, hb, hml, hown, hts⟩, hr, hlocks, hin, hb0, hK, hR⟩ := C
  intro H locs ls hP hz hS hl
  refine W.objInit hx hb hown (hts _ hlk) (hts _ hi) (hts _ hc) rfl (by rw [hml]; exact hl.1) rfl hd (by rw [hR]; exact Nat.succ_le_succ (Nat.zero_le _)) ?_ (k H locs ls hP hz hS hl)
  rw [hR]
  show 2 * 0 + (st.map fun v => v.category).sum + 12 ≤ 64 * (d + 1)
  omega
theorem jc_new (C : jc_Cx p R s m args meth c w cc nL own b0 d mc ms) {ci idx N : Nat} {CN : String} {T : u_T} {ty : Nat → FieldType} {fs : List Value} (hd : decode cc pc = .ok (.new idx, 3)) (hc : jx_cl[ci]? = some (CN, T, N)) (hin : ∀ x ∈ u_ws CN T N, x ∈ jx_tg) (hty : ∀ k, k < N → parseFieldDescriptor (T k).2.2.1 = some (ty k)) (hcl : Cond.classLink own idx CN ∈ jx_tg) (hinst : Cond.instantiable CN N ∈ jx_tg) (hini : Cond.initialized CN ∈ jx_tg) (hfs : ∀ j, j < N → defaultValue (ty j) = vp_V fs j) (h1 : cells + 1 ≤ mc) (h2 : slots + N ≤ ms)
    (k : jc_Go p l e R s m args below meth c w nL b0 Q (n + 1) (va_up cf n (.inr (ci, fs))) (cells + 1) (slots + N) (pc + 3) lv (.ref (b0 + n) :: st)) : jc_Go p l e R s m args below meth c w nL b0 Q n cf cells slots pc lv st := by
  obtain ⟨⟨hx, hb, hml, hown, hts⟩, hr, hlocks, hinm, hb0, hK, hR⟩ := C
  intro H locs ls hP hz hS hl
  have hKn := hK.1.1 ci _ hc
  refine W.newcK hx hb hown (hts _ hcl) (hts _ hinst) (hts _ hini) rfl hd (by rw [hR]; exact h1) (by rw [hR]; exact h2) hKn.2.1 hz fun H1 kC hkC e1 z1 o1 => ?_
  have hk : ∀ (k : Nat) (x : Nat × va_E), (jc_ws b0 n cf)[k]? = some x → H1[x.1]? = H[x.1]? := fun k x hx => o1 x.1 (by rw [← hz]; exact (hP k x hx).lt)
  refine k H1 locs ls ?_ (by rw [z1]; omega) ⟨Nat.le_trans hS.1 (by omega), fun x h1 h2 => (o1 x (by rw [← hz]; exact Nat.lt_of_lt_of_le h1 hS.1)).trans (hS.2.1 x h1 h2), hS.2.2⟩ hl
  rw [← jc_push]
  refine (hP.kept hk).app (fun k x hx => ?_)
  have hz : k < 1 := (List.getElem?_eq_some_iff.mp hx).1
  rw [show k = 0 by omega] at hx
  cases hx
  exact ⟨_, hc, (u_born ty hts hin hKn hkC e1 hty).to hfs⟩
theorem jc_newa (C : jc_Cx p R s m args meth c w cc nL own b0 d mc ms) {atype : ArrayType} {t N : Nat} {v : Int32} (hd : decode cc pc = .ok (.newarray atype, 2)) (harr : Cond.arrayClass (newarray.typeOf atype) ∈ jx_tg) (ht : (jx_tys w)[t]? = some (jx_ca w t, newarray.typeOf atype)) (hra : va_RA s (jx_ca w t) (newarray.typeOf atype) → s.vm.findClass ("[" ++ (newarray.typeOf atype).toString) = some (jx_ca w t)) (hcell : ∃ a0, jc_arr w t N = .inl (jx_ca w t, a0) ∧ ∀ cA, vp_cell cA a0 = arrV cA N (fun _ => defaultValue (newarray.typeOf atype))) (hv0 : ¬ v < 0) (hv : v.toNatClampNeg = N) (hby : N * componentBytes (newarray.typeOf atype) ≤ 536870912) (h1 : cells + 1 ≤ mc) (h2 : slots + N ≤ ms)
    (k : jc_Go p l e R s m args below meth c w nL b0 Q (n + 1) (va_up cf n (jc_arr w t N)) (cells + 1) (slots + N) (pc + 2) lv (.ref (b0 + n) :: st)) : jc_Go p l e R s m args below meth c w nL b0 Q n cf cells slots pc lv (.int v :: st) := by
  obtain ⟨⟨hx, hb, hml, hown, hts⟩, hr, hlocks, hinm, hb0, hK, hR⟩ := C
  intro H locs ls hP hz hS hl
  refine va_newaK hx hb (hts _ harr) rfl hd rfl hv0 hv hby (by rw [hR]; exact h1) (by rw [hR]; exact h2) hz fun H1 cA e1 z1 o1 hAr hNm => ?_
  have hcA : cA = jx_ca w t := Option.some.inj (hNm.symm.trans (hra (hK.1.2 t _ ht).2))
  subst hcA
  have hk : ∀ (k : Nat) (x : Nat × va_E), (jc_ws b0 n cf)[k]? = some x → H1[x.1]? = H[x.1]? := fun k x hx => o1 x.1 (by rw [← hz]; exact (hP k x hx).lt)
  refine k H1 locs ls ?_ (by rw [z1]; omega) ⟨Nat.le_trans hS.1 (by omega), fun x h1 h2 => (o1 x (by rw [← hz]; exact Nat.lt_of_lt_of_le h1 hS.1)).trans (hS.2.1 x h1 h2), hS.2.2⟩ hl
  rw [← jc_push]
  refine (hP.kept hk).app (fun k x hx => ?_)
  have hz : k < 1 := (List.getElem?_eq_some_iff.mp hx).1
  rw [show k = 0 by omega] at hx
  cases hx
  obtain ⟨a0, ha1, ha2⟩ := hcell
  rw [ha1]
  show H1[b0 + n]? = some (vp_cell _ _)
  rw [ha2]
  exact e1
theorem jc_newq (C : jc_Cx p R s m args meth c w cc nL own b0 d mc ms) {CN : String} {idx t N : Nat} {v : Int32} (hd : decode cc pc = .ok (.anewarray idx, 3)) (hcl : Cond.classLink own idx CN ∈ jx_tg) (hao : va_AO CN s) (ht : (jx_tys w)[t]? = some (jx_ca w t, .object CN)) (hv0 : ¬ v < 0) (hv : v.toNatClampNeg = N) (hby : N * 4 ≤ 536870912) (h1 : cells + 1 ≤ mc) (h2 : slots + N ≤ ms)
    (k : jc_Go p l e R s m args below meth c w nL b0 Q (n + 1) (va_up cf n (jc_rar w t N (fun _ => none))) (cells + 1) (slots + N) (pc + 3) lv (.ref (b0 + n) :: st)) : jc_Go p l e R s m args below meth c w nL b0 Q n cf cells slots pc lv (.int v :: st) := by
  obtain ⟨⟨hx, hb, hml, hown, hts⟩, hr, hlocks, hinm, hb0, hK, hR⟩ := C
  intro H locs ls hP hz hS hl
  subst hv
  refine W.anew hx hb hown (hts _ hcl) (va_AO.use hao) rfl hd rfl hv0 hby (by rw [hR]; exact h1) (by rw [hR]; exact h2) fun cA kA comp f1 f2 f3 f4 => ?_
  have hcA : cA = jx_ca w t := by
    obtain ⟨kA', comp', g1, g2, g3, g4⟩ := (hK.1.2 t _ ht).2
    exact Option.some.inj (f1.symm.trans g4)
  subst hcA
  generalize hH1 : H.push ({ cls := jx_ca w t, slots := Array.replicate v.toNatClampNeg .null, vm := .none } : Cell) = H1
  have z1 : H1.size = H.size + 1 := by rw [← hH1, Array.size_push]
  have e1 : H1[H.size]? = some (arrV (jx_ca w t) v.toNatClampNeg (fun _ => .null)) := by rw [← hH1, Array.getElem?_push_size, ← arrV_new]
  have o1 : ∀ q : Nat, q < H.size → H1[q]? = H[q]? := fun q hq => by rw [← hH1, Array.getElem?_push, if_neg (Nat.ne_of_lt hq)]
  have hk : ∀ (k : Nat) (x : Nat × va_E), (jc_ws b0 n cf)[k]? = some x → H1[x.1]? = H[x.1]? := fun k x hx => o1 x.1 ((hP k x hx).lt)
  have g := k H1 locs ls ?_ (by rw [z1]; omega) ⟨Nat.le_trans hS.1 (by omega), fun x h1 h2 => (o1 x (Nat.lt_of_lt_of_le h1 hS.1)).trans (hS.2.1 x h1 h2), hS.2.2⟩ hl
  · rw [hz]
    exact g
  · rw [← jc_push]
    refine (hP.kept hk).app (fun k x hx => ?_)
    have hz2 : k < 1 := (List.getElem?_eq_some_iff.mp hx).1
    rw [show k = 0 by omega] at hx
    cases hx
    show H1[b0 + n]? = some (vp_cell _ _)
    rw [← hz, e1]
    rfl
theorem jc_putF (C : jc_Cx p R s m args meth c w cc nL own b0 d mc ms) {ci idx N f j : Nat} {CN : String} {T : u_T} {ty : Nat → FieldType} {fs : List Value} {a : Nat} (hd : decode cc pc = .ok (.putfield idx, 3)) (hc : jx_cl[ci]? = some (CN, T, N)) (hin : ∀ x ∈ u_ws CN T N, x ∈ jx_tg) (hty : ∀ k, k < N → parseFieldDescriptor (T k).2.2.1 = some (ty k)) (hnm : ∀ a, a < N → ∀ b, b < N → a ≠ b → (T a).2.1 ≠ (T b).2.1) (hlk : Cond.fieldLink own idx (T f).1 (T f).2.1 (T f).2.2.1 ∈ jx_tg) (hfin : (T f).2.2.2 = true) (hdecl : (T f).1 = own) (hnar : narrow (ty f) (.ref a) = .ref a) (hfit : fits (ty f) (.ref a) = true) (hf : f < N) (hfl : f < fs.length) (hj : j < n) (hcf : cf j = .inr (ci, fs))
    (k : jc_Go p l e R s m args below meth c w nL b0 Q n (va_up cf j (.inr (ci, fs.set f (.ref a)))) cells slots (pc + 3) lv st) : jc_Go p l e R s m args below meth c w nL b0 Q n cf cells slots pc lv (.ref a :: .ref (b0 + j) :: st) := by
  obtain ⟨⟨hx, hb, hml, hown, hts⟩, hr, hlocks, hinm, hb0, hK, hR⟩ := C
  intro H locs ls hP hz hS hl
  have he : (jc_ws b0 n cf)[j]? = some (b0 + j, .inr (ci, fs)) := by rw [jc_at hj, hcf]
  have hap := va_apart (own := own) hts hin ty hty hnm hK.1 hc
  obtain ⟨r, h1, cell, q1, q2, q3, q4⟩ := hP j _ he
  have hr : r = (CN, T, N) := Option.some.inj (h1.symm.trans hc)
  subst hr
  obtain ⟨hS1, hfc, kC, hkC, hkind⟩ := hK.1.1 ci _ hc
  obtain ⟨cf1, kf, fi, fd, hi, hsl⟩ := hS1 f hf
  have hlay := hts _ (hin _ (u_in_lay hf))
  unfold u_lay at hlay
  rw [if_pos hfin] at hlay
  have hst := (u_facts hfc hkC (u_lays hts hin hf) hi).1
  have hcf1 : m.cls = cf1 := by
    obtain ⟨_, _, c', _, _, _, -, -, hf', -, -, -, hown2, -⟩ := Cond.laysFinal_spec hlay
    have e1 : c' = cf1 := by have := hi.symm.trans hf'; simp at this; exact this.1.symm
    rw [hdecl] at hown2
    rw [← e1]; exact Option.some.inj (hown.symm.trans hown2)
  have h6 := u_fits hfc hkC hkind (Or.inr hlay) hi (hty f hf) hnar hfit
  refine W.putFinK hx hb hown (hts _ hlk) hi hst hcf1 hinm (by rw [q2]; exact h6) q1 q3 (by rw [hsl]; exact k2_hasslot (q4 f hf)) rfl rfl hd fun H' e1 e2 e3 => ?_
  rw [hsl] at e1 ⊢
  have hP1 := hP.set (jc_D (b0 := b0)) he (e := .inr (ci, fs.set f (.ref a))) ⟨_, hc, t_OB.to (V := updV (vp_V fs) f (.ref a)) ⟨_, e1, q2, q3, t_set q4 hap hf (.ref a)⟩ (fun j _ => vp_updV_set hfl (.ref a) j)⟩ e3
  rw [jc_set] at hP1
  exact k H' _ ls hP1 (by rw [e2]; exact hz) (hS.put e2 e3 (Nat.le_add_right _ _)) hl
theorem jc_get (C : jc_Cx p R s m args meth c w cc nL own b0 d mc ms) {ci idx N f j : Nat} {CN : String} {T : u_T} {fs : List Value} {v : Value} (hd : decode cc pc = .ok (.getfield idx, 3)) (hc : jx_cl[ci]? = some (CN, T, N)) (hin : ∀ x ∈ u_ws CN T N, x ∈ jx_tg) (hlk : Cond.fieldLink own idx (T f).1 (T f).2.1 (T f).2.2.1 ∈ jx_tg) (hf : f < N) (hj : j < n) (hcf : cf j = .inr (ci, fs)) (hv : fs[f]? = some v)
    (k : jc_Go p l e R s m args below meth c w nL b0 Q n cf cells slots (pc + 3) lv (v :: st)) : jc_Go p l e R s m args below meth c w nL b0 Q n cf cells slots pc lv (.ref (b0 + j) :: st) := by
  obtain ⟨⟨hx, hb, hml, hown, hts⟩, hr, hlocks, hinm, hb0, hK, hR⟩ := C
  intro H locs ls hP hz hS hl
  have he : (jc_ws b0 n cf)[j]? = some (b0 + j, .inr (ci, fs)) := by rw [jc_at hj, hcf]
  exact va_get hx hb hts hin hown hK.1 hP j he hc f hf (hts _ hlk) (fun _ z => z) hv hd (k H locs ls hP hz hS hl)
theorem jc_iast (C : jc_Cx p R s m args meth c w cc nL own b0 d mc ms) {j N : Nat} {f : Nat → Int32} {i x : Int32} (hd : decode cc pc = .ok (.iastore, 1)) (hj : j < n) (hcf : cf j = .inl (jx_ca w 0, N, .inl f)) (hi : vp_in i N)
    (k : jc_Go p l e R s m args below meth c w nL b0 Q n (va_up cf j (.inl (jx_ca w 0, N, .inl (upd f i.toNatClampNeg x)))) cells slots (pc + 1) lv st) : jc_Go p l e R s m args below meth c w nL b0 Q n cf cells slots pc lv (.int x :: .int i :: .ref (b0 + j) :: st) := by
  obtain ⟨⟨hx, hb, hml, hown, hts⟩, hr, hlocks, hinm, hb0, hK, hR⟩ := C
  intro H locs ls hP hz hS hl
  have he : (jc_ws b0 n cf)[j]? = some (b0 + j, .inl (jx_ca w 0, N, .inl f)) := by rw [jc_at hj, hcf]
  refine W.iast hx hb (hP j _ he) ((hK.1.2 0 _ rfl).1 N (fun j => .int (f j))) (fun q => by cases q) (by show ¬ (i < 0 ∨ (arrV _ _ _).slots.size ≤ _); rw [arrV_size]; exact hi) rfl rfl hd fun H1 e1 z1 oq => ?_
  have hP1 := hP.set (jc_D (b0 := b0)) he (e := .inl (jx_ca w 0, N, .inl (upd f i.toNatClampNeg x))) (H1 := H1) (by
    show H1[b0 + j]? = some (vp_cell _ _)
    rw [e1, vp_cell_i, vp_cell_i, arrV_store]
    congr 2
    funext q
    by_cases hq : q = i.toNatClampNeg
    · subst hq
      simp [updV, upd]
    · simp [updV, upd, hq]) oq
  rw [jc_set] at hP1
  exact k H1 _ ls hP1 (by rw [z1]; exact hz) (hS.put z1 oq (Nat.le_add_right _ _)) hl
theorem jc_aast (C : jc_Cx p R s m args meth c w cc nL own b0 d mc ms) {t j jv ci N : Nat} {r : vw_C} {f : Nat → Option Nat} {vs : List Value} {i : Int32} (hd : decode cc pc = .ok (.aastore, 1)) (hj : j < n) (hjv : jv < n) (hcf : cf j = jc_rar w t N f) (ht : (jx_tys w)[t]? = some (jx_ca w t, .object r.1)) (hcv : cf jv = .inr (ci, vs)) (hc : jx_cl[ci]? = some r) (hi : vp_in i N)
    (k : jc_Go p l e R s m args below meth c w nL b0 Q n (va_up cf j (jc_rar w t N (va_up f i.toNatClampNeg (some (b0 + jv))))) cells slots (pc + 1) lv st) : jc_Go p l e R s m args below meth c w nL b0 Q n cf cells slots pc lv (.ref (b0 + jv) :: .int i :: .ref (b0 + j) :: st) := by
  obtain ⟨⟨hx, hb, hml, hown, hts⟩, hr, hlocks, hinm, hb0, hK, hR⟩ := C
  intro H locs ls hP hz hS hl
  have ha : (jc_ws b0 n cf)[j]? = some (b0 + j, .inl (jx_ca w t, N, .inr (.inr (.inr (.inr f))))) := by rw [jc_at hj, hcf]; rfl
  have hv : (jc_ws b0 n cf)[jv]? = some (b0 + jv, .inr (ci, vs)) := by rw [jc_at hjv, hcv]
  have hlt : i.toNatClampNeg < N := Nat.not_le.mp fun q => hi (Or.inr q)
  have h0 : ¬ i < 0 := fun q => hi (Or.inl q)
  obtain ⟨r', hr', cellV, g1, g2, g3, -⟩ := hP jv _ hv
  have hcls := (hK.1.1 ci r hc).2
  obtain ⟨kA, comp, k1, k2, k3, -⟩ := (hK.1.2 t _ ht).2
  have hcomp : comp = (jx_dd w).1 ci := Option.some.inj (k3.symm.trans hcls.1)
  subst hcomp
  obtain ⟨kC, hkC, -⟩ := hcls.2
  refine W.aast hx hb (hP j _ ha) (fun q h => by cases h) (fun h => by cases h) k1 k2 rfl hkC ⟨h0, by show _ < (arrV _ _ _).slots.size; rw [arrV_size]; exact hlt⟩ g1 (fun q h => by rw [g3] at h; cases h) (by rw [g2]; exact hkC) (by rw [g2]; exact va_assign hcls) rfl rfl hd fun H1 e1 z1 oq => ?_
  have hP1 := hP.set (jc_D (b0 := b0)) ha (e := jc_rar w t N (va_up f i.toNatClampNeg (some (b0 + jv)))) (H1 := H1) (by
    show H1[b0 + j]? = some (vp_cell _ _)
    rw [e1, vp_cell_q, vp_cell_q, arrV_store]
    congr 2
    funext q
    by_cases hq : q = i.toNatClampNeg
    · subst hq
      simp [updV, va_up, va_rf]
    · simp [updV, va_up, hq]) oq
  rw [jc_set] at hP1
  exact k H1 _ ls hP1 (by rw [z1]; exact hz) (hS.put z1 oq (Nat.le_add_right _ _)) hl
theorem jc_ret (C : jc_Cx p R s m args meth c w cc nL own b0 d mc ms) (hd : decode cc pc = .ok (.return_, 1)) : jc_Go p l e R s m args below meth c w nL b0 (MQ below (jc_Po w b0 n cf) args s cells slots (fun q => b0 ≤ q)) n cf cells slots pc lv [] := by
  obtain ⟨⟨hx, hb, hml, hown, hts⟩, hr, hlocks, hinm, hb0, hK, hR⟩ := C
  intro H locs ls hP hz hS hl
  exact W.vret hx hb hr (fun t ht _ => ⟨rfl, by rw [ht]; exact hP, by rw [ht]; exact hz, hS.F ht⟩) hS.2.2 hd hlocks
theorem jc_U_blind (w : jx_Wd) (b0 n : Nat) (cf : Nat → va_E) (av : List Value) : FrameBlind (va_Pc av (jc_U w b0 n cf)) := by
  intro a1 U g mk hq
  obtain ⟨q1, q2, q3, q4, q5, q6, q7⟩ := hq
  refine ⟨q1, q2, q3, va_K.moved (u := U) (U := U.calling g mk a1) (Vm.Alike.refl U.vm) q4, fun x hx => ?_, va_AO.moved (u := U) (U := U.calling g mk a1) (Vm.Alike.refl U.vm) q6, va_AO.moved (u := U) (U := U.calling g mk a1) (Vm.Alike.refl U.vm) q7⟩
  obtain ⟨a2, i, y, b, rfl⟩ := jx_nest_f x hx
  exact va_Nw.same rfl rfl (q5 _ hx)
/-- a constructor is called -/
theorem jc_call (C : jc_Cx p R s m args meth c w cc nL own b0 d mc ms) {y : MethodName} {bytes : ByteArray} {maxL idx d' mc' ms' j n' : Nat} {cf' : Nat → va_E} (hd : decode cc pc = .ok (.invokespecial idx, 3)) (hM : jc_MT l w b0 y bytes maxL d' mc' ms' j n cf n' cf') (hlk : Cond.methodLink own idx y ∈ jx_tg ∨ ∃ host, Cond.methodLinkNest own idx y host ∈ jx_nest) (hin : Cond.instanceMethod y ∈ jx_tg) (hco : Cond.code y bytes maxL none ∈ jx_tg) (hini : Cond.initialized y.cls ∈ jx_tg) (hy1 : y.name = "<init>") (hyd : y.cls ≠ "java/lang/invoke/MethodHandle" ∧ y.cls ≠ "java/lang/invoke/VarHandle" ∧ (parseMethodDescriptor y.desc).map (fun d => d.parameters.length) = some 0) (hd' : d' ≤ d) (hmL : maxL ≤ 40) (h8 : (st.map fun v => v.category).sum ≤ 8) (h1 : cells + mc' ≤ mc) (h2 : slots + ms' ≤ ms)
    (k : jc_Go p l e R s m args below meth c w nL b0 Q n' cf' (cells + mc') (slots + ms') (pc + 3) lv st) : jc_Go p l e R s m args below meth c w nL b0 Q n cf cells slots pc lv (.ref (b0 + j) :: st) := by
  obtain ⟨hf, hr, hlocks, hinm, hb0, hK, hR⟩ := C
  have hf2 := hf
  obtain ⟨hx, hb, hml, hown, hts⟩ := hf
  intro H locs ls hP hz hS hl
  have hroom : (jc_rm d' mc' ms').frames + 1 ≤ R.frames ∧ 8 + (maxL + 11) + (jc_rm d' mc' ms').locals ≤ R.locals := by
    rw [hR]
    refine ⟨Nat.succ_le_succ hd', ?_⟩
    show 8 + (maxL + 11) + 64 * d' ≤ 64 * (d + 1)
    omega
  have hG : GoodIn jx_tg (Cond.code y bytes maxL none :: jx_tg) := fun x hx => by
    rcases List.mem_cons.mp hx with rfl | hx
    · exact jx_good hco
    · exact jx_good hx
  have hpre : PreS s H (va_Pc [.ref (b0 + j)] (jc_U w b0 n cf)) (.ref (b0 + j) :: []) := by
    refine ⟨jc_U_blind w b0 n cf _, fun U hU hW => ⟨rfl, by rw [hU]; exact hP, by rw [hU]; exact hz, va_K.moved hW.alike hK.1, fun x hx => ?_, va_AO.moved hW.alike hK.2.2.1, va_AO.moved hW.alike hK.2.2.2⟩⟩
    obtain ⟨a2, i, y2, b, rfl⟩ := jx_nest_f x hx
    exact va_Nw.warmM hW (hK.2.1 _ hx)
  have hrun : va_Run p l e R s m args below meth c H locs cells slots mc' ms' (F0 m pc ls (.ref (b0 + j) :: st)) st (jc_Po w b0 n' cf' #[.ref (b0 + j)]) (fun q => b0 ≤ q) := by
    rcases hlk with hlk | ⟨host, hlk⟩
    · exact va_runI (n := 0) (rest := st) (As := []) (b := b0 + j) (g := F0 m pc ls (.ref (b0 + j) :: st)) hf2 hM (cwI 0 hts hG rfl rfl rfl (hts _ hini) (hts _ hlk) (hts _ hin) hy1 hyd hroom) hpre rfl rfl hl.1 rfl (lv_room h8) hd (by rw [hR]; exact ⟨h1, h2⟩)
    · exact va_runIN (n := 0) (rest := st) (As := []) (b := b0 + j) (g := F0 m pc ls (.ref (b0 + j) :: st)) hf2 hM ⟨va_cnB 0 hts hG rfl rfl rfl (hK.2.1 _ hlk) (hts _ hini) hyd hroom, hy1, hts _ hin⟩ hpre rfl rfl hl.1 rfl (lv_room h8) hd (by rw [hR]; exact ⟨h1, h2⟩)
  intro T hT X
  obtain ⟨v, st₀, t, T', L, h0, X', hL, e1, e2, ⟨hv, hP1, hz1, hz2, hk⟩, stp⟩ := hrun T hT X
  cases hv
  rw [h0] at hz2 hk
  obtain ⟨t2, a1, b1⟩ := k T'.heap (locs ++ L) ls (by rw [e1]; exact hP1) (by rw [e1]; exact hz1) ⟨Nat.le_trans hS.1 (by rw [e1]; exact hz2), fun q h1 h2 => by rw [e1, hk q (Nat.lt_of_lt_of_le h1 hS.1) h2]; exact hS.2.1 q h1 h2, fun q hq => by
    rcases List.mem_append.mp hq with h | h
    · exact hS.2.2 q h
    · exact hL q h⟩ hl T' rfl X'
  exact ⟨t2, stp t2 a1, b1⟩
end
/-- a constructor's contract out of its walk -/
theorem jc_met {l : Launch} {w : jx_Wd} {b0 : Nat} {y : MethodName} {cc : ByteArray} {nL d mc ms k n n' : Nat} {cf cf' : Nat → va_E} (hy : plainName y.cls = true) (hn : y.name = "<init>") (h1 : 1 ≤ nL)
    (hb : ∀ p e R s m args below meth c, jc_Cx p R s m args meth c w cc nL y.cls b0 d mc ms → jc_Go p l e R s m args below meth c w nL b0 (MQ below (jc_Po w b0 n' cf') args s mc ms (fun q => b0 ≤ q)) n cf 0 0 0 [(0, .ref (b0 + k))] []) : jc_MT l w b0 y cc nL (d + 1) mc ms k n cf n' cf' := by
  refine Met.ofW (cc := cc) (maxL := nL) (ret := none) hy rfl ?_
  intro p e s m args below meth c s₁ B hml hv
  obtain ⟨rfl, hP, hz, hK⟩ := hv
  have hts := atoms_spec (ws := .code y cc nL none :: jx_tg) B.pre
  have hl := lv_entry ([.ref (b0 + k)]) (n := nL) h1
  rw [lg_entry_eq]
  generalize (lg_sl ([.ref (b0 + k)]) ++ List.replicate (nL - (lg_sl ([.ref (b0 + k)])).length) Slot.unset).toArray = ls at hl ⊢
  refine hb p e _ s m _ below meth c ⟨⟨B.exec, B.bytes, hml, findClass_of_methodNamed B.named, fun x hx => hts x (List.mem_cons_of_mem _ hx)⟩, B.returns, B.notSynchronized, ?_, by rw [hz]; exact Nat.le_add_right _ _, hK, rfl⟩ s.heap [] ls hP hz va_S.rf hl
  exact (name_of_methodNamed B.named B.method).1.trans hn
