/-! ===== the law: rows ===== -/
def R_law : String := "RoadBenchLaw"
def lw_P (b : Addr) (xs : List Int32) (args : Array Value) (s : State) : Prop := args = #[.ref b] ∧ s.IntsAt b xs ∧ xs.length ≤ 3072 ∧ (Jvm.Cond.and given_1 narrow_1).before args s = true
def lw_Q (_ : Array Value) (s : State) (o : Outcome) (t : State) : Prop := o = .returned (some (.int 1)) ∧ Framed s o t [] 600000 7302250
def lw_Z (below : List Frame) (a : Array Value) (s : State) : State → Prop := fun t => ∃ o, t.status = .running ∧ Ended t below o ∧ lw_Q a s o t
/-- the law's own end, with 1 on the stack, nothing written that was there before, its room as the claim has it -/
theorem lw_ret {p : Program} {l : Launch} {e : Env} {s : State} {m : MethodId} {below : List Frame} {meth : Method} {c : Code} {b : Nat} (hx : p.tables.exec = Jvm.exec) (hb : c.code = code) (hr : meth.sig.returnType = ret) (hlocks : meth.locks = false) {pc : Nat} {H : Heap} {ls : Array Slot} (hdg : decode code pc = .ok (.ireturn, 1)) : W p l e room_1 s m #[Value.ref b] below meth c H [] 600000 7302250 (lw_Z below #[Value.ref b] s) (F0 m pc ls [.int 1]) := by
  intro T hT X
  obtain ⟨fs, hret, hrun, hended, hW, hframe⟩ := X.leave (v := some (.int 1)) (hlocks := hlocks) (fun h => by rw [hr] at h; cases h)
  have hmeth' : T.vm.method? m = some meth := X.method'
  refine ⟨T.setFrames fs, ?_, .returned (some (.int 1)), hrun, hended, rfl, ⟨_, rfl⟩, hW, hframe⟩
  jvm_step X.here [X.here.top, hx, hb, hdg, hmeth', hr, ret, narrow_b1]
  (try refine ⟨rfl, ?_⟩); (try refine ⟨rfl, ?_⟩)
  first | (intro acts; rw [hret _ acts rfl rfl rfl]) | rw [hret _ _ rfl rfl rfl]
  exact Steps.refl _
/-- what holds at the law's entry -/
def lw_At (p : Program) (s : State) (m : MethodId) (meth : Method) (c : Code) (b L : Nat) (xs : Nat → Int32) : Prop :=
  p.tables.exec = Jvm.exec ∧ c.code = code ∧ meth.sig.returnType = ret ∧ c.maxLocals = 4 ∧ s.vm.findClass R_law = some m.cls ∧ (∀ w ∈ lw_tbl, w.before #[Value.ref b] s = true) ∧ va_X b L xs s s.heap ∧ b < s.heap.size ∧ meth.locks = false ∧ (Jvm.Cond.and given_1 narrow_1).before #[Value.ref b] s = true
def jl_W (s : State) (w : jx_Wd) : Prop := jx_wf w ∧ jx_wk w s ∧ ∀ q, jx_ar w q → s.heap.size ≤ q
def jl_dis (w w2 : jx_Wd) : Prop := ∀ q, jx_ar w q → ¬ jx_ar w2 q
def jl_Go (p : Program) (l : Launch) (e : Env) (s : State) (m : MethodId) (below : List Frame) (meth : Method) (c : Code) (b : Nat) (wx wm : jx_Wd) (hx hm : jx_H) (i : Int32) (pc : Nat) (st : List Value) : Prop :=
  ∀ (H : Heap) (locs : List Loc) (ls : Array Slot), va_P (jx_dd wx) jx_cl (jx_ws wx hx) H → va_P (jx_dd wm) jx_cl (jx_ws wm hm) H → va_S (fun q => s.heap.size ≤ q) s.heap H locs → lv_has ls 4 [(3, .int i), (2, .ref (jx_ad wm 30 0)), (1, .ref (jx_ad wx 0 0)), (0, .ref b)] → W p l e room_1 s m #[Value.ref b] below meth c H locs 223 8860 (lw_Z below #[Value.ref b] s) (F0 m pc ls st)
theorem jl_ptr {w : jx_Wd} {h : jx_H} {H H1 : Heap} (hP : va_P (jx_dd w) jx_cl (jx_ws w h) H) (hk : ∀ q : Nat, q < H.size → jx_ar w q → H1[q]? = H[q]?) : va_P (jx_dd w) jx_cl (jx_ws w h) H1 := by
  refine hP.kept (fun k q hq => hk q.1 ((hP k q hq).lt) ?_)
  simp only [jx_ws, List.getElem?_map] at hq
  cases h1 : (jx_pl w)[k]? with
  | none => rw [h1] at hq; cases hq
  | some a =>
    rw [h1] at hq
    cases hq
    exact ⟨a, List.mem_of_getElem? h1, rfl⟩
/-- a call of a method of one of the two -/
theorem jl_run {p : Program} {l : Launch} {e : Env} {s : State} {m : MethodId} {below : List Frame} {meth : Method} {c : Code} {b L : Nat} {xs : Nat → Int32} (C0 : lw_At p s m meth c b L xs) {w : jx_Wd} (hw : jl_W s w) {pc y n idx k ci N : Nat} {T : u_T} {fl : List jx_F} {a : List jx_V} {rest : List Value} {h : jx_H} {r' : jx_R} {H : Heap} {locs : List Loc} {ls : Array Slot}
    (hd : decode code pc = .ok (.invokevirtual idx, 3)) (mf : jx_mfV y n) (hlk : Cond.methodLink R_law idx (jx_m y).1 ∈ jx_tg) (hob : jx_ob k = some (ci, fl)) (hcl : jx_cl[ci]? = some ((jx_m y).1.cls, T, N)) (hm : (k, 0) ∈ jx_pl w) (ho : DM 64 y (vr k 0 :: a) h = some r') (hok : ∀ v ∈ a, jx_ok w v) (hn : a.length = n) (hct : (rest.map fun v => v.category).sum ≤ 8)
    (hP : va_P (jx_dd w) jx_cl (jx_ws w h) H) (hS : va_S (fun q => s.heap.size ≤ q) s.heap H locs) (hl : ls.size = 4) :
    va_Run p l e room_1 s m #[Value.ref b] below meth c H locs 223 8860 0 0 (F0 m pc ls ((a.map (jx_tr (jx_ad w))).reverse ++ .ref (jx_ad w k 0) :: rest)) rest (jx_Po w r' ((vr k 0 :: a).map (jx_tr (jx_ad w))).toArray) (jx_ar w) := by
  obtain ⟨hx, hb, hr, hml, hown, hts0, hX, hbl, hlocks, hgv⟩ := C0
  have hts : ∀ x ∈ jx_tg, x.before #[Value.ref b] s = true := fun x hx => hts0 x (jx_tg_in hx)
  obtain ⟨hwf, hK, hge⟩ := hw
  obtain ⟨⟨m1, m2, m3, m4⟩, m5, m6⟩ := mf
  have hM := jx_dm l hwf 64 y _ h r' ho (jx_oc (Or.inl hm) hok)
  obtain ⟨q0, -, hq0⟩ := jx_ws_at (w := w) (h := h) hm
  rw [jx_cell_o hob] at hq0
  have hS' : va_S (jx_ar w) s.heap H [] := ⟨hS.1, fun q h1 _ => hS.2.1 q h1 (Nat.not_le.mpr h1), fun _ h => absurd h List.not_mem_nil⟩
  have hroom : (jx_rm 64).frames + 1 ≤ room_1.frames ∧ 8 + ((jx_m y).2.2.1 + 11) + (jx_rm 64).locals ≤ room_1.locals := by
    refine ⟨by decide, ?_⟩
    show 8 + ((jx_m y).2.2.1 + 11) + 4096 ≤ 84000
    omega
  have hpre : PreV s H (jx_m y).1.cls (jx_ad w k 0) (va_Pc ((vr k 0 :: a).map (jx_tr (jx_ad w))) (jx_Pu w h)) (a.map (jx_tr (jx_ad w))) := ⟨jx_blind w _ h, va_recv hK.1 hP hcl hq0, fun U hU hW => ⟨rfl, by rw [hU]; exact hP, jx_wk_warm hK hU hW hS'⟩⟩
  exact va_runV (n := n) ⟨hx, hb, hml, hown, hts⟩ hM (cwV n hts (fun x hx => by
    simp only [wsV, List.mem_append, List.mem_cons, List.not_mem_nil, or_false] at hx
    rcases hx with (rfl | rfl | rfl | rfl) | hx
    · exact jx_good hlk
    · exact jx_good m5
    · exact jx_good m6
    · exact jx_good m4
    · exact jx_goodwy m3 x hx) rfl rfl rfl ⟨rfl, m1⟩ hroom) hpre rfl (by simpa using hn) hl rfl (lv_room hct) hd (by decide)
section
variable {p : Program} {l : Launch} {e : Env} {s : State} {m : MethodId} {below : List Frame} {meth : Method} {c : Code} {b L : Nat} {xs : Nat → Int32} {wx wm : jx_Wd} {hx hm : jx_H} {i : Int32} {pc : Nat} {st : List Value}
theorem jl_callx (C0 : lw_At p s m meth c b L xs) (hwx : jl_W s wx) (hd2 : jl_dis wx wm) {y n idx ci N : Nat} {T : u_T} {fl : List jx_F} {a : List jx_V} {hx' : jx_H} {v : jx_V} (hd : decode code pc = .ok (.invokevirtual idx, 3)) (mf : jx_mfV y n) (hlk : Cond.methodLink R_law idx (jx_m y).1 ∈ jx_tg) (hob : jx_ob 0 = some (ci, fl)) (hcl : jx_cl[ci]? = some ((jx_m y).1.cls, T, N)) (hmx : (0, 0) ∈ jx_pl wx) (ho : DM 64 y (vr 0 0 :: a) hx = some ([v], hx')) (hok : ∀ v ∈ a, jx_ok wx v) (hn : a.length = n) (hct : (st.map fun v => v.category).sum ≤ 8)
    (k : jl_Go p l e s m below meth c b wx wm hx' hm i (pc + 3) (jx_tr (jx_ad wx) v :: st)) : jl_Go p l e s m below meth c b wx wm hx hm i pc ((a.map (jx_tr (jx_ad wx))).reverse ++ .ref (jx_ad wx 0 0) :: st) := by
  intro H locs ls hPx hPm hS hl
  have hr := jl_run (l := l) (e := e) (below := below) C0 hwx hd mf hlk hob hcl hmx ho hok hn hct hPx hS hl.1
  intro T hT X
  obtain ⟨v', st₀, t, T', L', h0, X', hL, e1, e2, ⟨hv, hP1, hz, hk⟩, stp⟩ := hr T hT X
  cases hv
  rw [h0] at hz hk
  obtain ⟨t2, a1, b1⟩ := k T'.heap (locs ++ L') ls (by rw [e1]; exact hP1) (jl_ptr hPm (fun q h1 h2 => by rw [e1]; exact hk q h1 (fun g => hd2 q g h2))) ⟨Nat.le_trans hS.1 (by rw [e1]; exact hz), fun q h1 h2 => by rw [e1, hk q (Nat.lt_of_lt_of_le h1 hS.1) (fun g => h2 (hwx.2.2 q g))]; exact hS.2.1 q h1 h2, fun q hq => by
    rcases List.mem_append.mp hq with h | h
    · exact hS.2.2 q h
    · exact hwx.2.2 _ (hL q h)⟩ hl T' rfl X'
  exact ⟨t2, stp t2 a1, b1⟩
theorem jl_callm (C0 : lw_At p s m meth c b L xs) (hwm : jl_W s wm) (hd2 : jl_dis wx wm) {y n idx ci N : Nat} {T : u_T} {fl : List jx_F} {a : List jx_V} {hm' : jx_H} {v : jx_V} (hd : decode code pc = .ok (.invokevirtual idx, 3)) (mf : jx_mfV y n) (hlk : Cond.methodLink R_law idx (jx_m y).1 ∈ jx_tg) (hob : jx_ob 30 = some (ci, fl)) (hcl : jx_cl[ci]? = some ((jx_m y).1.cls, T, N)) (hmm : (30, 0) ∈ jx_pl wm) (ho : DM 64 y (vr 30 0 :: a) hm = some ([v], hm')) (hok : ∀ v ∈ a, jx_ok wm v) (hn : a.length = n) (hct : (st.map fun v => v.category).sum ≤ 8)
    (k : jl_Go p l e s m below meth c b wx wm hx hm' i (pc + 3) (jx_tr (jx_ad wm) v :: st)) : jl_Go p l e s m below meth c b wx wm hx hm i pc ((a.map (jx_tr (jx_ad wm))).reverse ++ .ref (jx_ad wm 30 0) :: st) := by
  intro H locs ls hPx hPm hS hl
  have hr := jl_run (l := l) (e := e) (below := below) C0 hwm hd mf hlk hob hcl hmm ho hok hn hct hPm hS hl.1
  intro T hT X
  obtain ⟨v', st₀, t, T', L', h0, X', hL, e1, e2, ⟨hv, hP1, hz, hk⟩, stp⟩ := hr T hT X
  cases hv
  rw [h0] at hz hk
  obtain ⟨t2, a1, b1⟩ := k T'.heap (locs ++ L') ls (jl_ptr hPx (fun q h1 h2 => by rw [e1]; exact hk q h1 (fun g => hd2 q h2 g))) (by rw [e1]; exact hP1) ⟨Nat.le_trans hS.1 (by rw [e1]; exact hz), fun q h1 h2 => by rw [e1, hk q (Nat.lt_of_lt_of_le h1 hS.1) (fun g => h2 (hwm.2.2 q g))]; exact hS.2.1 q h1 h2, fun q hq => by
    rcases List.mem_append.mp hq with h | h
    · exact hS.2.2 q h
    · exact hwm.2.2 _ (hL q h)⟩ hl T' rfl X'
  exact ⟨t2, stp t2 a1, b1⟩
theorem jl_al0 (C0 : lw_At p s m meth c b L xs) (hd : decode code pc = .ok (.aload_n 0, 1)) (k : jl_Go p l e s m below meth c b wx wm hx hm i (pc + 1) (.ref b :: st)) : jl_Go p l e s m below meth c b wx wm hx hm i pc st :=
  fun H locs ls hPx hPm hS hl => lv_aload_n C0.1 C0.2.1 hd rfl (lv_at hl 3 rfl) (k H locs ls hPx hPm hS hl)
theorem jl_al1 (C0 : lw_At p s m meth c b L xs) (hd : decode code pc = .ok (.aload_n 1, 1)) (k : jl_Go p l e s m below meth c b wx wm hx hm i (pc + 1) (.ref (jx_ad wx 0 0) :: st)) : jl_Go p l e s m below meth c b wx wm hx hm i pc st :=
  fun H locs ls hPx hPm hS hl => lv_aload_n C0.1 C0.2.1 hd rfl (lv_at hl 2 rfl) (k H locs ls hPx hPm hS hl)
theorem jl_al2 (C0 : lw_At p s m meth c b L xs) (hd : decode code pc = .ok (.aload_n 2, 1)) (k : jl_Go p l e s m below meth c b wx wm hx hm i (pc + 1) (.ref (jx_ad wm 30 0) :: st)) : jl_Go p l e s m below meth c b wx wm hx hm i pc st :=
  fun H locs ls hPx hPm hS hl => lv_aload_n C0.1 C0.2.1 hd rfl (lv_at hl 1 rfl) (k H locs ls hPx hPm hS hl)
theorem jl_il3 (C0 : lw_At p s m meth c b L xs) (hd : decode code pc = .ok (.iload_n 3, 1)) (k : jl_Go p l e s m below meth c b wx wm hx hm i (pc + 1) (.int i :: st)) : jl_Go p l e s m below meth c b wx wm hx hm i pc st :=
  fun H locs ls hPx hPm hS hl => lv_iload_n C0.1 C0.2.1 hd rfl (lv_at hl 0 rfl) (k H locs ls hPx hPm hS hl)
theorem jl_iconst (C0 : lw_At p s m meth c b L xs) {n : Int} {v : Int32} (hd : decode code pc = .ok (.iconst n, 1)) (hv : Int32.ofInt n = v) (k : jl_Go p l e s m below meth c b wx wm hx hm i (pc + 1) (.int v :: st)) : jl_Go p l e s m below meth c b wx wm hx hm i pc st :=
  fun H locs ls hPx hPm hS hl => lv_iconst C0.1 C0.2.1 hd hv (k H locs ls hPx hPm hS hl)
theorem jl_bipush (C0 : lw_At p s m meth c b L xs) {n : Int} {v : Int32} (hd : decode code pc = .ok (.bipush n, 2)) (hv : (Int8.ofInt n).toInt32 = v) (k : jl_Go p l e s m below meth c b wx wm hx hm i (pc + 2) (.int v :: st)) : jl_Go p l e s m below meth c b wx wm hx hm i pc st :=
  fun H locs ls hPx hPm hS hl => lv_bipush C0.1 C0.2.1 hd hv (k H locs ls hPx hPm hS hl)
theorem jl_iadd (C0 : lw_At p s m meth c b L xs) {x y : Int32} (hd : decode code pc = .ok (.iadd, 1)) (k : jl_Go p l e s m below meth c b wx wm hx hm i (pc + 1) (.int (x + y) :: st)) : jl_Go p l e s m below meth c b wx wm hx hm i pc (.int y :: .int x :: st) :=
  fun H locs ls hPx hPm hS hl => lv_iadd C0.1 C0.2.1 hd (k H locs ls hPx hPm hS hl)
theorem jl_isub (C0 : lw_At p s m meth c b L xs) {x y : Int32} (hd : decode code pc = .ok (.isub, 1)) (k : jl_Go p l e s m below meth c b wx wm hx hm i (pc + 1) (.int (x - y) :: st)) : jl_Go p l e s m below meth c b wx wm hx hm i pc (.int y :: .int x :: st) :=
  fun H locs ls hPx hPm hS hl => lv_isub C0.1 C0.2.1 hd (k H locs ls hPx hPm hS hl)
theorem jl_iand (C0 : lw_At p s m meth c b L xs) {x y : Int32} (hd : decode code pc = .ok (.iand, 1)) (k : jl_Go p l e s m below meth c b wx wm hx hm i (pc + 1) (.int (x &&& y) :: st)) : jl_Go p l e s m below meth c b wx wm hx hm i pc (.int y :: .int x :: st) :=
  fun H locs ls hPx hPm hS hl => lv_iand C0.1 C0.2.1 hd (k H locs ls hPx hPm hS hl)
theorem jl_sld (C0 : lw_At p s m meth c b L xs) {j : Int32} (hd : decode code pc = .ok (.iaload, 1)) (hj : vp_in j L) (k : jl_Go p l e s m below meth c b wx wm hx hm i (pc + 1) (.int (xs j.toNatClampNeg) :: st)) : jl_Go p l e s m below meth c b wx wm hx hm i pc (.int j :: .ref b :: st) := by
  obtain ⟨hx1, hb, hr, hml, hown, hts0, hX, hbl, hlocks, hgv⟩ := C0
  exact fun H locs ls hPx hPm hS hl => va_sld hx1 hb hX hbl (Nat.not_le.mpr hbl) hS hj hd (k H locs ls hPx hPm hS hl)
/-- script[i + d] -/
theorem jl_sc (C0 : lw_At p s m meth c b L xs) {j q : Nat} {d : Int32} (hi : i = nI j) (hd : d = nI q) (hjL : j + q < L) (hL : L ≤ 3072) (h0 : decode code pc = .ok (.aload_n 0, 1)) (h1 : decode code (pc + 1) = .ok (.iload_n 3, 1)) {n : Int} (h2 : decode code (pc + 2) = .ok (.iconst n, 1)) (hn : Int32.ofInt n = d) (h3 : decode code (pc + 3) = .ok (.iadd, 1)) (h4 : decode code (pc + 4) = .ok (.iaload, 1)) (k : jl_Go p l e s m below meth c b wx wm hx hm i (pc + 5) (.int (xs (j + q)) :: st)) : jl_Go p l e s m below meth c b wx wm hx hm i pc st := by
  refine jl_al0 C0 h0 <| jl_il3 C0 h1 <| jl_iconst C0 h2 hn <| jl_iadd C0 h3 <| ?_
  have e1 : i + d = nI (j + q) := by rw [hi, hd, nI_add]
  refine jl_sld C0 h4 (by rw [e1]; exact vp_in_nI hjL (by omega)) ?_
  rw [e1, nI_clamp (by omega)]
  exact k
/-- script[i + d] != 0 -/
theorem jl_sb (C0 : lw_At p s m meth c b L xs) {j q : Nat} {d : Int32} (hi : i = nI j) (hd : d = nI q) (hjL : j + q < L) (hL : L ≤ 3072) (h0 : decode code pc = .ok (.aload_n 0, 1)) (h1 : decode code (pc + 1) = .ok (.iload_n 3, 1)) {n : Int} (h2 : decode code (pc + 2) = .ok (.iconst n, 1)) (hn : Int32.ofInt n = d) (h3 : decode code (pc + 3) = .ok (.iadd, 1)) (h4 : decode code (pc + 4) = .ok (.iaload, 1)) (h5 : decode code (pc + 5) = .ok (.ifCond .eq 7, 3)) (h6 : decode code (pc + 8) = .ok (.iconst 1, 1)) (h7 : decode code (pc + 9) = .ok (.goto 4, 3)) (h8 : decode code (pc + 12) = .ok (.iconst 0, 1)) (k : jl_Go p l e s m below meth c b wx wm hx hm i (pc + 13) (.int (if xs (j + q) = 0 then 0 else 1) :: st)) : jl_Go p l e s m below meth c b wx wm hx hm i pc st := by
  refine jl_sc C0 hi hd hjL hL h0 h1 h2 hn h3 h4 ?_
  intro H locs ls hPx hPm hS hl
  refine lv_if_eq C0.1 C0.2.1 (tgt := pc + 12) h5 (by omega) (fun g => ?_) (fun g => ?_)
  · rw [if_pos g] at k
    exact lv_iconst C0.1 C0.2.1 h8 rfl (k H locs ls hPx hPm hS hl)
  · rw [if_neg g] at k
    exact lv_iconst C0.1 C0.2.1 h6 rfl (lv_goto C0.1 C0.2.1 (tgt := pc + 13) h7 (by omega) (k H locs ls hPx hPm hS hl))
/-- the two answers are the same -/
theorem jl_eq (C0 : lw_At p s m meth c b L xs) {x y : Int32} (h : x = y) {off : Int} {t : Nat} (hd : decode code pc = .ok (.if_icmp .eq off, 3)) (ht : (pc : Int) + off = (t : Int)) (k : jl_Go p l e s m below meth c b wx wm hx hm i t st) : jl_Go p l e s m below meth c b wx wm hx hm i pc (.int y :: .int x :: st) :=
  fun H locs ls hPx hPm hS hl => lv_icmp_eq C0.1 C0.2.1 hd ht (fun _ => k H locs ls hPx hPm hS hl) (fun g => absurd h g)
theorem jl_eql (C0 : lw_At p s m meth c b L xs) {x y : Int64} (h : x = y) {off : Int} {t : Nat} (hd0 : decode code pc = .ok (.lcmp, 1)) (hd : decode code (pc + 1) = .ok (.ifCond .eq off, 3)) (ht : ((pc + 1 : Nat) : Int) + off = (t : Int)) (k : jl_Go p l e s m below meth c b wx wm hx hm i t st) : jl_Go p l e s m below meth c b wx wm hx hm i pc (.long y :: .long x :: st) := by
  subst h
  intro H locs ls hPx hPm hS hl
  refine W.lcmp C0.1 C0.2.1 hd0 ?_
  refine lv_if_eq C0.1 C0.2.1 hd ht (fun _ => k H locs ls hPx hPm hS hl) (fun g => absurd ?_ g)
  unfold lg_cmp
  have h1 : ¬ x < x := by
    intro g
    exact absurd g (by simp)
  simp [h1]
theorem jl_goto (C0 : lw_At p s m meth c b L xs) {off : Int} {t : Nat} (hd : decode code pc = .ok (.goto off, 3)) (ht : (pc : Int) + off = (t : Int)) (k : jl_Go p l e s m below meth c b wx wm hx hm i t st) : jl_Go p l e s m below meth c b wx wm hx hm i pc st :=
  fun H locs ls hPx hPm hS hl => lv_goto C0.1 C0.2.1 hd ht (k H locs ls hPx hPm hS hl)
theorem jl_next (C0 : lw_At p s m meth c b L xs) (hd : decode code 1221 = .ok (.iinc 3 6, 3)) (hg : decode code 1224 = .ok (.goto (-1206), 3)) (k : jl_Go p l e s m below meth c b wx wm hx hm (i + 6) 18 []) : jl_Go p l e s m below meth c b wx wm hx hm i 1221 [] :=
  fun H locs ls hPx hPm hS hl => lv_iinc C0.1 C0.2.1 hd hl (k := 0) rfl rfl (by decide) rfl (fun ls' hl' => lv_goto C0.1 C0.2.1 (tgt := 18) hg (by decide) (k H locs ls' hPx hPm hS (lv_sub hl' [0, 1, 2, 3] rfl)))
end
