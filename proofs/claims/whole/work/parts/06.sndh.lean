/-! ===== acts on the heap, and calls ===== -/
def jx_kf (c ci : Nat) (C : String) (T : u_T) (N : Nat) (ty : Nat → FieldType) (fl : List jx_F) : Prop := jx_ob c = some (ci, fl) ∧ jx_cl[ci]? = some (C, T, N) ∧ (∀ x ∈ u_ws C T N, x ∈ jx_tg) ∧ (∀ k, k < N → parseFieldDescriptor (T k).2.2.1 = some (ty k)) ∧ (∀ a, a < N → ∀ b, b < N → a ≠ b → (T a).2.1 ≠ (T b).2.1) ∧ fl.length = N
theorem jx_mem_of {w : jx_Wd} {c i : Nat} (h : jx_ok w (vr c i)) (hc : c ≠ 60) : (c, i) ∈ jx_pl w := by
  rcases h with h | h
  · exact h
  · exact absurd (congrArg Prod.fst h) hc
theorem jx_ob60 {c ci : Nat} {fl : List jx_F} (h : jx_ob c = some (ci, fl)) : c ≠ 60 := by
  intro e
  subst e
  cases h
theorem jx_ty_ob {c : Nat} (h : jx_ty c ≠ 9) : jx_ob c = none := by
  unfold jx_ob
  split <;> first | rfl | exact absurd (by decide) h
theorem jx_ty60 {c : Nat} (h : jx_ty c ≠ 9) : c ≠ 60 := by
  intro e
  subst e
  exact h (by decide)
theorem jx_beq {a b : Nat} (h : Nat.beq a b = true) : a = b := Nat.eq_of_beq_eq_true h
theorem jx_fv_same {ad : Nat → Nat → Nat} {h h' : jx_H} {c i f : Nat} (q : jx_F) (e : h'.1 c i f = h.1 c i f) : jx_fv ad h' c i f q = jx_fv ad h c i f q := by
  unfold jx_fv
  rw [e]
theorem jx_fv0 {ad : Nat → Nat → Nat} {h : jx_H} {c i f : Nat} {q : jx_F} (e : q.1 = 0) : jx_fv ad h c i f q = .int (h.1 c i f) := by
  unfold jx_fv
  simp only [e]
theorem jx_fv1 {ad : Nat → Nat → Nat} {h : jx_H} {c i f tc : Nat} {ti : Nat → Nat} {q : jx_F} (e : q = (1, tc, ti)) : jx_fv ad h c i f q = .ref (ad tc (ti i)) := by
  subst e
  rfl
theorem jx_fv2 {ad : Nat → Nat → Nat} {h : jx_H} {c i f tc ti : Nat} {q : jx_F} (e : q = (2, tc, fun _ => ti)) (h1 : h.1 c i f = 1) : jx_fv ad h c i f q = .ref (ad tc ti) := by
  subst e
  show (if h.1 c i f = 1 then Value.ref (ad tc ti) else .null) = _
  rw [if_pos h1]
theorem jx_fvs_put {ad : Nat → Nat → Nat} {h h' : jx_H} {c i f : Nat} {fl : List jx_F} {q : jx_F} {v : Value} (hf : fl[f]? = some q) (hv : jx_fv ad h' c i f q = v) (ho : ∀ k, k ≠ f → h'.1 c i k = h.1 c i k) : jx_fvs ad h' c i 0 fl = (jx_fvs ad h c i 0 fl).set f v := by
  apply List.ext_getElem?
  intro k
  rw [List.getElem?_set, jx_fvs_get, jx_fvs_get, jx_fvs_len]
  by_cases hk : f = k
  · subst hk
    rw [if_pos rfl, if_pos (List.getElem?_eq_some_iff.mp hf).1, hf]
    simp only [Option.map_some, Nat.zero_add]
    rw [hv]
  · rw [if_neg hk]
    cases hg : fl[k]? with
    | none => rfl
    | some g =>
      simp only [Option.map_some, Nat.zero_add]
      rw [jx_fv_same g (ho k (Ne.symm hk))]
theorem jx_cell_o {w : jx_Wd} {h : jx_H} {c i ci : Nat} {fl : List jx_F} (h1 : jx_ob c = some (ci, fl)) : jx_cell w h c i = .inr (ci, jx_fvs (jx_ad w) h c i 0 fl) := by
  unfold jx_cell
  rw [h1]
theorem jx_cell_i {w : jx_Wd} {h : jx_H} {c i : Nat} (h1 : jx_ty c = 0) : jx_cell w h c i = .inl (jx_ca w 0, jx_ln c, .inl (h.1 c i)) := by
  unfold jx_cell
  simp only [jx_ty_ob (c := c) (by rw [h1]; decide), h1]
theorem jx_cell_l {w : jx_Wd} {h : jx_H} {c i : Nat} (h1 : jx_ty c = 1) : jx_cell w h c i = .inl (jx_ca w 1, jx_ln c, .inr (.inl (h.2 c i))) := by
  unfold jx_cell
  simp only [jx_ty_ob (c := c) (by rw [h1]; decide), h1]
theorem jx_cell_z {w : jx_Wd} {h : jx_H} {c i : Nat} (h1 : jx_ty c = 2) : jx_cell w h c i = .inl (jx_ca w 2, jx_ln c, .inl (h.1 c i)) := by
  unfold jx_cell
  simp only [jx_ty_ob (c := c) (by rw [h1]; decide), h1]
theorem jx_cell_r {w : jx_Wd} {h : jx_H} {c i : Nat} (h1 : jx_ty c = 3) : jx_cell w h c i = .inl (jx_ca w (jx_rc c), jx_ln c, .inr (.inr (.inr (.inr (fun j => some (jx_ad w (jx_ek c) (jx_eo c + j))))))) := by
  unfold jx_cell
  simp only [jx_ty_ob (c := c) (by rw [h1]; decide), h1]
theorem jx_inc_iff {j : Int32} {n : Nat} (h : jx_in j n) : vp_in j n := vp_in_iff.mpr h
theorem jx_in_lt {j : Int32} {n : Nat} (h : jx_in j n) : j.toNatClampNeg < n := Nat.not_le.mp fun q => (vp_in_iff.mpr h) (Or.inr q)
theorem jx_ct_sum {ad : Nat → Nat → Nat} : ∀ (st : List jx_V), ((st.map (jx_tr ad)).map fun v => v.category).sum = jx_ct st := by
  intro st
  induction st with
  | nil => rfl
  | cons v t ih =>
    rcases v with (x | x) | (_ | r) <;> (simp only [List.map_cons, List.sum_cons, ih, jx_ct]; rfl)
section
variable {cc : ByteArray} {nL : Nat} {own : String} {ret : Option FieldType} {D : jx_D} {pc : Nat}
theorem sd_gI {c f idx ci N : Nat} {C : String} {T : u_T} {ty : Nat → FieldType} {fl : List jx_F} {q : jx_F} (kf : jx_kf c ci C T N ty fl) (hd : decode cc pc = .ok (.getfield idx, 3)) (hf : fl[f]? = some q) (hlk : Cond.fieldLink own idx (T f).1 (T f).2.1 (T f).2.2.1 ∈ jx_tg) (h0 : q.1 = 0) : jx_Snd cc nL own ret D pc (jx_gI c f (pc + 3)) := by
  intro p l e R s m args below meth cd w r C k lo st h hk ha H locs ls hP hS hl o1 o2
  obtain ⟨⟨hx, hb, hml, hown, hts⟩, hr, hlocks, hw, hK, d, hR, hD⟩ := C
  obtain ⟨ho, hc, hin, hty, hnm, hfl⟩ := kf
  have hfN : f < N := by rw [← hfl]; exact (List.getElem?_eq_some_iff.mp hf).1
  unfold jx_gI at ha
  split at ha
  · rename_i c' i st
    cases hcc : Nat.beq c' c with
    | false => rw [hcc] at ha; cases ha
    | true =>
      rw [hcc] at ha
      have := jx_beq hcc
      subst this
      have hm := jx_mem_of (jx_oh o2) (jx_ob60 ho)
      obtain ⟨q0, -, hq0⟩ := jx_ws_at (w := w) (h := h) hm
      rw [jx_cell_o ho] at hq0
      exact va_get hx hb hts hin hown hK.1 hP q0 hq0 hc f hfN (hts _ hlk) (fun _ z => z) (v := .int (h.1 c' i f)) (by rw [jx_fvs_get, hf]; simp only [Option.map_some, Nat.zero_add]; rw [jx_fv0 h0]) hd (hk _ _ _ _ ha H locs ls hP hS hl o1 (jx_oc trivial (jx_o1 o2)))
  · cases ha
theorem sd_gR {c f idx ci N : Nat} {C : String} {T : u_T} {ty : Nat → FieldType} {fl : List jx_F} {q : jx_F} (kf : jx_kf c ci C T N ty fl) {tc : Nat} {ti : Nat → Nat} (hd : decode cc pc = .ok (.getfield idx, 3)) (hf : fl[f]? = some q) (hlk : Cond.fieldLink own idx (T f).1 (T f).2.1 (T f).2.2.1 ∈ jx_tg) (h0 : q = (1, tc, ti)) : jx_Snd cc nL own ret D pc (jx_gR c tc ti (pc + 3)) := by
  intro p l e R s m args below meth cd w r C k lo st h hk ha H locs ls hP hS hl o1 o2
  obtain ⟨⟨hx, hb, hml, hown, hts⟩, hr, hlocks, hw, hK, d, hR, hD⟩ := C
  obtain ⟨ho, hc, hin, hty, hnm, hfl⟩ := kf
  have hfN : f < N := by rw [← hfl]; exact (List.getElem?_eq_some_iff.mp hf).1
  unfold jx_gR at ha
  split at ha
  · rename_i c' i st
    cases hcc : Nat.beq c' c with
    | false => rw [hcc] at ha; cases ha
    | true =>
      rw [hcc] at ha
      have := jx_beq hcc
      subst this
      have hm := jx_mem_of (jx_oh o2) (jx_ob60 ho)
      obtain ⟨q0, -, hq0⟩ := jx_ws_at (w := w) (h := h) hm
      rw [jx_cell_o ho] at hq0
      exact va_get hx hb hts hin hown hK.1 hP q0 hq0 hc f hfN (hts _ hlk) (fun _ z => z) (v := .ref (jx_ad w tc (ti i))) (by rw [jx_fvs_get, hf]; simp only [Option.map_some, Nat.zero_add]; rw [jx_fv1 h0]) hd (hk _ _ _ _ ha H locs ls hP hS hl o1 (jx_oc (Or.inl (by have := hw.2.2.1 _ hm _ ho f q hf (by rw [h0]; exact fun z => by cases z); rw [h0] at this; exact this)) (jx_o1 o2)))
  · cases ha
theorem sd_gM {c f idx ci N : Nat} {C : String} {T : u_T} {ty : Nat → FieldType} {fl : List jx_F} {q : jx_F} (kf : jx_kf c ci C T N ty fl) {tc ti : Nat} (hd : decode cc pc = .ok (.getfield idx, 3)) (hf : fl[f]? = some q) (hlk : Cond.fieldLink own idx (T f).1 (T f).2.1 (T f).2.2.1 ∈ jx_tg) (h0 : q = (2, tc, fun _ => ti)) : jx_Snd cc nL own ret D pc (jx_gM c f tc ti (pc + 3)) := by
  intro p l e R s m args below meth cd w r C k lo st h hk ha H locs ls hP hS hl o1 o2
  obtain ⟨⟨hx, hb, hml, hown, hts⟩, hr, hlocks, hw, hK, d, hR, hD⟩ := C
  obtain ⟨ho, hc, hin, hty, hnm, hfl⟩ := kf
  have hfN : f < N := by rw [← hfl]; exact (List.getElem?_eq_some_iff.mp hf).1
  unfold jx_gM at ha
  split at ha
  · rename_i c' i st
    cases hcc : Nat.beq c' c with
    | false => rw [hcc] at ha; cases ha
    | true =>
      rw [hcc] at ha
      have := jx_beq hcc
      subst this
      have hm := jx_mem_of (jx_oh o2) (jx_ob60 ho)
      obtain ⟨q0, -, hq0⟩ := jx_ws_at (w := w) (h := h) hm
      rw [jx_cell_o ho] at hq0
      by_cases hfl1 : h.1 c' i f = 1
      · rw [cond_true, jx_ifp hfl1] at ha
        exact va_get hx hb hts hin hown hK.1 hP q0 hq0 hc f hfN (hts _ hlk) (fun _ z => z) (v := .ref (jx_ad w tc ti)) (by rw [jx_fvs_get, hf]; simp only [Option.map_some, Nat.zero_add]; rw [jx_fv2 h0 hfl1]) hd (hk _ _ _ _ ha H locs ls hP hS hl o1 (jx_oc (Or.inl (by have := hw.2.2.1 _ hm _ ho f q hf (by rw [h0]; exact fun z => by cases z); rw [h0] at this; exact this)) (jx_o1 o2)))
      · rw [cond_true, jx_ifn hfl1] at ha
        cases ha
  · cases ha
theorem sd_pI {c f idx ci N : Nat} {C : String} {T : u_T} {ty : Nat → FieldType} {fl : List jx_F} {q : jx_F} (kf : jx_kf c ci C T N ty fl) (hd : decode cc pc = .ok (.putfield idx, 3)) (hf : fl[f]? = some q) (hlk : Cond.fieldLink own idx (T f).1 (T f).2.1 (T f).2.2.1 ∈ jx_tg) (h0 : q.1 = 0) (hfin : (T f).2.2.2 = false) (hT : ty f = .int) : jx_Snd cc nL own ret D pc (jx_pI c f (pc + 3)) := by
  intro p l e R s m args below meth cd w r C k lo st h hk ha H locs ls hP hS hl o1 o2
  obtain ⟨⟨hx, hb, hml, hown, hts⟩, hr, hlocks, hw, hK, d, hR, hD⟩ := C
  obtain ⟨ho, hc, hin, hty, hnm, hfl⟩ := kf
  have hfN : f < N := by rw [← hfl]; exact (List.getElem?_eq_some_iff.mp hf).1
  unfold jx_pI at ha
  split at ha
  · rename_i v c' i st
    cases hcc : Nat.beq c' c with
    | false => rw [hcc] at ha; cases ha
    | true =>
      rw [hcc] at ha
      have := jx_beq hcc
      subst this
      have hm := jx_mem_of (jx_oh (jx_o1 o2)) (jx_ob60 ho)
      obtain ⟨q0, hp0, hq0⟩ := jx_ws_at (w := w) (h := h) hm
      rw [jx_cell_o ho] at hq0
      refine va_put hx hb hts hin ty hty hnm hown hK.1 hP (jx_ws_D hw h) hS q0 hq0 hc f hfN (hts _ hlk) (fun _ z => z) hfin (v := .int v) ((hty f hfN).trans (congrArg some hT)) rfl rfl (by rw [jx_fvs_len, hfl]; exact hfN) hd (fun H1 locs1 hP1 _ hS1 => ?_)
      rw [jx_ws_set hw (h' := jx_sI h c' i f v) hp0 ((jx_cell_o ho).trans (congrArg (fun z => Sum.inr (ci, z)) (jx_fvs_put hf (v := .int v) (by rw [jx_fv0 h0]; simp [jx_sI]) (fun k hk => by simp [jx_sI, hk])))) (fun a b hab => by
        refine ⟨?_, rfl⟩
        funext z
        simp only [jx_sI]
        rw [if_neg]
        rintro ⟨rfl, rfl, -⟩
        exact hab rfl)] at hP1
      exact hk _ _ _ _ ha H1 locs1 ls hP1 hS1 hl o1 (jx_o1 (jx_o1 o2))
  · cases ha
theorem sd_pZ {c f idx ci N : Nat} {C : String} {T : u_T} {ty : Nat → FieldType} {fl : List jx_F} {q : jx_F} (kf : jx_kf c ci C T N ty fl) (hd : decode cc pc = .ok (.putfield idx, 3)) (hf : fl[f]? = some q) (hlk : Cond.fieldLink own idx (T f).1 (T f).2.1 (T f).2.2.1 ∈ jx_tg) (h0 : q.1 = 0) (hfin : (T f).2.2.2 = false) (hT : ty f = .boolean) : jx_Snd cc nL own ret D pc (jx_pZ c f (pc + 3)) := by
  intro p l e R s m args below meth cd w r C k lo st h hk ha H locs ls hP hS hl o1 o2
  obtain ⟨⟨hx, hb, hml, hown, hts⟩, hr, hlocks, hw, hK, d, hR, hD⟩ := C
  obtain ⟨ho, hc, hin, hty, hnm, hfl⟩ := kf
  have hfN : f < N := by rw [← hfl]; exact (List.getElem?_eq_some_iff.mp hf).1
  unfold jx_pZ at ha
  split at ha
  · rename_i v c' i st
    cases hcc : Nat.beq c' c with
    | false => rw [hcc] at ha; cases ha
    | true =>
      rw [hcc] at ha
      have := jx_beq hcc
      subst this
      have hv : v = 0 ∨ v = 1 := by
        by_cases hv : v = 0 ∨ v = 1
        · exact hv
        · rw [cond_true, jx_ifn hv] at ha
          cases ha
      rw [cond_true, jx_ifp hv] at ha
      have hm := jx_mem_of (jx_oh (jx_o1 o2)) (jx_ob60 ho)
      obtain ⟨q0, hp0, hq0⟩ := jx_ws_at (w := w) (h := h) hm
      rw [jx_cell_o ho] at hq0
      refine va_put hx hb hts hin ty hty hnm hown hK.1 hP (jx_ws_D hw h) hS q0 hq0 hc f hfN (hts _ hlk) (fun _ z => z) hfin (v := .int v) ((hty f hfN).trans (congrArg some hT)) (by rcases hv with rfl | rfl <;> rfl) (by rcases hv with rfl | rfl <;> rfl) (by rw [jx_fvs_len, hfl]; exact hfN) hd (fun H1 locs1 hP1 _ hS1 => ?_)
      rw [jx_ws_set hw (h' := jx_sI h c' i f v) hp0 ((jx_cell_o ho).trans (congrArg (fun z => Sum.inr (ci, z)) (jx_fvs_put hf (v := .int v) (by rw [jx_fv0 h0]; simp [jx_sI]) (fun k hk => by simp [jx_sI, hk])))) (fun a b hab => by
        refine ⟨?_, rfl⟩
        funext z
        simp only [jx_sI]
        rw [if_neg]
        rintro ⟨rfl, rfl, -⟩
        exact hab rfl)] at hP1
      exact hk _ _ _ _ ha H1 locs1 ls hP1 hS1 hl o1 (jx_o1 (jx_o1 o2))
  · cases ha
theorem sd_pM {c f idx ci N : Nat} {C : String} {T : u_T} {ty : Nat → FieldType} {fl : List jx_F} {q : jx_F} (kf : jx_kf c ci C T N ty fl) {tc ti : Nat} {Cn : String} (hd : decode cc pc = .ok (.putfield idx, 3)) (hf : fl[f]? = some q) (hlk : Cond.fieldLink own idx (T f).1 (T f).2.1 (T f).2.2.1 ∈ jx_tg) (h0 : q = (2, tc, fun _ => ti)) (hfin : (T f).2.2.2 = false) (hT : ty f = .object Cn) : jx_Snd cc nL own ret D pc (jx_pM c f tc ti (pc + 3)) := by
  intro p l e R s m args below meth cd w r C k lo st h hk ha H locs ls hP hS hl o1 o2
  obtain ⟨⟨hx, hb, hml, hown, hts⟩, hr, hlocks, hw, hK, d, hR, hD⟩ := C
  obtain ⟨ho, hc, hin, hty, hnm, hfl⟩ := kf
  have hfN : f < N := by rw [← hfl]; exact (List.getElem?_eq_some_iff.mp hf).1
  unfold jx_pM at ha
  split at ha
  · rename_i c1 i1 c' i st
    cases hcc : Nat.beq c' c && (Nat.beq c1 tc && Nat.beq i1 ti) with
    | false => rw [hcc] at ha; cases ha
    | true =>
      rw [hcc] at ha
      obtain ⟨hc1, hc2⟩ := Bool.and_eq_true_iff.mp hcc
      obtain ⟨hc2, hc3⟩ := Bool.and_eq_true_iff.mp hc2
      have := jx_beq hc1
      subst this
      have := jx_beq hc2
      subst this
      have := jx_beq hc3
      subst this
      have hm := jx_mem_of (jx_oh (jx_o1 o2)) (jx_ob60 ho)
      obtain ⟨q0, hp0, hq0⟩ := jx_ws_at (w := w) (h := h) hm
      rw [jx_cell_o ho] at hq0
      refine va_put hx hb hts hin ty hty hnm hown hK.1 hP (jx_ws_D hw h) hS q0 hq0 hc f hfN (hts _ hlk) (fun _ z => z) hfin (v := .ref (jx_ad w c1 i1)) ((hty f hfN).trans (congrArg some hT)) rfl rfl (by rw [jx_fvs_len, hfl]; exact hfN) hd (fun H1 locs1 hP1 _ hS1 => ?_)
      rw [jx_ws_set hw (h' := jx_sI h c' i f 1) hp0 ((jx_cell_o ho).trans (congrArg (fun z => Sum.inr (ci, z)) (jx_fvs_put hf (v := .ref (jx_ad w c1 i1)) (by exact jx_fv2 h0 (by simp [jx_sI])) (fun k hk => by simp [jx_sI, hk])))) (fun a b hab => by
        refine ⟨?_, rfl⟩
        funext z
        simp only [jx_sI]
        rw [if_neg]
        rintro ⟨rfl, rfl, -⟩
        exact hab rfl)] at hP1
      exact hk _ _ _ _ ha H1 locs1 ls hP1 hS1 hl o1 (jx_o1 (jx_o1 o2))
  · cases ha
theorem sd_iaload (hd : decode cc pc = .ok (.iaload, 1)) : jx_Snd cc nL own ret D pc (jx_iald (pc + 1)) := by
  intro p l e R s m args below meth cd w r C k lo st h hk ha H locs ls hP hS hl o1 o2
  obtain ⟨⟨hx, hb, hml, hown, hts⟩, hr, hlocks, hw, hK, d, hR, hD⟩ := C
  unfold jx_iald at ha
  split at ha
  · rename_i j c' i st
    cases hcc : Nat.beq (jx_ty c') 0 with
    | false => rw [hcc] at ha; cases ha
    | true =>
      rw [hcc] at ha
      have ht := jx_beq hcc
      have hne : jx_ty c' ≠ 9 := by rw [ht]; decide
      have hm := jx_mem_of (jx_oh (jx_o1 o2)) (jx_ty60 hne)
      obtain ⟨q0, -, hq0⟩ := jx_ws_at (w := w) (h := h) hm
      rw [jx_cell_i ht] at hq0
      by_cases hj : jx_in j (jx_ln c')
      · rw [cond_true, jx_ifp hj] at ha
        exact va_iald hx hb hK.1 hP q0 0 hq0 rfl (jx_inc_iff hj) hd (hk _ _ _ _ ha H locs ls hP hS hl o1 (jx_oc trivial (jx_o1 (jx_o1 o2))))
      · exfalso
        rw [cond_true, jx_ifn hj] at ha
        cases ha
  · cases ha
theorem sd_baload (hd : decode cc pc = .ok (.baload, 1)) : jx_Snd cc nL own ret D pc (jx_bald (pc + 1)) := by
  intro p l e R s m args below meth cd w r C k lo st h hk ha H locs ls hP hS hl o1 o2
  obtain ⟨⟨hx, hb, hml, hown, hts⟩, hr, hlocks, hw, hK, d, hR, hD⟩ := C
  unfold jx_bald at ha
  split at ha
  · rename_i j c' i st
    cases hcc : Nat.beq (jx_ty c') 2 with
    | false => rw [hcc] at ha; cases ha
    | true =>
      rw [hcc] at ha
      have ht := jx_beq hcc
      have hne : jx_ty c' ≠ 9 := by rw [ht]; decide
      have hm := jx_mem_of (jx_oh (jx_o1 o2)) (jx_ty60 hne)
      obtain ⟨q0, -, hq0⟩ := jx_ws_at (w := w) (h := h) hm
      rw [jx_cell_z ht] at hq0
      by_cases hj : jx_in j (jx_ln c')
      · rw [cond_true, jx_ifp hj] at ha
        exact va_zald hx hb hK.1 hP q0 2 hq0 rfl (jx_inc_iff hj) hd (hk _ _ _ _ ha H locs ls hP hS hl o1 (jx_oc trivial (jx_o1 (jx_o1 o2))))
      · exfalso
        rw [cond_true, jx_ifn hj] at ha
        cases ha
  · cases ha
theorem sd_laload (hd : decode cc pc = .ok (.laload, 1)) : jx_Snd cc nL own ret D pc (jx_lald (pc + 1)) := by
  intro p l e R s m args below meth cd w r C k lo st h hk ha H locs ls hP hS hl o1 o2
  obtain ⟨⟨hx, hb, hml, hown, hts⟩, hr, hlocks, hw, hK, d, hR, hD⟩ := C
  unfold jx_lald at ha
  split at ha
  · rename_i j c' i st
    cases hcc : Nat.beq (jx_ty c') 1 with
    | false => rw [hcc] at ha; cases ha
    | true =>
      rw [hcc] at ha
      have ht := jx_beq hcc
      have hne : jx_ty c' ≠ 9 := by rw [ht]; decide
      have hm := jx_mem_of (jx_oh (jx_o1 o2)) (jx_ty60 hne)
      obtain ⟨q0, -, hq0⟩ := jx_ws_at (w := w) (h := h) hm
      rw [jx_cell_l ht] at hq0
      by_cases hj : jx_in j (jx_ln c')
      · rw [cond_true, jx_ifp hj] at ha
        exact va_lald hx hb hK.1 hP q0 1 hq0 rfl (jx_inc_iff hj) hd (hk _ _ _ _ ha H locs ls hP hS hl o1 (jx_oc trivial (jx_o1 (jx_o1 o2))))
      · exfalso
        rw [cond_true, jx_ifn hj] at ha
        cases ha
  · cases ha
theorem sd_aaload (hd : decode cc pc = .ok (.aaload, 1)) : jx_Snd cc nL own ret D pc (jx_aald (pc + 1)) := by
  intro p l e R s m args below meth cd w r C k lo st h hk ha H locs ls hP hS hl o1 o2
  obtain ⟨⟨hx, hb, hml, hown, hts⟩, hr, hlocks, hw, hK, d, hR, hD⟩ := C
  unfold jx_aald at ha
  split at ha
  · rename_i j c' i st
    cases hcc : Nat.beq (jx_ty c') 3 with
    | false => rw [hcc] at ha; cases ha
    | true =>
      rw [hcc] at ha
      have ht := jx_beq hcc
      have hne : jx_ty c' ≠ 9 := by rw [ht]; decide
      have hm := jx_mem_of (jx_oh (jx_o1 o2)) (jx_ty60 hne)
      obtain ⟨q0, -, hq0⟩ := jx_ws_at (w := w) (h := h) hm
      rw [jx_cell_r ht] at hq0
      by_cases hj : jx_in j (jx_ln c')
      · rw [cond_true, jx_ifp hj] at ha
        have ok : jx_ok w (vr (jx_ek c') (jx_eo c' + j.toNatClampNeg)) := Or.inl (hw.2.2.2.1 _ hm (jx_ty_ob hne) ht _ (jx_in_lt hj))
        by_cases h10 : c' = 10
        · subst h10
          exact va_aldq (C := RX7) hx hb hK.1 hP q0 4 hq0 rfl (jx_inc_iff hj) hd (hk _ _ _ _ ha H locs ls hP hS hl o1 (jx_oc ok (jx_o1 (jx_o1 o2))))
        · have e3 : jx_rc c' = 3 := by
            unfold jx_rc
            split
            · exact absurd rfl h10
            · rfl
          rw [e3] at hq0
          exact va_aldq (C := RX3) hx hb hK.1 hP q0 3 hq0 rfl (jx_inc_iff hj) hd (hk _ _ _ _ ha H locs ls hP hS hl o1 (jx_oc ok (jx_o1 (jx_o1 o2))))
      · exfalso
        rw [cond_true, jx_ifn hj] at ha
        cases ha
  · cases ha
theorem sd_iastore (hd : decode cc pc = .ok (.iastore, 1)) : jx_Snd cc nL own ret D pc (jx_iast (pc + 1)) := by
  intro p l e R s m args below meth cd w r C k lo st h hk ha H locs ls hP hS hl o1 o2
  obtain ⟨⟨hx, hb, hml, hown, hts⟩, hr, hlocks, hw, hK, d, hR, hD⟩ := C
  unfold jx_iast at ha
  split at ha
  · rename_i v j c' i st
    cases hcc : Nat.beq (jx_ty c') 0 with
    | false => rw [hcc] at ha; cases ha
    | true =>
      rw [hcc] at ha
      have ht := jx_beq hcc
      have hne : jx_ty c' ≠ 9 := by rw [ht]; decide
      have hm := jx_mem_of (jx_oh (jx_o1 (jx_o1 o2))) (jx_ty60 hne)
      obtain ⟨q0, hp0, hq0⟩ := jx_ws_at (w := w) (h := h) hm
      rw [jx_cell_i ht] at hq0
      by_cases hj : jx_in j (jx_ln c')
      · rw [cond_true, jx_ifp hj] at ha
        refine va_iast hx hb hK.1 hP (jx_ws_D hw h) hS q0 0 hq0 rfl (jx_inc_iff hj) hd (fun H1 locs1 hP1 _ hS1 => ?_)
        rw [jx_ws_set hw (h' := jx_sI h c' i j.toNatClampNeg v) hp0 ((jx_cell_i ht).trans (congrArg (fun z => Sum.inl (jx_ca w 0, jx_ln c', Sum.inl z)) (by funext z; simp [jx_sI, upd]))) (fun a b hab => by
          refine ⟨?_, rfl⟩
          funext z
          simp only [jx_sI]
          rw [if_neg]
          rintro ⟨rfl, rfl, -⟩
          exact hab rfl)] at hP1
        exact hk _ _ _ _ ha H1 locs1 ls hP1 hS1 hl o1 (jx_o1 (jx_o1 (jx_o1 o2)))
      · exfalso
        rw [cond_true, jx_ifn hj] at ha
        cases ha
  · cases ha
theorem sd_bastore (hd : decode cc pc = .ok (.bastore, 1)) : jx_Snd cc nL own ret D pc (jx_bast (pc + 1)) := by
  intro p l e R s m args below meth cd w r C k lo st h hk ha H locs ls hP hS hl o1 o2
  obtain ⟨⟨hx, hb, hml, hown, hts⟩, hr, hlocks, hw, hK, d, hR, hD⟩ := C
  unfold jx_bast at ha
  split at ha
  · rename_i v j c' i st
    cases hcc : Nat.beq (jx_ty c') 2 with
    | false => rw [hcc] at ha; cases ha
    | true =>
      rw [hcc] at ha
      have ht := jx_beq hcc
      have hne : jx_ty c' ≠ 9 := by rw [ht]; decide
      have hm := jx_mem_of (jx_oh (jx_o1 (jx_o1 o2))) (jx_ty60 hne)
      obtain ⟨q0, hp0, hq0⟩ := jx_ws_at (w := w) (h := h) hm
      rw [jx_cell_z ht] at hq0
      by_cases hj : jx_in j (jx_ln c')
      · rw [cond_true, jx_ifp hj] at ha
        have hv : v = 0 ∨ v = 1 := by
          by_cases hv : v = 0 ∨ v = 1
          · exact hv
          · rw [jx_ifn hv] at ha
            cases ha
        rw [jx_ifp hv] at ha
        have hnar : vp_nar .boolean v = v := by rcases hv with rfl | rfl <;> rfl
        refine va_zast hx hb hK.1 hP (jx_ws_D hw h) hS q0 2 hq0 rfl (jx_inc_iff hj) hd (fun H1 locs1 hP1 _ hS1 => ?_)
        rw [jx_ws_set hw (h' := jx_sI h c' i j.toNatClampNeg v) hp0 ((jx_cell_z ht).trans (congrArg (fun z => Sum.inl (jx_ca w 2, jx_ln c', Sum.inl z)) (by funext z; simp [jx_sI, upd, hnar]))) (fun a b hab => by
          refine ⟨?_, rfl⟩
          funext z
          simp only [jx_sI]
          rw [if_neg]
          rintro ⟨rfl, rfl, -⟩
          exact hab rfl)] at hP1
        exact hk _ _ _ _ ha H1 locs1 ls hP1 hS1 hl o1 (jx_o1 (jx_o1 (jx_o1 o2)))
      · exfalso
        rw [cond_true, jx_ifn hj] at ha
        cases ha
  · cases ha
theorem sd_lastore (hd : decode cc pc = .ok (.lastore, 1)) : jx_Snd cc nL own ret D pc (jx_last (pc + 1)) := by
  intro p l e R s m args below meth cd w r C k lo st h hk ha H locs ls hP hS hl o1 o2
  obtain ⟨⟨hx, hb, hml, hown, hts⟩, hr, hlocks, hw, hK, d, hR, hD⟩ := C
  unfold jx_last at ha
  split at ha
  · rename_i v j c' i st
    cases hcc : Nat.beq (jx_ty c') 1 with
    | false => rw [hcc] at ha; cases ha
    | true =>
      rw [hcc] at ha
      have ht := jx_beq hcc
      have hne : jx_ty c' ≠ 9 := by rw [ht]; decide
      have hm := jx_mem_of (jx_oh (jx_o1 (jx_o1 o2))) (jx_ty60 hne)
      obtain ⟨q0, hp0, hq0⟩ := jx_ws_at (w := w) (h := h) hm
      rw [jx_cell_l ht] at hq0
      by_cases hj : jx_in j (jx_ln c')
      · rw [cond_true, jx_ifp hj] at ha
        refine va_last hx hb hK.1 hP (jx_ws_D hw h) hS q0 1 hq0 rfl (jx_inc_iff hj) hd (fun H1 locs1 hP1 _ hS1 => ?_)
        rw [jx_ws_set hw (h' := jx_sL h c' i j.toNatClampNeg v) hp0 ((jx_cell_l ht).trans (congrArg (fun z => Sum.inl (jx_ca w 1, jx_ln c', Sum.inr (Sum.inl z))) (by funext z; simp [jx_sL, vp_updL]))) (fun a b hab => by
          refine ⟨rfl, ?_⟩
          funext z
          simp only [jx_sL]
          rw [if_neg]
          rintro ⟨rfl, rfl, -⟩
          exact hab rfl)] at hP1
        exact hk _ _ _ _ ha H1 locs1 ls hP1 hS1 hl o1 (jx_o1 (jx_o1 (jx_o1 o2)))
      · exfalso
        rw [cond_true, jx_ifn hj] at ha
        cases ha
  · cases ha
theorem sd_acp {idx : Nat} (hd : decode cc pc = .ok (.invokestatic idx, 3)) (hlk : Cond.methodLink own idx arraycopyName ∈ jx_tg) (hnat : Cond.native arraycopyName ∈ jx_tg) (hst : Cond.static arraycopyName ∈ jx_tg) (hini : Cond.initialized "java/lang/System" ∈ jx_tg) : jx_Snd cc nL own ret D pc (jx_acp (pc + 3)) := by
  intro p l e R s m args below meth cd w r C k lo st h hk ha H locs ls hP hS hl o1 o2
  obtain ⟨⟨hx, hb, hml, hown, hts⟩, hr, hlocks, hw, hK, d, hR, hD⟩ := C
  unfold jx_acp at ha
  split at ha
  · rename_i n dp c2 i2 sp c1 i1 st
    cases hcc : Nat.beq (jx_ty c1) 0 && (Nat.beq (jx_ty c2) 0 && Nat.ble (jx_ct st) 8) with
    | false => rw [hcc] at ha; cases ha
    | true =>
      rw [hcc] at ha
      obtain ⟨ht1, hcc⟩ := Bool.and_eq_true_iff.mp hcc
      obtain ⟨ht2, hct⟩ := Bool.and_eq_true_iff.mp hcc
      have ht1 := jx_beq ht1
      have ht2 := jx_beq ht2
      have hm2 := jx_mem_of (jx_oh (jx_o1 (jx_o1 o2))) (jx_ty60 (c := c2) (by rw [ht2]; decide))
      have hm1 := jx_mem_of (jx_oh (jx_o1 (jx_o1 (jx_o1 (jx_o1 o2))))) (jx_ty60 (c := c1) (by rw [ht1]; decide))
      obtain ⟨q1, -, hq1⟩ := jx_ws_at (w := w) (h := h) hm1
      obtain ⟨q2, hp2, hq2⟩ := jx_ws_at (w := w) (h := h) hm2
      rw [jx_cell_i ht1] at hq1
      rw [jx_cell_i ht2] at hq2
      by_cases hj : 0 ≤ sp ∧ 0 ≤ dp ∧ 0 ≤ n ∧ sp.toNatClampNeg + n.toNatClampNeg ≤ jx_ln c1 ∧ dp.toNatClampNeg + n.toNatClampNeg ≤ jx_ln c2
      · rw [cond_true, jx_ifp hj] at ha
        refine va_copyi hx hb (by rw [hml]; exact hl.2.1.symm) hown (hts _ hlk) (hts _ hnat) (hts _ hst) (hts _ hini) hK.1 hP (jx_ws_D hw h) hS q1 q2 0 0 hq1 hq2 rfl rfl rfl (Int32.not_lt.mpr hj.1) (Int32.not_lt.mpr hj.2.1) (Int32.not_lt.mpr hj.2.2.1) hj.2.2.2.1 hj.2.2.2.2 (fun _ _ => rfl) (by rw [hR]; exact Nat.succ_le_succ (Nat.zero_le _)) ?_ hd (fun H1 locs1 hP1 _ hS1 => ?_)
        · have h8 := Nat.le_of_ble_eq_true hct
          rw [hR, jx_ct_sum]
          show _ + (nativeFrameWords "java/lang/System" "arraycopy" 5 + 11) ≤ 64 * (d + 1)
          have h9 : nativeFrameWords "java/lang/System" "arraycopy" 5 + 11 ≤ 56 := by decide +kernel
          omega
        · rw [jx_ws_set hw (h' := jx_cp h c1 i1 c2 i2 sp.toNatClampNeg dp.toNatClampNeg n.toNatClampNeg) hp2 ((jx_cell_i ht2).trans (congrArg (fun z => Sum.inl (jx_ca w 0, jx_ln c2, Sum.inl z)) (by funext z; simp [jx_cp, va_cpy]))) (fun a b hab => by
            refine ⟨?_, rfl⟩
            funext z
            simp only [jx_cp]
            rw [if_neg]
            rintro ⟨rfl, rfl, -⟩
            exact hab rfl)] at hP1
          exact hk _ _ _ _ ha H1 locs1 ls hP1 hS1 hl o1 (jx_o1 (jx_o1 (jx_o1 (jx_o1 (jx_o1 o2)))))
      · exfalso
        rw [cond_true, jx_ifn hj] at ha
        cases ha
  · cases ha
theorem sd_gst {idx : Nat} (hd : decode cc pc = .ok (.getstatic idx, 3)) (hlk : Cond.fieldLink own idx RX9 "KIND_ABOVE" "[I" ∈ jx_tg) : jx_Snd cc nL own ret D pc (jx_gst (pc + 3)) := by
  intro p l e R s m args below meth cd w r C k lo st h hk ha H locs ls hP hS hl o1 o2
  obtain ⟨⟨hx, hb, hml, hown, hts⟩, hr, hlocks, hw, hK, d, hR, hD⟩ := C
  exact va_gets hx hb hK.2.2.1 hS hown (hts _ hlk) (fun _ z => z) hd (hk _ _ _ _ ha H locs ls hP hS hl o1 (jx_oc (Or.inr rfl) o2))
theorem sd_sln (hd : decode cc pc = .ok (.arraylength, 1)) : jx_Snd cc nL own ret D pc (jx_sln (pc + 1)) := by
  intro p l e R s m args below meth cd w r C k lo st h hk ha H locs ls hP hS hl o1 o2
  obtain ⟨⟨hx, hb, hml, hown, hts⟩, hr, hlocks, hw, hK, d, hR, hD⟩ := C
  unfold jx_sln at ha
  split at ha
  · rename_i c' i st
    cases hcc : Nat.beq c' 60 && Nat.beq i 0 with
    | false => rw [hcc] at ha; cases ha
    | true =>
      rw [hcc] at ha
      obtain ⟨h1, h2⟩ := Bool.and_eq_true_iff.mp hcc
      have := jx_beq h1
      subst this
      have := jx_beq h2
      subst this
      exact va_tlen hx hb hK.2.2.2 hS rfl hd (hk _ _ _ _ ha H locs ls hP hS hl o1 (jx_oc trivial (jx_o1 o2)))
  · cases ha
theorem sd_sld (hd : decode cc pc = .ok (.iaload, 1)) : jx_Snd cc nL own ret D pc (jx_sld (pc + 1)) := by
  intro p l e R s m args below meth cd w r C k lo st h hk ha H locs ls hP hS hl o1 o2
  obtain ⟨⟨hx, hb, hml, hown, hts⟩, hr, hlocks, hw, hK, d, hR, hD⟩ := C
  unfold jx_sld at ha
  split at ha
  · rename_i j c' i st
    cases hcc : Nat.beq c' 60 && Nat.beq i 0 with
    | false => rw [hcc] at ha; cases ha
    | true =>
      rw [hcc] at ha
      obtain ⟨h1, h2⟩ := Bool.and_eq_true_iff.mp hcc
      have := jx_beq h1
      subst this
      have := jx_beq h2
      subst this
      by_cases hj : jx_in j 4
      · rw [cond_true, jx_ifp hj] at ha
        exact va_ti hx hb hK.2.2.2 hS (jx_inc_iff hj) rfl hd (hk _ _ _ _ ha H locs ls hP hS hl o1 (jx_oc trivial (jx_o1 (jx_o1 o2))))
      · exfalso
        rw [cond_true, jx_ifn hj] at ha
        cases ha
  · cases ha
theorem jx_sws_at {df : Nat} {x : Int32} {kk : Nat → Option jx_R} {r : jx_R} : ∀ (ts : List (Int32 × Nat)), jx_sws df x kk ts = some r → (∃ t ∈ ts, x = t.1 ∧ kk t.2 = some r) ∨ ((∀ t ∈ ts, x ≠ t.1) ∧ kk df = some r) := by
  intro ts
  induction ts with
  | nil => intro h; exact Or.inr ⟨fun _ h => absurd h List.not_mem_nil, h⟩
  | cons t r ih =>
    intro h
    unfold jx_sws at h
    by_cases hx : x = t.1
    · rw [jx_ifp hx] at h
      exact Or.inl ⟨t, List.mem_cons_self, hx, h⟩
    · rw [jx_ifn hx] at h
      rcases ih h with ⟨t', h1, h2⟩ | ⟨h1, h2⟩
      · exact Or.inl ⟨t', List.mem_cons_of_mem _ h1, h2⟩
      · refine Or.inr ⟨fun t' ht' => ?_, h2⟩
        rcases List.mem_cons.mp ht' with rfl | ht'
        · exact hx
        · exact h1 t' ht'
theorem sd_sw {dflt lo0 hi : Int} {offs : Array Int} {len : Nat} {ts : List (Int32 × Nat)} {df : Nat} (hd : decode cc pc = .ok (.tableswitch dflt lo0 hi offs, len)) (hdf : (pc : Int) + dflt = (df : Int)) (h1 : ∀ t ∈ ts, ¬ t.1.toInt < lo0 ∧ ¬ hi < t.1.toInt ∧ (offs[(t.1.toInt - lo0).toNat]?).map (fun o => (pc : Int) + o) = some (t.2 : Int)) (h2 : ∀ i : Int, lo0 ≤ i → i ≤ hi → ∃ t ∈ ts, t.1.toInt = i) : jx_Snd cc nL own ret D pc (jx_sw ts df) := by
  intro p l e R s m args below meth cd w r C k lo st h hk ha H locs ls hP hS hl o1 o2
  obtain ⟨⟨hx, hb, hml, hown, hts⟩, hr, hlocks, hw, hK, d, hR, hD⟩ := C
  unfold jx_sw at ha
  split at ha
  · rename_i x st
    rcases jx_sws_at ts ha with ⟨t, ht, rfl, hkt⟩ | ⟨hne, hkt⟩
    · obtain ⟨a1, a2, a3⟩ := h1 t ht
      cases ho : offs[(t.1.toInt - lo0).toNat]? with
      | none => rw [ho] at a3; cases a3
      | some off =>
        rw [ho] at a3
        exact lv_tableIn hx hb hd a1 a2 ho (Option.some.inj a3) (hk _ _ _ _ hkt H locs ls hP hS hl o1 (jx_o1 o2))
    · refine lv_tableOut hx hb hd ?_ hdf (hk _ _ _ _ hkt H locs ls hP hS hl o1 (jx_o1 o2))
      rcases Int.lt_or_le x.toInt lo0 with g | g
      · exact Or.inl g
      · rcases Int.lt_or_le hi x.toInt with g2 | g2
        · exact Or.inr g2
        · obtain ⟨t, ht, e⟩ := h2 x.toInt g g2
          exact absurd (Int32.toInt_inj.mp e).symm (hne t ht)
  · cases ha
end
