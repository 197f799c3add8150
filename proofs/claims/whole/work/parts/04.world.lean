/-! ===== the world: what cells the places are ===== -/
/-- fields of a kind of object: (0, _, _) an int, (1, tc, ti) always the place (tc, ti i), (2, tc, ti) null or that place, by a flag -/
abbrev jx_F : Type := Nat × Nat × (Nat → Nat)
def jx_f0 : jx_F := (0, 0, fun _ => 0)
def jx_f1 (tc ti : Nat) : jx_F := (1, tc, fun _ => ti)
def jx_f2 (tc ti : Nat) : jx_F := (2, tc, fun _ => ti)
def jx_fi (tc : Nat) : jx_F := (1, tc, fun i => i)
def jx_ob (c : Nat) : Option (Nat × List jx_F) := match c with
  | 0 => some (9, [jx_f1 1 0, jx_f1 6 0, jx_f1 8 0, jx_f1 9 0, jx_f1 10 0, jx_f1 13 0, jx_f0, jx_f0, jx_f1 14 0, jx_f1 19 0, jx_f1 21 0, jx_f1 22 0, jx_f1 25 0, jx_f1 26 0])
  | 1 => some (3, [jx_f0, jx_f0, jx_f0, jx_fi 2, jx_fi 3, jx_fi 4, jx_fi 5])
  | 6 => some (5, [jx_f1 7 0, jx_f0, jx_f0])
  | 11 => some (7, [jx_f0, jx_f0, jx_fi 12])
  | 14 => some (6, [jx_f0, jx_f0, jx_f0, jx_f0, jx_f0, jx_f0, jx_f0, jx_f1 15 0, jx_f1 16 0, jx_f1 17 0, jx_f1 18 0])
  | 19 => some (2, [jx_f1 20 0])
  | 21 => some (1, [jx_f2 14 0, jx_f2 1 0, jx_f0, jx_f0, jx_f0])
  | 22 => some (4, [jx_f2 14 0, jx_f0, jx_f1 23 0, jx_f1 24 0])
  | 25 => some (8, [jx_f2 1 0, jx_f0, jx_f0, jx_f0])
  | 26 => some (0, [jx_f2 14 0, jx_f2 1 0, jx_f1 27 0])
  | 30 => some (10, [jx_f0, jx_f0, jx_f0, jx_f1 33 0, jx_f1 34 0, jx_f1 35 0, jx_f1 36 0, jx_f0, jx_f1 38 0, jx_f1 39 0, jx_f1 40 0, jx_f1 41 0, jx_f1 42 0, jx_f1 43 0, jx_f0, jx_f1 45 0, jx_f0, jx_f1 47 0, jx_f1 48 0, jx_f1 49 0, jx_f1 50 0, jx_f1 51 0, jx_f1 52 0, jx_f1 53 0])
  | _ => none
/-- a world: its places, their addresses, the classes' numbers and slots, the array classes -/
abbrev jx_Wd : Type := List (Nat × Nat) × (Nat → Nat → Nat) × (Nat → ClassId) × (Nat → Nat → Nat) × (Nat → ClassId)
abbrev jx_pl (w : jx_Wd) : List (Nat × Nat) := w.1
abbrev jx_ad (w : jx_Wd) : Nat → Nat → Nat := w.2.1
abbrev jx_dd (w : jx_Wd) : va_G := (w.2.2.1, w.2.2.2.1)
abbrev jx_ca (w : jx_Wd) : Nat → ClassId := w.2.2.2.2
def jx_tys (w : jx_Wd) : List (ClassId × FieldType) := [(jx_ca w 0, .int), (jx_ca w 1, .long), (jx_ca w 2, .boolean), (jx_ca w 3, .object RX3), (jx_ca w 4, .object RX7)]
def jx_fv (ad : Nat → Nat → Nat) (h : jx_H) (c i f : Nat) (q : jx_F) : Value := match q.1 with
  | 0 => .int (h.1 c i f)
  | 1 => .ref (ad q.2.1 (q.2.2 i))
  | _ => if h.1 c i f = 1 then .ref (ad q.2.1 (q.2.2 i)) else .null
def jx_fvs (ad : Nat → Nat → Nat) (h : jx_H) (c i : Nat) : Nat → List jx_F → List Value
  | _, [] => []
  | f, q :: r => jx_fv ad h c i f q :: jx_fvs ad h c i (f + 1) r
/-- which array class an array of references has -/
def jx_rc (c : Nat) : Nat := match c with
  | 10 => 4
  | _ => 3
def jx_cell (w : jx_Wd) (h : jx_H) (c i : Nat) : va_E := match jx_ob c with
  | some o => .inr (o.1, jx_fvs (jx_ad w) h c i 0 o.2)
  | none => match jx_ty c with
    | 0 => .inl (jx_ca w 0, jx_ln c, .inl (h.1 c i))
    | 1 => .inl (jx_ca w 1, jx_ln c, .inr (.inl (h.2 c i)))
    | 2 => .inl (jx_ca w 2, jx_ln c, .inl (h.1 c i))
    | _ => .inl (jx_ca w (jx_rc c), jx_ln c, .inr (.inr (.inr (.inr (fun j => some (jx_ad w (jx_ek c) (jx_eo c + j)))))))
def jx_ws (w : jx_Wd) (h : jx_H) : va_W := (jx_pl w).map fun q => (jx_ad w q.1 q.2, jx_cell w h q.1 q.2)
def jx_ar (w : jx_Wd) : Nat → Prop := fun a => ∃ q ∈ jx_pl w, a = jx_ad w q.1 q.2
/-- what every world must be: addresses apart, each named place is there -/
def jx_wf (w : jx_Wd) : Prop := (jx_pl w).Nodup ∧ (∀ q ∈ jx_pl w, ∀ r ∈ jx_pl w, jx_ad w q.1 q.2 = jx_ad w r.1 r.2 → q = r) ∧
  (∀ q ∈ jx_pl w, ∀ o, jx_ob q.1 = some o → ∀ (f : Nat) (fd : jx_F), o.2[f]? = some fd → fd.1 ≠ 0 → (fd.2.1, fd.2.2 q.2) ∈ jx_pl w) ∧
  (∀ q ∈ jx_pl w, jx_ob q.1 = none → jx_ty q.1 = 3 → ∀ j, j < jx_ln q.1 → (jx_ek q.1, jx_eo q.1 + j) ∈ jx_pl w) ∧ ∀ q ∈ jx_pl w, q.1 ≠ 60
theorem jx_fvs_get (ad : Nat → Nat → Nat) (h : jx_H) (c i : Nat) : ∀ (fl : List jx_F) (f0 k : Nat), (jx_fvs ad h c i f0 fl)[k]? = (fl[k]?).map (jx_fv ad h c i (f0 + k)) := by
  intro fl
  induction fl with
  | nil => intro f0 k; simp [jx_fvs]
  | cons q r ih =>
    intro f0 k
    cases k with
    | zero => simp [jx_fvs]
    | succ k =>
      simp only [jx_fvs, List.getElem?_cons_succ]
      rw [ih (f0 + 1) k, show f0 + 1 + k = f0 + (k + 1) by omega]
theorem jx_fvs_len (ad : Nat → Nat → Nat) (h : jx_H) (c i : Nat) : ∀ (fl : List jx_F) (f0 : Nat), (jx_fvs ad h c i f0 fl).length = fl.length := by
  intro fl
  induction fl with
  | nil => intro f0; rfl
  | cons q r ih => intro f0; simp only [jx_fvs, List.length_cons]; rw [ih (f0 + 1)]
theorem jx_cell_congr {w : jx_Wd} {h h' : jx_H} {c i : Nat} (e1 : h'.1 c i = h.1 c i) (e2 : h'.2 c i = h.2 c i) : jx_cell w h' c i = jx_cell w h c i := by
  have e3 : ∀ (fl : List jx_F) (f0 : Nat), jx_fvs (jx_ad w) h' c i f0 fl = jx_fvs (jx_ad w) h c i f0 fl := by
    intro fl
    induction fl with
    | nil => intro f0; rfl
    | cons q r ih =>
      intro f0
      simp only [jx_fvs]
      rw [ih (f0 + 1)]
      congr 1
      unfold jx_fv
      rw [e1]
  unfold jx_cell
  cases jx_ob c with
  | some o => simp only [e3]
  | none => simp only [e1, e2]
theorem jx_ws_at {w : jx_Wd} {h : jx_H} {c i : Nat} (hm : (c, i) ∈ jx_pl w) : ∃ q0 : Nat, (jx_pl w)[q0]? = some (c, i) ∧ (jx_ws w h)[q0]? = some (jx_ad w c i, jx_cell w h c i) := by
  obtain ⟨q0, hq⟩ := List.getElem?_of_mem hm
  exact ⟨q0, hq, by simp [jx_ws, hq]⟩
theorem jx_ws_set {w : jx_Wd} (hw : jx_wf w) {h h' : jx_H} {c i q0 : Nat} (hq : (jx_pl w)[q0]? = some (c, i)) {E : va_E} (hE : jx_cell w h' c i = E) (ho : ∀ a b, (a, b) ≠ (c, i) → h'.1 a b = h.1 a b ∧ h'.2 a b = h.2 a b) : (jx_ws w h).set q0 (jx_ad w c i, E) = jx_ws w h' := by
  apply List.ext_getElem?
  intro k
  rw [List.getElem?_set]
  by_cases hk : q0 = k
  · subst hk
    have hl : q0 < (jx_ws w h).length := by
      have := (List.getElem?_eq_some_iff.mp hq).1
      simpa [jx_ws] using this
    rw [if_pos rfl, if_pos hl]
    simp [jx_ws, hq, hE]
  · rw [if_neg hk]
    cases hr : (jx_pl w)[k]? with
    | none => simp [jx_ws, hr]
    | some q =>
      obtain ⟨a, b⟩ := q
      have hne : (a, b) ≠ (c, i) := by
        intro e
        rw [e] at hr
        have h1 := (List.getElem?_eq_some_iff.mp hq)
        have h2 := (List.getElem?_eq_some_iff.mp hr)
        obtain ⟨l1, g1⟩ := h1
        obtain ⟨l2, g2⟩ := h2
        exact hk ((List.getElem_inj hw.1).mp (g1.trans g2.symm))
      obtain ⟨e1, e2⟩ := ho a b hne
      simp [jx_ws, hr, jx_cell_congr e1 e2]
theorem jx_ws_D {w : jx_Wd} (hw : jx_wf w) (h : jx_H) : va_D (jx_ar w) (jx_ws w h) := by
  refine ⟨fun i j p q hi hj e => ?_, fun k q hk => ?_⟩
  · simp only [jx_ws, List.getElem?_map] at hi hj
    cases h1 : (jx_pl w)[i]? with
    | none => rw [h1] at hi; cases hi
    | some a =>
      cases h2 : (jx_pl w)[j]? with
      | none => rw [h2] at hj; cases hj
      | some b =>
        rw [h1] at hi
        rw [h2] at hj
        cases hi
        cases hj
        have e := hw.2.1 a (List.mem_of_getElem? h1) b (List.mem_of_getElem? h2) e
        subst e
        obtain ⟨l1, g1⟩ := List.getElem?_eq_some_iff.mp h1
        obtain ⟨l2, g2⟩ := List.getElem?_eq_some_iff.mp h2
        exact (List.getElem_inj hw.1).mp (g1.trans g2.symm)
  · simp only [jx_ws, List.getElem?_map] at hk
    cases h1 : (jx_pl w)[k]? with
    | none => rw [h1] at hk; cases hk
    | some a =>
      rw [h1] at hk
      cases hk
      exact ⟨a, List.mem_of_getElem? h1, rfl⟩
/-- values as the machine has them -/
def jx_tr (ad : Nat → Nat → Nat) : jx_V → Value
  | .inl (.inl x) => .int x
  | .inl (.inr x) => .long x
  | .inr (some r) => .ref (ad r.1 r.2)
  | .inr none => .null
def jx_ok (w : jx_Wd) : jx_V → Prop
  | .inr (some r) => r ∈ jx_pl w ∨ r = (60, 0)
  | _ => True
def jx_lr (ad : Nat → Nat → Nat) (nL : Nat) (l : List jx_V) (ls : Array Slot) : Prop := l.length = nL ∧ ls.size = nL ∧ lv_wf ls ∧ ∀ j, jx_nth l j ≠ vn → ls[j]? = some (.val (jx_tr ad (jx_nth l j)))
def jx_lv (ad : Nat → Nat → Nat) (l : List jx_V) : List (Nat × Value) := (List.range l.length).filterMap fun j => match jx_nth l j with
  | .inr none => none
  | v => some (j, jx_tr ad v)
theorem jx_nth_out : ∀ {l : List jx_V} {j : Nat}, l.length ≤ j → jx_nth l j = vn := by
  intro l
  induction l with
  | nil => intro j _; cases j <;> rfl
  | cons a t ih =>
    intro j hj
    cases j with
    | zero => simp at hj
    | succ j => exact ih (by simpa using hj)
theorem jx_lv_mem {ad : Nat → Nat → Nat} {l : List jx_V} {j : Nat} (h : jx_nth l j ≠ vn) : (j, jx_tr ad (jx_nth l j)) ∈ jx_lv ad l := by
  have hj : j < l.length := by
    rcases Nat.lt_or_ge j l.length with h1 | h1
    · exact h1
    · exact absurd (jx_nth_out h1) h
  unfold jx_lv
  rw [List.mem_filterMap]
  refine ⟨j, List.mem_range.mpr hj, ?_⟩
  cases hv : jx_nth l j with
  | inl x => cases x <;> rfl
  | inr x =>
    cases x with
    | none => exact absurd hv h
    | some r => rfl
theorem jx_lv_of {ad : Nat → Nat → Nat} {l : List jx_V} {q : Nat × Value} (h : q ∈ jx_lv ad l) : jx_nth l q.1 ≠ vn ∧ q.2 = jx_tr ad (jx_nth l q.1) := by
  unfold jx_lv at h
  rw [List.mem_filterMap] at h
  obtain ⟨j, -, hj⟩ := h
  cases hv : jx_nth l j with
  | inl x =>
    rw [hv] at hj
    cases x <;> (cases hj; rw [hv]; exact ⟨by simp, rfl⟩)
  | inr x =>
    rw [hv] at hj
    cases x with
    | none => cases hj
    | some r => cases hj; rw [hv]; exact ⟨by simp, rfl⟩
theorem jx_lr_has {ad : Nat → Nat → Nat} {nL : Nat} {l : List jx_V} {ls : Array Slot} (h : jx_lr ad nL l ls) : lv_has ls nL (jx_lv ad l) := by
  obtain ⟨h1, h2, h3, h4⟩ := h
  refine ⟨h2, h3, fun q hq => ?_⟩
  obtain ⟨a, b⟩ := jx_lv_of hq
  rw [b]
  exact h4 _ a
theorem jx_set_len : ∀ (l : List jx_V) (i : Nat) (v : jx_V), (jx_set l i v).length = l.length := by
  intro l
  induction l with
  | nil => intro i v; rfl
  | cons a t ih =>
    intro i v
    cases i with
    | zero => rfl
    | succ i => simp only [jx_set, List.length_cons]; rw [ih]
theorem jx_set_nth : ∀ (l : List jx_V) (i j : Nat) (v : jx_V), jx_nth (jx_set l i v) j = if j = i ∧ i < l.length then v else jx_nth l j := by
  intro l
  induction l with
  | nil => intro i j v; simp [jx_set]
  | cons a t ih =>
    intro i j v
    cases i with
    | zero => cases j <;> simp [jx_set, jx_nth]
    | succ i =>
      cases j with
      | zero => simp [jx_set, jx_nth]
      | succ j => simp only [jx_set, jx_nth, ih, List.length_cons]; simp
theorem jx_set_ok {w : jx_Wd} : ∀ (l : List jx_V) (i : Nat) (v : jx_V), (∀ x ∈ l, jx_ok w x) → jx_ok w v → ∀ x ∈ jx_set l i v, jx_ok w x := by
  intro l
  induction l with
  | nil => intro i v _ _ x hx; cases hx
  | cons a t ih =>
    intro i v h1 h2 x hx
    cases i with
    | zero =>
      rcases List.mem_cons.mp hx with rfl | hx
      · exact h2
      · exact h1 x (List.mem_cons_of_mem _ hx)
    | succ i =>
      rcases List.mem_cons.mp hx with rfl | hx
      · exact h1 _ List.mem_cons_self
      · exact ih i v (fun y hy => h1 y (List.mem_cons_of_mem _ hy)) h2 x hx
theorem jx_nth_ok {w : jx_Wd} : ∀ (l : List jx_V) (i : Nat), (∀ x ∈ l, jx_ok w x) → jx_ok w (jx_nth l i) := by
  intro l
  induction l with
  | nil => intro i _; trivial
  | cons a t ih =>
    intro i h
    cases i with
    | zero => exact h a List.mem_cons_self
    | succ i => exact ih i (fun y hy => h y (List.mem_cons_of_mem _ hy))
theorem jx_cat {ad : Nat → Nat → Nat} {v : jx_V} (h : (jx_tr ad v).category = 2) : ∃ x, v = vl x := by
  rcases v with (x | x) | (_ | r)
  · simp [jx_tr, Value.category] at h
  · exact ⟨x, rfl⟩
  · simp [jx_tr, Value.category] at h
  · simp [jx_tr, Value.category] at h
/-- behind a store of one word -/
theorem jx_lr_st1 {ad : Nat → Nat → Nat} {nL i : Nat} {l : List jx_V} {ls ls' : Array Slot} {v : jx_V} (h : jx_lr ad nL l ls) (hp : jx_pv l i = true) (hi : i < nL)
    (h' : lv_has ls' nL ((i, jx_tr ad v) :: (jx_lv ad l).filter (fun q => !(q.1 == i) && !(q.1 + 1 == i && q.2.category == 2)))) : jx_lr ad nL (jx_set l i v) ls' := by
  obtain ⟨h1, h2, h3⟩ := h'
  refine ⟨by rw [jx_set_len]; exact h.1, h1, h2, fun j hj => ?_⟩
  rw [jx_set_nth] at hj ⊢
  by_cases hc : j = i ∧ i < l.length
  · rw [if_pos hc]
    have := h3 (i, jx_tr ad v) List.mem_cons_self
    rw [hc.1]
    exact this
  · rw [if_neg hc] at hj ⊢
    have hne : j ≠ i := fun e => hc ⟨e, by rw [h.1]; exact hi⟩
    refine h3 (j, jx_tr ad (jx_nth l j)) (List.mem_cons_of_mem _ (List.mem_filter.mpr ⟨jx_lv_mem hj, ?_⟩))
    by_cases h5 : j + 1 = i
    · subst h5
      have : (jx_tr ad (jx_nth l j)).category ≠ 2 := by
        intro e
        obtain ⟨x, hx⟩ := jx_cat e
        simp only [jx_pv, hx] at hp
        cases hp
      simp [this]
    · simp [hne, h5]
theorem jx_lr_st2 {ad : Nat → Nat → Nat} {nL i : Nat} {l : List jx_V} {ls ls' : Array Slot} {v : jx_V} (h : jx_lr ad nL l ls) (hp : jx_pv l i = true) (hi : i + 1 < nL)
    (h' : lv_has ls' nL ((i, jx_tr ad v) :: (jx_lv ad l).filter (fun q => !(q.1 == i) && (!(q.1 == i + 1) && !(q.1 + 1 == i && q.2.category == 2))))) : jx_lr ad nL (jx_set (jx_set l i v) (i + 1) vn) ls' := by
  obtain ⟨h1, h2, h3⟩ := h'
  refine ⟨by rw [jx_set_len, jx_set_len]; exact h.1, h1, h2, fun j hj => ?_⟩
  rw [jx_set_nth] at hj ⊢
  by_cases hc : j = i + 1 ∧ i + 1 < (jx_set l i v).length
  · rw [if_pos hc] at hj
    exact absurd rfl hj
  · rw [if_neg hc] at hj ⊢
    have hne1 : j ≠ i + 1 := fun e => hc ⟨e, by rw [jx_set_len, h.1]; exact hi⟩
    rw [jx_set_nth] at hj ⊢
    by_cases hc2 : j = i ∧ i < l.length
    · rw [if_pos hc2]
      have := h3 (i, jx_tr ad v) List.mem_cons_self
      rw [hc2.1]
      exact this
    · rw [if_neg hc2] at hj ⊢
      have hne : j ≠ i := fun e => hc2 ⟨e, by rw [h.1]; omega⟩
      refine h3 (j, jx_tr ad (jx_nth l j)) (List.mem_cons_of_mem _ (List.mem_filter.mpr ⟨jx_lv_mem hj, ?_⟩))
      by_cases h5 : j + 1 = i
      · subst h5
        have : (jx_tr ad (jx_nth l j)).category ≠ 2 := by
          intro e
          obtain ⟨x, hx⟩ := jx_cat e
          simp only [jx_pv, hx] at hp
          cases hp
        simp [this, hne1]
      · simp [hne, h5, hne1]
theorem jx_msk_nth : ∀ (b : List Bool) (l : List jx_V) (j : Nat), jx_nth (jx_msk b l) j = vn ∨ jx_nth (jx_msk b l) j = jx_nth l j := by
  intro b
  induction b with
  | nil => intro l j; exact Or.inr (by cases l <;> rfl)
  | cons x b ih =>
    intro l j
    cases l with
    | nil => cases x <;> exact Or.inr rfl
    | cons a t =>
      cases x with
      | true =>
        cases j with
        | zero => exact Or.inr rfl
        | succ j => exact ih t j
      | false =>
        cases j with
        | zero => exact Or.inl rfl
        | succ j => exact ih t j
theorem jx_msk_len : ∀ (b : List Bool) (l : List jx_V), (jx_msk b l).length = l.length := by
  intro b
  induction b with
  | nil => intro l; cases l <;> rfl
  | cons x b ih =>
    intro l
    cases l with
    | nil => cases x <;> rfl
    | cons a t => cases x <;> (simp only [jx_msk, List.length_cons]; rw [ih])
theorem jx_msk_ok {w : jx_Wd} : ∀ (b : List Bool) (l : List jx_V), (∀ x ∈ l, jx_ok w x) → ∀ x ∈ jx_msk b l, jx_ok w x := by
  intro b
  induction b with
  | nil => intro l h; cases l <;> exact h
  | cons y b ih =>
    intro l h
    cases l with
    | nil => cases y <;> exact h
    | cons a t =>
      have ht := ih t (fun x hx => h x (List.mem_cons_of_mem _ hx))
      cases y with
      | true =>
        intro x hx
        rcases List.mem_cons.mp hx with rfl | hx
        · exact h _ List.mem_cons_self
        · exact ht x hx
      | false =>
        intro x hx
        rcases List.mem_cons.mp hx with rfl | hx
        · trivial
        · exact ht x hx
/-- what a table's masks may do to locals -/
def jx_nmok (nm : Nat → List jx_V → List jx_V) : Prop := ∀ pc l, (nm pc l).length = l.length ∧ (∀ j, jx_nth (nm pc l) j = vn ∨ jx_nth (nm pc l) j = jx_nth l j) ∧ ∀ w, (∀ x ∈ l, jx_ok w x) → ∀ x ∈ nm pc l, jx_ok w x
theorem jx_nms_ok : ∀ (t : List (Nat × List Bool)), jx_nmok (jx_nms t) := by
  intro t
  induction t with
  | nil => intro pc l; exact ⟨rfl, fun j => Or.inr rfl, fun _ h => h⟩
  | cons q r ih =>
    intro pc l
    show (cond (Nat.beq q.1 pc) (jx_msk q.2 l) (jx_nms r pc l)).length = _ ∧ _
    simp only [jx_nms]
    cases Nat.beq q.1 pc with
    | true => exact ⟨jx_msk_len _ _, jx_msk_nth _ _, fun w => jx_msk_ok _ _⟩
    | false => exact ih pc l
theorem jx_lr_nm {ad : Nat → Nat → Nat} {nL : Nat} {nm : Nat → List jx_V → List jx_V} (hn : jx_nmok nm) {pc : Nat} {l : List jx_V} {ls : Array Slot} (h : jx_lr ad nL l ls) : jx_lr ad nL (nm pc l) ls := by
  obtain ⟨a, b, -⟩ := hn pc l
  refine ⟨a.trans h.1, h.2.1, h.2.2.1, fun j hj => ?_⟩
  rcases b j with e | e
  · exact absurd e hj
  · rw [e] at hj ⊢
    exact h.2.2.2 j hj
