/-! ===== the pure machine: values, heaps, acts, denotations ===== -/
abbrev jx_V : Type := (Int32 ⊕ Int64) ⊕ (Option (Nat × Nat))
abbrev jx_H : Type := (Nat → Nat → Nat → Int32) × (Nat → Nat → Nat → Int64)
abbrev jx_R : Type := List jx_V × jx_H
abbrev jx_K : Type := Nat → List jx_V → List jx_V → jx_H → Option jx_R
abbrev jx_A : Type := jx_K → List jx_V → List jx_V → jx_H → Option jx_R
abbrev jx_D : Type := Nat → List jx_V → jx_H → Option jx_R
abbrev vi (x : Int32) : jx_V := .inl (.inl x)
abbrev vl (x : Int64) : jx_V := .inl (.inr x)
abbrev vr (c i : Nat) : jx_V := .inr (some (c, i))
abbrev vn : jx_V := .inr none
noncomputable def jx_if (c : Prop) (a b : Option jx_R) : Option jx_R := @ite _ c (Classical.propDecidable c) a b
theorem jx_ifp {c : Prop} {a b : Option jx_R} (h : c) : jx_if c a b = a := if_pos h
theorem jx_ifn {c : Prop} {a b : Option jx_R} (h : ¬ c) : jx_if c a b = b := if_neg h
/-- writes -/
def jx_sI (h : jx_H) (c i p : Nat) (v : Int32) : jx_H := (fun a b q => if a = c ∧ b = i ∧ q = p then v else h.1 a b q, h.2)
def jx_sL (h : jx_H) (c i p : Nat) (v : Int64) : jx_H := (h.1, fun a b q => if a = c ∧ b = i ∧ q = p then v else h.2 a b q)
def jx_cp (h : jx_H) (c i d j sp dp n : Nat) : jx_H := (fun a b q => if a = d ∧ b = j ∧ dp ≤ q ∧ q < dp + n then h.1 c i (sp + (q - dp)) else h.1 a b q, h.2)
abbrev jx_in (j : Int32) (n : Nat) : Prop := 0 ≤ j.toInt ∧ j.toInt < n
/-- locals -/
def jx_nth : List jx_V → Nat → jx_V
  | [], _ => vn
  | a :: _, 0 => a
  | _ :: t, n + 1 => jx_nth t n
def jx_set : List jx_V → Nat → jx_V → List jx_V
  | [], _, _ => []
  | _ :: t, 0, v => v :: t
  | a :: t, n + 1, v => a :: jx_set t n v
def jx_pv (l : List jx_V) : Nat → Bool
  | 0 => true
  | j + 1 => match jx_nth l j with
    | .inl (.inr _) => false
    | _ => true
def jx_pad : Nat → List jx_V → List jx_V
  | 0, _ => []
  | n + 1, [] => vn :: jx_pad n []
  | n + 1, a :: t => a :: jx_pad n t
def jx_msk : List Bool → List jx_V → List jx_V
  | true :: m, a :: t => a :: jx_msk m t
  | false :: m, _ :: t => vn :: jx_msk m t
  | _, l => l
def jx_tk : Nat → List jx_V → List jx_V → Option (List jx_V × List jx_V)
  | 0, acc, s => some (acc, s)
  | n + 1, acc, v :: s => jx_tk n (v :: acc) s
  | _ + 1, _, [] => none
def jx_ct : List jx_V → Nat
  | [] => 0
  | .inl (.inr _) :: t => 2 + jx_ct t
  | _ :: t => 1 + jx_ct t
/-- calls -/
def jx_bI (o : Option jx_R) (f : Int32 → jx_H → Option jx_R) : Option jx_R := match o with
  | some ([.inl (.inl x)], h) => f x h
  | _ => none
def jx_bL (o : Option jx_R) (f : Int64 → jx_H → Option jx_R) : Option jx_R := match o with
  | some ([.inl (.inr x)], h) => f x h
  | _ => none
def jx_bV (o : Option jx_R) (f : jx_H → Option jx_R) : Option jx_R := match o with
  | some ([], h) => f h
  | _ => none
/-- acts -/
def jx_no : jx_A := fun _ _ _ _ => none
def jx_push (v : jx_V) (nx : Nat) : jx_A := fun k l s h => k nx l (v :: s) h
def jx_load (i nx : Nat) : jx_A := fun k l s h => match jx_nth l i with
  | .inl (.inl x) => k nx l (vi x :: s) h
  | .inl (.inr x) => k nx l (vl x :: s) h
  | .inr (some r) => k nx l (.inr (some r) :: s) h
  | .inr none => none
def jx_st1 (i nx : Nat) : jx_A := fun k l s h => match s with
  | .inl (.inl x) :: s => bif jx_pv l i then k nx (jx_set l i (vi x)) s h else none
  | .inr (some r) :: s => bif jx_pv l i then k nx (jx_set l i (.inr (some r))) s h else none
  | _ => none
def jx_st2 (i nx : Nat) : jx_A := fun k l s h => match s with
  | .inl (.inr x) :: s => bif jx_pv l i then k nx (jx_set (jx_set l i (vl x)) (i + 1) vn) s h else none
  | _ => none
def jx_inc (i : Nat) (c : Int32) (nx : Nat) : jx_A := fun k l s h => match jx_nth l i with
  | .inl (.inl x) => k nx (jx_set l i (vi (x + c))) s h
  | _ => none
def jx_i2 (f : Int32 → Int32 → Int32) (nx : Nat) : jx_A := fun k l s h => match s with
  | .inl (.inl y) :: .inl (.inl x) :: s => k nx l (vi (f x y) :: s) h
  | _ => none
noncomputable def jx_dv (f : Int32 → Int32 → Int32) (nx : Nat) : jx_A := fun k l s h => match s with
  | .inl (.inl y) :: .inl (.inl x) :: s => jx_if (y = 0) (none) (k nx l (vi (f x y) :: s) h)
  | _ => none
def jx_i1 (f : Int32 → Int32) (nx : Nat) : jx_A := fun k l s h => match s with
  | .inl (.inl x) :: s => k nx l (vi (f x) :: s) h
  | _ => none
def jx_i2l (nx : Nat) : jx_A := fun k l s h => match s with
  | .inl (.inl x) :: s => k nx l (vl x.toInt64 :: s) h
  | _ => none
def jx_l2 (f : Int64 → Int64 → Int64) (nx : Nat) : jx_A := fun k l s h => match s with
  | .inl (.inr y) :: .inl (.inr x) :: s => k nx l (vl (f x y) :: s) h
  | _ => none
def jx_lsh (nx : Nat) : jx_A := fun k l s h => match s with
  | .inl (.inl y) :: .inl (.inr x) :: s => k nx l (vl (x <<< (y.toInt64 &&& 63)) :: s) h
  | _ => none
def jx_lcm (nx : Nat) : jx_A := fun k l s h => match s with
  | .inl (.inr y) :: .inl (.inr x) :: s => k nx l (vi (lg_cmp x y) :: s) h
  | _ => none
def jx_dup (nx : Nat) : jx_A := fun k l s h => match s with
  | .inl (.inl x) :: s => k nx l (vi x :: vi x :: s) h
  | .inr (some r) :: s => k nx l (.inr (some r) :: .inr (some r) :: s) h
  | _ => none
def jx_dup2 (nx : Nat) : jx_A := fun k l s h => match s with
  | .inl (.inl x) :: .inr (some r) :: s => k nx l (vi x :: .inr (some r) :: vi x :: .inr (some r) :: s) h
  | _ => none
def jx_pop (nx : Nat) : jx_A := fun k l s h => match s with
  | .inl (.inl _) :: s => k nx l s h
  | _ => none
noncomputable def jx_eq0 (t nx : Nat) : jx_A := fun k l s h => match s with
  | .inl (.inl x) :: s => jx_if (x = 0) (k t l s h) (k nx l s h)
  | _ => none
noncomputable def jx_ne0 (t nx : Nat) : jx_A := fun k l s h => match s with
  | .inl (.inl x) :: s => jx_if (x = 0) (k nx l s h) (k t l s h)
  | _ => none
noncomputable def jx_lt0 (t nx : Nat) : jx_A := fun k l s h => match s with
  | .inl (.inl x) :: s => jx_if (x < 0) (k t l s h) (k nx l s h)
  | _ => none
noncomputable def jx_ge0 (t nx : Nat) : jx_A := fun k l s h => match s with
  | .inl (.inl x) :: s => jx_if (x < 0) (k nx l s h) (k t l s h)
  | _ => none
noncomputable def jx_gt0 (t nx : Nat) : jx_A := fun k l s h => match s with
  | .inl (.inl x) :: s => jx_if (0 < x) (k t l s h) (k nx l s h)
  | _ => none
noncomputable def jx_le0 (t nx : Nat) : jx_A := fun k l s h => match s with
  | .inl (.inl x) :: s => jx_if (0 < x) (k nx l s h) (k t l s h)
  | _ => none
noncomputable def jx_ceq (t nx : Nat) : jx_A := fun k l s h => match s with
  | .inl (.inl y) :: .inl (.inl x) :: s => jx_if (x = y) (k t l s h) (k nx l s h)
  | _ => none
noncomputable def jx_cne (t nx : Nat) : jx_A := fun k l s h => match s with
  | .inl (.inl y) :: .inl (.inl x) :: s => jx_if (x = y) (k nx l s h) (k t l s h)
  | _ => none
noncomputable def jx_clt (t nx : Nat) : jx_A := fun k l s h => match s with
  | .inl (.inl y) :: .inl (.inl x) :: s => jx_if (x < y) (k t l s h) (k nx l s h)
  | _ => none
noncomputable def jx_cge (t nx : Nat) : jx_A := fun k l s h => match s with
  | .inl (.inl y) :: .inl (.inl x) :: s => jx_if (x < y) (k nx l s h) (k t l s h)
  | _ => none
noncomputable def jx_cgt (t nx : Nat) : jx_A := fun k l s h => match s with
  | .inl (.inl y) :: .inl (.inl x) :: s => jx_if (x ≤ y) (k nx l s h) (k t l s h)
  | _ => none
noncomputable def jx_cle (t nx : Nat) : jx_A := fun k l s h => match s with
  | .inl (.inl y) :: .inl (.inl x) :: s => jx_if (x ≤ y) (k t l s h) (k nx l s h)
  | _ => none
def jx_go (t : Nat) : jx_A := fun k l s h => k t l s h
noncomputable def jx_sws (df : Nat) (x : Int32) (k : Nat → Option jx_R) : List (Int32 × Nat) → Option jx_R
  | [] => k df
  | t :: r => jx_if (x = t.1) (k t.2) (jx_sws df x k r)
noncomputable def jx_sw (ts : List (Int32 × Nat)) (df : Nat) : jx_A := fun k l s h => match s with
  | .inl (.inl x) :: s => jx_sws df x (fun t => k t l s h) ts
  | _ => none
/-- fields: of kind c, field f -/
def jx_gI (c f nx : Nat) : jx_A := fun k l s h => match s with
  | .inr (some (c', i)) :: s => bif Nat.beq c' c then k nx l (vi (h.1 c i f) :: s) h else none
  | _ => none
def jx_gR (c tc : Nat) (ti : Nat → Nat) (nx : Nat) : jx_A := fun k l s h => match s with
  | .inr (some (c', i)) :: s => bif Nat.beq c' c then k nx l (vr tc (ti i) :: s) h else none
  | _ => none
noncomputable def jx_gM (c f tc ti nx : Nat) : jx_A := fun k l s h => match s with
  | .inr (some (c', i)) :: s => bif Nat.beq c' c then (jx_if (h.1 c i f = 1) (k nx l (vr tc ti :: s) h) (none)) else none
  | _ => none
def jx_pI (c f nx : Nat) : jx_A := fun k l s h => match s with
  | .inl (.inl v) :: .inr (some (c', i)) :: s => bif Nat.beq c' c then k nx l s (jx_sI h c i f v) else none
  | _ => none
noncomputable def jx_pZ (c f nx : Nat) : jx_A := fun k l s h => match s with
  | .inl (.inl v) :: .inr (some (c', i)) :: s => bif Nat.beq c' c then (jx_if (v = 0 ∨ v = 1) (k nx l s (jx_sI h c i f v)) (none)) else none
  | _ => none
def jx_pM (c f tc ti nx : Nat) : jx_A := fun k l s h => match s with
  | .inr (some (c1, i1)) :: .inr (some (c', i)) :: s => bif Nat.beq c' c && (Nat.beq c1 tc && Nat.beq i1 ti) then k nx l s (jx_sI h c i f 1) else none
  | _ => none
/-- kinds of arrays: 0 int, 1 long, 2 boolean, 3 references, 9 none -/
def jx_lens : List (Nat × Nat × Nat) := [(2, 0, 20), (3, 0, 20), (4, 0, 20), (5, 0, 20), (7, 3, 30), (8, 3, 4), (9, 0, 4), (10, 3, 4), (12, 0, 24), (13, 0, 60), (15, 0, 256), (16, 0, 256), (17, 0, 256), (18, 0, 256), (20, 0, 256), (23, 0, 8), (24, 1, 256), (27, 1, 256), (33, 0, 50), (34, 0, 50), (35, 0, 20), (36, 0, 20), (38, 0, 2520), (39, 0, 336), (40, 0, 4), (41, 0, 4), (42, 0, 4), (43, 0, 96), (45, 0, 60), (47, 0, 24), (48, 0, 256), (49, 0, 8), (50, 0, 12), (51, 2, 8), (52, 0, 8), (53, 1, 256)]
def jx_lk : List (Nat × Nat × Nat) → Nat → Nat × Nat
  | [], _ => (9, 0)
  | q :: r, c => bif Nat.beq q.1 c then q.2 else jx_lk r c
def jx_ty (c : Nat) : Nat := (jx_lk jx_lens c).1
def jx_ln (c : Nat) : Nat := (jx_lk jx_lens c).2
def jx_els : List (Nat × Nat × Nat) := [(7, 1, 1), (8, 1, 31), (10, 11, 0)]
def jx_ek (c : Nat) : Nat := (jx_lk jx_els c).1
def jx_eo (c : Nat) : Nat := (jx_lk jx_els c).2
noncomputable def jx_iald (nx : Nat) : jx_A := fun k l s h => match s with
  | .inl (.inl j) :: .inr (some (c, i)) :: s => bif Nat.beq (jx_ty c) 0 then (jx_if (jx_in j (jx_ln c)) (k nx l (vi (h.1 c i j.toNatClampNeg) :: s) h) (none)) else none
  | _ => none
noncomputable def jx_bald (nx : Nat) : jx_A := fun k l s h => match s with
  | .inl (.inl j) :: .inr (some (c, i)) :: s => bif Nat.beq (jx_ty c) 2 then (jx_if (jx_in j (jx_ln c)) (k nx l (vi (h.1 c i j.toNatClampNeg) :: s) h) (none)) else none
  | _ => none
noncomputable def jx_lald (nx : Nat) : jx_A := fun k l s h => match s with
  | .inl (.inl j) :: .inr (some (c, i)) :: s => bif Nat.beq (jx_ty c) 1 then (jx_if (jx_in j (jx_ln c)) (k nx l (vl (h.2 c i j.toNatClampNeg) :: s) h) (none)) else none
  | _ => none
noncomputable def jx_aald (nx : Nat) : jx_A := fun k l s h => match s with
  | .inl (.inl j) :: .inr (some (c, _)) :: s => bif Nat.beq (jx_ty c) 3 then (jx_if (jx_in j (jx_ln c)) (k nx l (vr (jx_ek c) (jx_eo c + j.toNatClampNeg) :: s) h) (none)) else none
  | _ => none
noncomputable def jx_iast (nx : Nat) : jx_A := fun k l s h => match s with
  | .inl (.inl v) :: .inl (.inl j) :: .inr (some (c, i)) :: s => bif Nat.beq (jx_ty c) 0 then (jx_if (jx_in j (jx_ln c)) (k nx l s (jx_sI h c i j.toNatClampNeg v)) (none)) else none
  | _ => none
noncomputable def jx_bast (nx : Nat) : jx_A := fun k l s h => match s with
  | .inl (.inl v) :: .inl (.inl j) :: .inr (some (c, i)) :: s => bif Nat.beq (jx_ty c) 2 then (jx_if (jx_in j (jx_ln c)) ((jx_if (v = 0 ∨ v = 1) (k nx l s (jx_sI h c i j.toNatClampNeg v)) (none))) (none)) else none
  | _ => none
noncomputable def jx_last (nx : Nat) : jx_A := fun k l s h => match s with
  | .inl (.inr v) :: .inl (.inl j) :: .inr (some (c, i)) :: s => bif Nat.beq (jx_ty c) 1 then (jx_if (jx_in j (jx_ln c)) (k nx l s (jx_sL h c i j.toNatClampNeg v)) (none)) else none
  | _ => none
noncomputable def jx_acp (nx : Nat) : jx_A := fun k l s h => match s with
  | .inl (.inl n) :: .inl (.inl dp) :: .inr (some (d, j)) :: .inl (.inl sp) :: .inr (some (c, i)) :: s =>
    bif Nat.beq (jx_ty c) 0 && (Nat.beq (jx_ty d) 0 && Nat.ble (jx_ct s) 8) then
      jx_if (0 ≤ sp ∧ 0 ≤ dp ∧ 0 ≤ n ∧ sp.toNatClampNeg + n.toNatClampNeg ≤ jx_ln c ∧ dp.toNatClampNeg + n.toNatClampNeg ≤ jx_ln d) (k nx l s (jx_cp h c i d j sp.toNatClampNeg dp.toNatClampNeg n.toNatClampNeg)) none else none
  | _ => none
/-- the one static array -/
def jx_ka (j : Nat) : Int32 := match j with
  | 0 => -1
  | 1 => 0
  | 2 => 1
  | _ => 0
def jx_gst (nx : Nat) : jx_A := fun k l s h => k nx l (vr 60 0 :: s) h
def jx_sln (nx : Nat) : jx_A := fun k l s h => match s with
  | .inr (some (c, i)) :: s => bif Nat.beq c 60 && Nat.beq i 0 then k nx l (vi 4 :: s) h else none
  | _ => none
noncomputable def jx_sld (nx : Nat) : jx_A := fun k l s h => match s with
  | .inl (.inl j) :: .inr (some (c, i)) :: s => bif Nat.beq c 60 && Nat.beq i 0 then (jx_if (jx_in j 4) (k nx l (vi (jx_ka j.toNatClampNeg) :: s) h) (none)) else none
  | _ => none
def jx_cI (D : jx_D) (y n nx : Nat) : jx_A := fun k l s h => match jx_tk n [] s with
  | some (a, s) => bif Nat.ble (jx_ct s) 8 then jx_bI (D y a h) (fun x h => k nx l (vi x :: s) h) else none
  | none => none
def jx_cL (D : jx_D) (y n nx : Nat) : jx_A := fun k l s h => match jx_tk n [] s with
  | some (a, s) => bif Nat.ble (jx_ct s) 8 then jx_bL (D y a h) (fun x h => k nx l (vl x :: s) h) else none
  | none => none
def jx_cV (D : jx_D) (y n nx : Nat) : jx_A := fun k l s h => match jx_tk n [] s with
  | some (a, s) => bif Nat.ble (jx_ct s) 8 then jx_bV (D y a h) (fun h => k nx l s h) else none
  | none => none
def jx_rI : jx_A := fun _ _ s h => match s with
  | [.inl (.inl x)] => some ([vi x], h)
  | _ => none
noncomputable def jx_rZ : jx_A := fun _ _ s h => match s with
  | [.inl (.inl x)] => jx_if (x = 0 ∨ x = 1) (some ([vi x], h)) (none)
  | _ => none
def jx_rL : jx_A := fun _ _ s h => match s with
  | [.inl (.inr x)] => some ([vl x], h)
  | _ => none
def jx_rV : jx_A := fun _ _ s h => match s with
  | [] => some ([], h)
  | _ => none
/-- running a table -/
def jx_run (ct : Nat → jx_A) (nm : Nat → List jx_V → List jx_V) : Nat → jx_K
  | 0 => fun _ _ _ _ => none
  | n + 1 => fun pc l s h => ct pc (fun pc' l' s' h' => jx_run ct nm n pc' (nm pc' l') s' h') l s h
noncomputable def jx_den (ct : Nat → jx_A) (nm : Nat → List jx_V → List jx_V) : jx_K := fun pc l s h =>
  @dite _ (∃ n r, jx_run ct nm n pc l s h = some r) (Classical.propDecidable _) (fun hx => some hx.choose_spec.choose) (fun _ => none)
def jx_it (ct : Nat → jx_A) (nm : Nat → List jx_V → List jx_V) (stop : Nat → Bool) (K : jx_K) : Nat → jx_K
  | 0 => K
  | n + 1 => fun pc l s h => ct pc (fun pc' l' s' h' => bif stop pc' then K pc' (nm pc' l') s' h' else jx_it ct nm stop K n pc' (nm pc' l') s' h') l s h
def jx_tl (a : jx_A) : Prop := ∀ l s h, (∀ k, a k l s h = none) ∨ (∃ r, ∀ k, a k l s h = some r) ∨ ∃ pc l' s' h', ∀ k, a k l s h = k pc l' s' h'
def jx_look : List (Nat × jx_A) → Nat → jx_A
  | [], _ => jx_no
  | q :: r, pc => bif Nat.beq q.1 pc then q.2 else jx_look r pc
def jx_mem : List Nat → Nat → Bool
  | [], _ => false
  | q :: r, pc => bif Nat.beq q pc then true else jx_mem r pc
def jx_nms : List (Nat × List Bool) → Nat → List jx_V → List jx_V
  | [], _, l => l
  | q :: r, pc, l => bif Nat.beq q.1 pc then jx_msk q.2 l else jx_nms r pc l
theorem jx_run_mono {ct : Nat → jx_A} {nm : Nat → List jx_V → List jx_V} (ht : ∀ pc, jx_tl (ct pc)) : ∀ (n : Nat) (pc : Nat) (l s : List jx_V) (h : jx_H) (r : jx_R), jx_run ct nm n pc l s h = some r → jx_run ct nm (n + 1) pc l s h = some r := by
  intro n
  induction n with
  | zero => intro pc l s h r hr; cases hr
  | succ n ih =>
    intro pc l s h r hr
    rcases ht pc l s h with h0 | ⟨r', h1⟩ | ⟨pc', l', s', h', h2⟩
    · have hr' : ct pc _ l s h = some r := hr
      rw [h0] at hr'
      cases hr'
    · have hr' : ct pc _ l s h = some r := hr
      rw [h1] at hr'
      show ct pc _ l s h = some r
      rw [h1]
      exact hr'
    · have hr' : ct pc _ l s h = some r := hr
      rw [h2] at hr'
      show ct pc _ l s h = some r
      rw [h2]
      exact ih _ _ _ _ _ hr'
theorem jx_run_le {ct : Nat → jx_A} {nm : Nat → List jx_V → List jx_V} (ht : ∀ pc, jx_tl (ct pc)) {n m : Nat} (hm : n ≤ m) {pc : Nat} {l s : List jx_V} {h : jx_H} {r : jx_R} (hr : jx_run ct nm n pc l s h = some r) : jx_run ct nm m pc l s h = some r := by
  induction hm with
  | refl => exact hr
  | step _ ih => exact jx_run_mono ht _ _ _ _ _ _ ih
theorem jx_den_of {ct : Nat → jx_A} {nm : Nat → List jx_V → List jx_V} (ht : ∀ pc, jx_tl (ct pc)) {n : Nat} {pc : Nat} {l s : List jx_V} {h : jx_H} {r : jx_R} (hr : jx_run ct nm n pc l s h = some r) : jx_den ct nm pc l s h = some r := by
  have hx : ∃ n r, jx_run ct nm n pc l s h = some r := ⟨n, r, hr⟩
  unfold jx_den
  rw [dif_pos hx]
  have h2 := hx.choose_spec.choose_spec
  have a1 := jx_run_le ht (Nat.le_max_left n hx.choose) hr
  have a2 := jx_run_le ht (Nat.le_max_right n hx.choose) h2
  rw [a1] at a2
  exact a2.symm
theorem jx_den_run {ct : Nat → jx_A} {nm : Nat → List jx_V → List jx_V} {pc : Nat} {l s : List jx_V} {h : jx_H} {r : jx_R} (hr : jx_den ct nm pc l s h = some r) : ∃ n, jx_run ct nm n pc l s h = some r := by
  unfold jx_den at hr
  by_cases hx : ∃ n r, jx_run ct nm n pc l s h = some r
  · rw [dif_pos hx] at hr
    exact ⟨hx.choose, by rw [hx.choose_spec.choose_spec]; exact hr⟩
  · rw [dif_neg hx] at hr
    cases hr
theorem jx_den_none {ct : Nat → jx_A} {nm : Nat → List jx_V → List jx_V} {pc : Nat} {l s : List jx_V} {h : jx_H} (hr : ∀ n, jx_run ct nm n pc l s h = none) : jx_den ct nm pc l s h = none := by
  unfold jx_den
  rw [dif_neg]
  rintro ⟨n, r, h1⟩
  rw [hr n] at h1
  cases h1
theorem jx_den_eq {ct : Nat → jx_A} {nm : Nat → List jx_V → List jx_V} (ht : ∀ pc, jx_tl (ct pc)) (pc : Nat) (l s : List jx_V) (h : jx_H) : jx_den ct nm pc l s h = ct pc (fun pc' l' s' h' => jx_den ct nm pc' (nm pc' l') s' h') l s h := by
  rcases ht pc l s h with h0 | ⟨r', h1⟩ | ⟨pc', l', s', h', h2⟩
  · rw [h0]
    refine jx_den_none fun n => ?_
    cases n with
    | zero => rfl
    | succ n => exact h0 _
  · rw [h1]
    exact jx_den_of ht (n := 1) (h1 _)
  · rw [h2]
    cases hd : jx_den ct nm pc' (nm pc' l') s' h' with
    | none =>
      refine jx_den_none fun n => ?_
      cases n with
      | zero => rfl
      | succ n =>
        show ct pc _ l s h = none
        rw [h2]
        cases hn : jx_run ct nm n pc' (nm pc' l') s' h' with
        | none => rfl
        | some r =>
          rw [jx_den_of ht hn] at hd
          cases hd
    | some r =>
      obtain ⟨n, hn⟩ := jx_den_run hd
      refine jx_den_of ht (n := n + 1) ?_
      show ct pc _ l s h = some r
      rw [h2]
      exact hn
theorem jx_it_eq {ct : Nat → jx_A} {nm : Nat → List jx_V → List jx_V} (ht : ∀ pc, jx_tl (ct pc)) (stop : Nat → Bool) : ∀ (n pc : Nat) (l s : List jx_V) (h : jx_H), jx_den ct nm pc l s h = jx_it ct nm stop (jx_den ct nm) n pc l s h := by
  intro n
  induction n with
  | zero => intro pc l s h; rfl
  | succ n ih =>
    intro pc l s h
    rw [jx_den_eq ht]
    show ct pc _ l s h = ct pc _ l s h
    congr 1
    funext pc' l' s' h'
    cases stop pc' with
    | true => rfl
    | false => exact ih _ _ _ _
theorem jx_look_tl {t : List (Nat × jx_A)} (h : ∀ q ∈ t, jx_tl q.2) : ∀ pc, jx_tl (jx_look t pc) := by
  induction t with
  | nil => intro pc l s h; exact Or.inl fun _ => rfl
  | cons q r ih =>
    intro pc
    show jx_tl (bif Nat.beq q.1 pc then q.2 else jx_look r pc)
    cases Nat.beq q.1 pc with
    | true => exact h q List.mem_cons_self
    | false => exact ih (fun q hq => h q (List.mem_cons_of_mem _ hq)) pc
