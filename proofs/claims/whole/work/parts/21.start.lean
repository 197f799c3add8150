/-! ===== the two worlds behind the constructors ===== -/
def jl_px : List (Nat × Nat) := [(0, 0), (1, 0), (2, 0), (3, 0), (4, 0), (5, 0), (1, 1), (2, 1), (3, 1), (4, 1), (5, 1), (1, 2), (2, 2), (3, 2), (4, 2), (5, 2), (1, 3), (2, 3), (3, 3), (4, 3), (5, 3), (1, 4), (2, 4), (3, 4), (4, 4), (5, 4), (1, 5), (2, 5), (3, 5), (4, 5), (5, 5), (1, 6), (2, 6), (3, 6), (4, 6), (5, 6), (1, 7), (2, 7), (3, 7), (4, 7), (5, 7), (1, 8), (2, 8), (3, 8), (4, 8), (5, 8), (1, 9), (2, 9), (3, 9), (4, 9), (5, 9), (1, 10), (2, 10), (3, 10), (4, 10), (5, 10), (1, 11), (2, 11), (3, 11), (4, 11), (5, 11), (1, 12), (2, 12), (3, 12), (4, 12), (5, 12), (1, 13), (2, 13), (3, 13), (4, 13), (5, 13), (1, 14), (2, 14), (3, 14), (4, 14), (5, 14), (1, 15), (2, 15), (3, 15), (4, 15), (5, 15), (1, 16), (2, 16), (3, 16), (4, 16), (5, 16), (1, 17), (2, 17), (3, 17), (4, 17), (5, 17), (1, 18), (2, 18), (3, 18), (4, 18), (5, 18), (1, 19), (2, 19), (3, 19), (4, 19), (5, 19), (1, 20), (2, 20), (3, 20), (4, 20), (5, 20), (1, 21), (2, 21), (3, 21), (4, 21), (5, 21), (1, 22), (2, 22), (3, 22), (4, 22), (5, 22), (1, 23), (2, 23), (3, 23), (4, 23), (5, 23), (1, 24), (2, 24), (3, 24), (4, 24), (5, 24), (1, 25), (2, 25), (3, 25), (4, 25), (5, 25), (1, 26), (2, 26), (3, 26), (4, 26), (5, 26), (1, 27), (2, 27), (3, 27), (4, 27), (5, 27), (1, 28), (2, 28), (3, 28), (4, 28), (5, 28), (1, 29), (2, 29), (3, 29), (4, 29), (5, 29), (1, 30), (2, 30), (3, 30), (4, 30), (5, 30), (1, 31), (2, 31), (3, 31), (4, 31), (5, 31), (1, 32), (2, 32), (3, 32), (4, 32), (5, 32), (1, 33), (2, 33), (3, 33), (4, 33), (5, 33), (1, 34), (2, 34), (3, 34), (4, 34), (5, 34), (6, 0), (7, 0), (8, 0), (9, 0), (10, 0), (11, 0), (12, 0), (11, 1), (12, 1), (11, 2), (12, 2), (11, 3), (12, 3), (13, 0), (14, 0), (15, 0), (16, 0), (17, 0), (18, 0), (19, 0), (20, 0), (21, 0), (22, 0), (23, 0), (24, 0), (25, 0), (26, 0), (27, 0)]
def jl_pm : List (Nat × Nat) := [(30, 0), (33, 0), (34, 0), (35, 0), (36, 0), (38, 0), (39, 0), (40, 0), (41, 0), (42, 0), (43, 0), (45, 0), (47, 0), (48, 0), (49, 0), (50, 0), (51, 0), (52, 0), (53, 0)]
def jl_o1 (i : Nat) : Nat := bif Nat.beq i 0 then 1 else bif Nat.ble i 30 then 8 + 5 * (i - 1) else 160 + 5 * (i - 31)
def jl_ot : List Nat := [0, 1, 2, 3, 4, 5, 6, 7, 158, 159, 180, 181, 182, 189, 190, 191, 192, 193, 194, 195, 196, 197, 198, 199, 200, 201, 202, 203, 0, 0, 204, 0, 0, 205, 206, 207, 208, 0, 209, 210, 211, 212, 213, 214, 0, 215, 0, 216, 217, 218, 219, 220, 221, 222]
def jl_nn : List Nat → Nat → Nat
  | [], _ => 0
  | a :: _, 0 => a
  | _ :: t, n + 1 => jl_nn t n
def jl_off (c i : Nat) : Nat := bif Nat.ble 1 c && Nat.ble c 5 then jl_o1 i + (c - 1) else bif Nat.beq c 11 then 181 + 2 * i else bif Nat.beq c 12 then 182 + 2 * i else jl_nn jl_ot c
def jl_ad (b0 t : Nat) : Nat → Nat → Nat := fun c i => bif Nat.beq c 60 then t else b0 + jl_off c i
def jl_h0 : jx_H := (fun c _ p => bif Nat.beq c 9 || Nat.beq c 40 then jc_m1 4 p else 0, fun _ _ _ => 0)
theorem jl_inj {pl : List (Nat × Nat)} (h : pl.all (fun q => pl.all (fun r => bif Nat.beq (jl_off q.1 q.2) (jl_off r.1 r.2) then q == r else true)) = true) : ∀ q ∈ pl, ∀ r ∈ pl, jl_off q.1 q.2 = jl_off r.1 r.2 → q = r := by
  intro q hq r hr e
  have h1 := List.all_eq_true.mp (List.all_eq_true.mp h q hq) r hr
  rw [e, show Nat.beq (jl_off r.1 r.2) (jl_off r.1 r.2) = true from Nat.beq_refl _] at h1
  exact eq_of_beq h1
theorem jl_wf {pl : List (Nat × Nat)} {b0 t : Nat} {dC : Nat → ClassId} {dI : Nat → Nat → Nat} {ca : Nat → ClassId} (h1 : pl.Nodup) (h2 : ∀ q ∈ pl, ∀ r ∈ pl, jl_off q.1 q.2 = jl_off r.1 r.2 → q = r) (h3 : pl.all (fun q => match jx_ob q.1 with | some o => o.2.all (fun fd => Nat.beq fd.1 0 || pl.contains (fd.2.1, fd.2.2 q.2)) | none => true) = true) (h4 : pl.all (fun q => bif Nat.beq (jx_ty q.1) 3 then (List.range (jx_ln q.1)).all (fun j => pl.contains (jx_ek q.1, jx_eo q.1 + j)) else true) = true) (h5 : ∀ q ∈ pl, q.1 ≠ 60) : jx_wf (pl, jl_ad b0 t, dC, dI, ca) := by
  refine ⟨h1, fun q hq r hr e => h2 q hq r hr ?_, fun q hq o ho f fd hf hne => ?_, fun q hq hno hty j hj => ?_, h5⟩
  · have e2 : jl_ad b0 t q.1 q.2 = jl_ad b0 t r.1 r.2 := e
    have f1 : ∀ x ∈ pl, jl_ad b0 t x.1 x.2 = b0 + jl_off x.1 x.2 := by
      intro x hx
      unfold jl_ad
      have : Nat.beq x.1 60 = false := by
        cases hb : Nat.beq x.1 60 with
        | false => rfl
        | true => exact absurd (jx_beq hb) (h5 x hx)
      rw [this]
      rfl
    rw [f1 q hq, f1 r hr] at e2
    omega
  · have h := List.all_eq_true.mp h3 q hq
    rw [ho] at h
    have h := List.all_eq_true.mp h fd (List.mem_of_getElem? hf)
    rcases Bool.or_eq_true_iff.mp h with g | g
    · exact absurd (jx_beq g) hne
    · exact List.contains_iff_mem.mp g
  · have h := List.all_eq_true.mp h4 q hq
    rw [hty, show Nat.beq 3 3 = true from rfl, cond_true] at h
    exact List.contains_iff_mem.mp (List.all_eq_true.mp h j (List.mem_range.mpr hj))
theorem jl_arrV {cA : ClassId} {N : Nat} {f g : Nat → Value} (h : ∀ j, j < N → f j = g j) : arrV cA N f = arrV cA N g := by
  unfold arrV
  congr 1
  apply Array.ext
  · simp
  · intro i h1 h2
    simp at h1
    simpa using h i h1
def jl_k1 (w : jx_Wd) (b0 : Nat) : Nat → va_E := jc_s14 w b0 0 1 (va_up (fun _ => .inr (0, [])) 0 (.inr (9, [.null, .null, .null, .null, .null, .null, .int 0, .int 0, .null, .null, .null, .null, .null, .null])))
def jl_k2 (w : jx_Wd) (b0 : Nat) : Nat → va_E := jc_t19 w b0 204 205 (va_up (jl_k1 w b0) 204 (.inr (10, [.int 0, .int 0, .int 0, .null, .null, .null, .null, .int 0, .null, .null, .null, .null, .null, .null, .int 0, .null, .int 0, .null, .null, .null, .null, .null, .null, .null])))
set_option maxRecDepth 100000 in
theorem jl_ra_7 {pl : List (Nat × Nat)} {b0 t : Nat} {dC : Nat → ClassId} {dI : Nat → Nat → Nat} {ca : Nat → ClassId} {H : Heap} {D : va_G} (hP : va_P D jx_cl (jc_ws b0 223 (jl_k2 (pl, jl_ad b0 t, dC, dI, ca) b0)) H) : va_at D jx_cl (jl_ad b0 t 7 0, jx_cell (pl, jl_ad b0 t, dC, dI, ca) jl_h0 7 0) H := by
  have h : H[b0 + 7]? = some (vp_cell (ca 3) (30, .inr (.inr (.inr (.inr (jc_na b0 8 30)))))) := hP 7 _ (jc_at (by decide))
  show H[b0 + 7]? = some (vp_cell (ca 3) (30, .inr (.inr (.inr (.inr (fun j => some (jl_ad b0 t (jx_ek 7) (jx_eo 7 + j))))))))
  rw [h, vp_cell_q, vp_cell_q]
  refine congrArg some (jl_arrV (fun j hj => ?_))
  unfold jc_na
  rw [if_pos hj]
  congr 2
  rcases (show j = 0 ∨ j = 1 ∨ j = 2 ∨ j = 3 ∨ j = 4 ∨ j = 5 ∨ j = 6 ∨ j = 7 ∨ j = 8 ∨ j = 9 ∨ j = 10 ∨ j = 11 ∨ j = 12 ∨ j = 13 ∨ j = 14 ∨ j = 15 ∨ j = 16 ∨ j = 17 ∨ j = 18 ∨ j = 19 ∨ j = 20 ∨ j = 21 ∨ j = 22 ∨ j = 23 ∨ j = 24 ∨ j = 25 ∨ j = 26 ∨ j = 27 ∨ j = 28 ∨ j = 29 by omega) with rfl | rfl | rfl | rfl | rfl | rfl | rfl | rfl | rfl | rfl | rfl | rfl | rfl | rfl | rfl | rfl | rfl | rfl | rfl | rfl | rfl | rfl | rfl | rfl | rfl | rfl | rfl | rfl | rfl | rfl <;> rfl
set_option maxRecDepth 100000 in
theorem jl_ra_8 {pl : List (Nat × Nat)} {b0 t : Nat} {dC : Nat → ClassId} {dI : Nat → Nat → Nat} {ca : Nat → ClassId} {H : Heap} {D : va_G} (hP : va_P D jx_cl (jc_ws b0 223 (jl_k2 (pl, jl_ad b0 t, dC, dI, ca) b0)) H) : va_at D jx_cl (jl_ad b0 t 8 0, jx_cell (pl, jl_ad b0 t, dC, dI, ca) jl_h0 8 0) H := by
  have h : H[b0 + 158]? = some (vp_cell (ca 3) (4, .inr (.inr (.inr (.inr (jc_na b0 160 4)))))) := hP 158 _ (jc_at (by decide))
  show H[b0 + 158]? = some (vp_cell (ca 3) (4, .inr (.inr (.inr (.inr (fun j => some (jl_ad b0 t (jx_ek 8) (jx_eo 8 + j))))))))
  rw [h, vp_cell_q, vp_cell_q]
  refine congrArg some (jl_arrV (fun j hj => ?_))
  unfold jc_na
  rw [if_pos hj]
  congr 2
  rcases (show j = 0 ∨ j = 1 ∨ j = 2 ∨ j = 3 by omega) with rfl | rfl | rfl | rfl <;> rfl
set_option maxRecDepth 100000 in
theorem jl_ra_10 {pl : List (Nat × Nat)} {b0 t : Nat} {dC : Nat → ClassId} {dI : Nat → Nat → Nat} {ca : Nat → ClassId} {H : Heap} {D : va_G} (hP : va_P D jx_cl (jc_ws b0 223 (jl_k2 (pl, jl_ad b0 t, dC, dI, ca) b0)) H) : va_at D jx_cl (jl_ad b0 t 10 0, jx_cell (pl, jl_ad b0 t, dC, dI, ca) jl_h0 10 0) H := by
  have h : H[b0 + 180]? = some (vp_cell (ca 4) (4, .inr (.inr (.inr (.inr (jc_sa b0 181 4)))))) := hP 180 _ (jc_at (by decide))
  show H[b0 + 180]? = some (vp_cell (ca 4) (4, .inr (.inr (.inr (.inr (fun j => some (jl_ad b0 t (jx_ek 10) (jx_eo 10 + j))))))))
  rw [h, vp_cell_q, vp_cell_q]
  refine congrArg some (jl_arrV (fun j hj => ?_))
  unfold jc_sa
  rw [if_pos hj]
  congr 2
  rcases (show j = 0 ∨ j = 1 ∨ j = 2 ∨ j = 3 by omega) with rfl | rfl | rfl | rfl <;> rfl
def jl_qx_0 : List (Nat × Nat) := [(0, 0), (1, 0), (2, 0), (3, 0), (4, 0), (5, 0), (1, 1), (2, 1), (3, 1), (4, 1), (5, 1), (1, 2), (2, 2), (3, 2), (4, 2), (5, 2), (1, 3), (2, 3), (3, 3), (4, 3)]
set_option maxRecDepth 100000 in
theorem jl_qx_w0 {pl : List (Nat × Nat)} {b0 t : Nat} {dC : Nat → ClassId} {dI : Nat → Nat → Nat} {ca : Nat → ClassId} {H : Heap} {D : va_G} (hP : va_P D jx_cl (jc_ws b0 223 (jl_k2 (pl, jl_ad b0 t, dC, dI, ca) b0)) H) : ∀ q ∈ jl_qx_0, va_at D jx_cl (jl_ad b0 t q.1 q.2, jx_cell (pl, jl_ad b0 t, dC, dI, ca) jl_h0 q.1 q.2) H :=
  List.forall_mem_cons.mpr <| And.intro (hP 0 _ (jc_at (by decide))) <|
  List.forall_mem_cons.mpr <| And.intro (hP 1 _ (jc_at (by decide))) <|
  List.forall_mem_cons.mpr <| And.intro (hP 2 _ (jc_at (by decide))) <|
  List.forall_mem_cons.mpr <| And.intro (hP 3 _ (jc_at (by decide))) <|
  List.forall_mem_cons.mpr <| And.intro (hP 4 _ (jc_at (by decide))) <|
  List.forall_mem_cons.mpr <| And.intro (hP 5 _ (jc_at (by decide))) <|
  List.forall_mem_cons.mpr <| And.intro (hP 8 _ (jc_at (by decide))) <|
  List.forall_mem_cons.mpr <| And.intro (hP 9 _ (jc_at (by decide))) <|
  List.forall_mem_cons.mpr <| And.intro (hP 10 _ (jc_at (by decide))) <|
  List.forall_mem_cons.mpr <| And.intro (hP 11 _ (jc_at (by decide))) <|
  List.forall_mem_cons.mpr <| And.intro (hP 12 _ (jc_at (by decide))) <|
  List.forall_mem_cons.mpr <| And.intro (hP 13 _ (jc_at (by decide))) <|
  List.forall_mem_cons.mpr <| And.intro (hP 14 _ (jc_at (by decide))) <|
  List.forall_mem_cons.mpr <| And.intro (hP 15 _ (jc_at (by decide))) <|
  List.forall_mem_cons.mpr <| And.intro (hP 16 _ (jc_at (by decide))) <|
  List.forall_mem_cons.mpr <| And.intro (hP 17 _ (jc_at (by decide))) <|
  List.forall_mem_cons.mpr <| And.intro (hP 18 _ (jc_at (by decide))) <|
  List.forall_mem_cons.mpr <| And.intro (hP 19 _ (jc_at (by decide))) <|
  List.forall_mem_cons.mpr <| And.intro (hP 20 _ (jc_at (by decide))) <|
  List.forall_mem_cons.mpr <| And.intro (hP 21 _ (jc_at (by decide))) <|
  (fun _ h => absurd h List.not_mem_nil)
def jl_qx_1 : List (Nat × Nat) := [(5, 3), (1, 4), (2, 4), (3, 4), (4, 4), (5, 4), (1, 5), (2, 5), (3, 5), (4, 5), (5, 5), (1, 6), (2, 6), (3, 6), (4, 6), (5, 6), (1, 7), (2, 7), (3, 7), (4, 7)]
set_option maxRecDepth 100000 in
theorem jl_qx_w1 {pl : List (Nat × Nat)} {b0 t : Nat} {dC : Nat → ClassId} {dI : Nat → Nat → Nat} {ca : Nat → ClassId} {H : Heap} {D : va_G} (hP : va_P D jx_cl (jc_ws b0 223 (jl_k2 (pl, jl_ad b0 t, dC, dI, ca) b0)) H) : ∀ q ∈ jl_qx_1, va_at D jx_cl (jl_ad b0 t q.1 q.2, jx_cell (pl, jl_ad b0 t, dC, dI, ca) jl_h0 q.1 q.2) H :=
  List.forall_mem_cons.mpr <| And.intro (hP 22 _ (jc_at (by decide))) <|
  List.forall_mem_cons.mpr <| And.intro (hP 23 _ (jc_at (by decide))) <|
  List.forall_mem_cons.mpr <| And.intro (hP 24 _ (jc_at (by decide))) <|
  List.forall_mem_cons.mpr <| And.intro (hP 25 _ (jc_at (by decide))) <|
  List.forall_mem_cons.mpr <| And.intro (hP 26 _ (jc_at (by decide))) <|
  List.forall_mem_cons.mpr <| And.intro (hP 27 _ (jc_at (by decide))) <|
  List.forall_mem_cons.mpr <| And.intro (hP 28 _ (jc_at (by decide))) <|
  List.forall_mem_cons.mpr <| And.intro (hP 29 _ (jc_at (by decide))) <|
  List.forall_mem_cons.mpr <| And.intro (hP 30 _ (jc_at (by decide))) <|
  List.forall_mem_cons.mpr <| And.intro (hP 31 _ (jc_at (by decide))) <|
  List.forall_mem_cons.mpr <| And.intro (hP 32 _ (jc_at (by decide))) <|
  List.forall_mem_cons.mpr <| And.intro (hP 33 _ (jc_at (by decide))) <|
  List.forall_mem_cons.mpr <| And.intro (hP 34 _ (jc_at (by decide))) <|
  List.forall_mem_cons.mpr <| And.intro (hP 35 _ (jc_at (by decide))) <|
  List.forall_mem_cons.mpr <| And.intro (hP 36 _ (jc_at (by decide))) <|
  List.forall_mem_cons.mpr <| And.intro (hP 37 _ (jc_at (by decide))) <|
  List.forall_mem_cons.mpr <| And.intro (hP 38 _ (jc_at (by decide))) <|
  List.forall_mem_cons.mpr <| And.intro (hP 39 _ (jc_at (by decide))) <|
  List.forall_mem_cons.mpr <| And.intro (hP 40 _ (jc_at (by decide))) <|
  List.forall_mem_cons.mpr <| And.intro (hP 41 _ (jc_at (by decide))) <|
  (fun _ h => absurd h List.not_mem_nil)
def jl_qx_2 : List (Nat × Nat) := [(5, 7), (1, 8), (2, 8), (3, 8), (4, 8), (5, 8), (1, 9), (2, 9), (3, 9), (4, 9), (5, 9), (1, 10), (2, 10), (3, 10), (4, 10), (5, 10), (1, 11), (2, 11), (3, 11), (4, 11)]
set_option maxRecDepth 100000 in
theorem jl_qx_w2 {pl : List (Nat × Nat)} {b0 t : Nat} {dC : Nat → ClassId} {dI : Nat → Nat → Nat} {ca : Nat → ClassId} {H : Heap} {D : va_G} (hP : va_P D jx_cl (jc_ws b0 223 (jl_k2 (pl, jl_ad b0 t, dC, dI, ca) b0)) H) : ∀ q ∈ jl_qx_2, va_at D jx_cl (jl_ad b0 t q.1 q.2, jx_cell (pl, jl_ad b0 t, dC, dI, ca) jl_h0 q.1 q.2) H :=
  List.forall_mem_cons.mpr <| And.intro (hP 42 _ (jc_at (by decide))) <|
  List.forall_mem_cons.mpr <| And.intro (hP 43 _ (jc_at (by decide))) <|
  List.forall_mem_cons.mpr <| And.intro (hP 44 _ (jc_at (by decide))) <|
  List.forall_mem_cons.mpr <| And.intro (hP 45 _ (jc_at (by decide))) <|
  List.forall_mem_cons.mpr <| And.intro (hP 46 _ (jc_at (by decide))) <|
  List.forall_mem_cons.mpr <| And.intro (hP 47 _ (jc_at (by decide))) <|
  List.forall_mem_cons.mpr <| And.intro (hP 48 _ (jc_at (by decide))) <|
  List.forall_mem_cons.mpr <| And.intro (hP 49 _ (jc_at (by decide))) <|
  List.forall_mem_cons.mpr <| And.intro (hP 50 _ (jc_at (by decide))) <|
  List.forall_mem_cons.mpr <| And.intro (hP 51 _ (jc_at (by decide))) <|
  List.forall_mem_cons.mpr <| And.intro (hP 52 _ (jc_at (by decide))) <|
  List.forall_mem_cons.mpr <| And.intro (hP 53 _ (jc_at (by decide))) <|
  List.forall_mem_cons.mpr <| And.intro (hP 54 _ (jc_at (by decide))) <|
  List.forall_mem_cons.mpr <| And.intro (hP 55 _ (jc_at (by decide))) <|
  List.forall_mem_cons.mpr <| And.intro (hP 56 _ (jc_at (by decide))) <|
  List.forall_mem_cons.mpr <| And.intro (hP 57 _ (jc_at (by decide))) <|
  List.forall_mem_cons.mpr <| And.intro (hP 58 _ (jc_at (by decide))) <|
  List.forall_mem_cons.mpr <| And.intro (hP 59 _ (jc_at (by decide))) <|
  List.forall_mem_cons.mpr <| And.intro (hP 60 _ (jc_at (by decide))) <|
  List.forall_mem_cons.mpr <| And.intro (hP 61 _ (jc_at (by decide))) <|
  (fun _ h => absurd h List.not_mem_nil)
def jl_qx_3 : List (Nat × Nat) := [(5, 11), (1, 12), (2, 12), (3, 12), (4, 12), (5, 12), (1, 13), (2, 13), (3, 13), (4, 13), (5, 13), (1, 14), (2, 14), (3, 14), (4, 14), (5, 14), (1, 15), (2, 15), (3, 15), (4, 15)]
set_option maxRecDepth 100000 in
theorem jl_qx_w3 {pl : List (Nat × Nat)} {b0 t : Nat} {dC : Nat → ClassId} {dI : Nat → Nat → Nat} {ca : Nat → ClassId} {H : Heap} {D : va_G} (hP : va_P D jx_cl (jc_ws b0 223 (jl_k2 (pl, jl_ad b0 t, dC, dI, ca) b0)) H) : ∀ q ∈ jl_qx_3, va_at D jx_cl (jl_ad b0 t q.1 q.2, jx_cell (pl, jl_ad b0 t, dC, dI, ca) jl_h0 q.1 q.2) H :=
  List.forall_mem_cons.mpr <| And.intro (hP 62 _ (jc_at (by decide))) <|
  List.forall_mem_cons.mpr <| And.intro (hP 63 _ (jc_at (by decide))) <|
  List.forall_mem_cons.mpr <| And.intro (hP 64 _ (jc_at (by decide))) <|
  List.forall_mem_cons.mpr <| And.intro (hP 65 _ (jc_at (by decide))) <|
  List.forall_mem_cons.mpr <| And.intro (hP 66 _ (jc_at (by decide))) <|
  List.forall_mem_cons.mpr <| And.intro (hP 67 _ (jc_at (by decide))) <|
  List.forall_mem_cons.mpr <| And.intro (hP 68 _ (jc_at (by decide))) <|
  List.forall_mem_cons.mpr <| And.intro (hP 69 _ (jc_at (by decide))) <|
  List.forall_mem_cons.mpr <| And.intro (hP 70 _ (jc_at (by decide))) <|
  List.forall_mem_cons.mpr <| And.intro (hP 71 _ (jc_at (by decide))) <|
  List.forall_mem_cons.mpr <| And.intro (hP 72 _ (jc_at (by decide))) <|
  List.forall_mem_cons.mpr <| And.intro (hP 73 _ (jc_at (by decide))) <|
  List.forall_mem_cons.mpr <| And.intro (hP 74 _ (jc_at (by decide))) <|
  List.forall_mem_cons.mpr <| And.intro (hP 75 _ (jc_at (by decide))) <|
  List.forall_mem_cons.mpr <| And.intro (hP 76 _ (jc_at (by decide))) <|
  List.forall_mem_cons.mpr <| And.intro (hP 77 _ (jc_at (by decide))) <|
  List.forall_mem_cons.mpr <| And.intro (hP 78 _ (jc_at (by decide))) <|
  List.forall_mem_cons.mpr <| And.intro (hP 79 _ (jc_at (by decide))) <|
  List.forall_mem_cons.mpr <| And.intro (hP 80 _ (jc_at (by decide))) <|
  List.forall_mem_cons.mpr <| And.intro (hP 81 _ (jc_at (by decide))) <|
  (fun _ h => absurd h List.not_mem_nil)
def jl_qx_4 : List (Nat × Nat) := [(5, 15), (1, 16), (2, 16), (3, 16), (4, 16), (5, 16), (1, 17), (2, 17), (3, 17), (4, 17), (5, 17), (1, 18), (2, 18), (3, 18), (4, 18), (5, 18), (1, 19), (2, 19), (3, 19), (4, 19)]
set_option maxRecDepth 100000 in
theorem jl_qx_w4 {pl : List (Nat × Nat)} {b0 t : Nat} {dC : Nat → ClassId} {dI : Nat → Nat → Nat} {ca : Nat → ClassId} {H : Heap} {D : va_G} (hP : va_P D jx_cl (jc_ws b0 223 (jl_k2 (pl, jl_ad b0 t, dC, dI, ca) b0)) H) : ∀ q ∈ jl_qx_4, va_at D jx_cl (jl_ad b0 t q.1 q.2, jx_cell (pl, jl_ad b0 t, dC, dI, ca) jl_h0 q.1 q.2) H :=
  List.forall_mem_cons.mpr <| And.intro (hP 82 _ (jc_at (by decide))) <|
  List.forall_mem_cons.mpr <| And.intro (hP 83 _ (jc_at (by decide))) <|
  List.forall_mem_cons.mpr <| And.intro (hP 84 _ (jc_at (by decide))) <|
  List.forall_mem_cons.mpr <| And.intro (hP 85 _ (jc_at (by decide))) <|
  List.forall_mem_cons.mpr <| And.intro (hP 86 _ (jc_at (by decide))) <|
  List.forall_mem_cons.mpr <| And.intro (hP 87 _ (jc_at (by decide))) <|
  List.forall_mem_cons.mpr <| And.intro (hP 88 _ (jc_at (by decide))) <|
  List.forall_mem_cons.mpr <| And.intro (hP 89 _ (jc_at (by decide))) <|
  List.forall_mem_cons.mpr <| And.intro (hP 90 _ (jc_at (by decide))) <|
  List.forall_mem_cons.mpr <| And.intro (hP 91 _ (jc_at (by decide))) <|
  List.forall_mem_cons.mpr <| And.intro (hP 92 _ (jc_at (by decide))) <|
  List.forall_mem_cons.mpr <| And.intro (hP 93 _ (jc_at (by decide))) <|
  List.forall_mem_cons.mpr <| And.intro (hP 94 _ (jc_at (by decide))) <|
  List.forall_mem_cons.mpr <| And.intro (hP 95 _ (jc_at (by decide))) <|
  List.forall_mem_cons.mpr <| And.intro (hP 96 _ (jc_at (by decide))) <|
  List.forall_mem_cons.mpr <| And.intro (hP 97 _ (jc_at (by decide))) <|
  List.forall_mem_cons.mpr <| And.intro (hP 98 _ (jc_at (by decide))) <|
  List.forall_mem_cons.mpr <| And.intro (hP 99 _ (jc_at (by decide))) <|
  List.forall_mem_cons.mpr <| And.intro (hP 100 _ (jc_at (by decide))) <|
  List.forall_mem_cons.mpr <| And.intro (hP 101 _ (jc_at (by decide))) <|
  (fun _ h => absurd h List.not_mem_nil)
def jl_qx_5 : List (Nat × Nat) := [(5, 19), (1, 20), (2, 20), (3, 20), (4, 20), (5, 20), (1, 21), (2, 21), (3, 21), (4, 21), (5, 21), (1, 22), (2, 22), (3, 22), (4, 22), (5, 22), (1, 23), (2, 23), (3, 23), (4, 23)]
set_option maxRecDepth 100000 in
theorem jl_qx_w5 {pl : List (Nat × Nat)} {b0 t : Nat} {dC : Nat → ClassId} {dI : Nat → Nat → Nat} {ca : Nat → ClassId} {H : Heap} {D : va_G} (hP : va_P D jx_cl (jc_ws b0 223 (jl_k2 (pl, jl_ad b0 t, dC, dI, ca) b0)) H) : ∀ q ∈ jl_qx_5, va_at D jx_cl (jl_ad b0 t q.1 q.2, jx_cell (pl, jl_ad b0 t, dC, dI, ca) jl_h0 q.1 q.2) H :=
  List.forall_mem_cons.mpr <| And.intro (hP 102 _ (jc_at (by decide))) <|
  List.forall_mem_cons.mpr <| And.intro (hP 103 _ (jc_at (by decide))) <|
  List.forall_mem_cons.mpr <| And.intro (hP 104 _ (jc_at (by decide))) <|
  List.forall_mem_cons.mpr <| And.intro (hP 105 _ (jc_at (by decide))) <|
  List.forall_mem_cons.mpr <| And.intro (hP 106 _ (jc_at (by decide))) <|
  List.forall_mem_cons.mpr <| And.intro (hP 107 _ (jc_at (by decide))) <|
  List.forall_mem_cons.mpr <| And.intro (hP 108 _ (jc_at (by decide))) <|
  List.forall_mem_cons.mpr <| And.intro (hP 109 _ (jc_at (by decide))) <|
  List.forall_mem_cons.mpr <| And.intro (hP 110 _ (jc_at (by decide))) <|
  List.forall_mem_cons.mpr <| And.intro (hP 111 _ (jc_at (by decide))) <|
  List.forall_mem_cons.mpr <| And.intro (hP 112 _ (jc_at (by decide))) <|
  List.forall_mem_cons.mpr <| And.intro (hP 113 _ (jc_at (by decide))) <|
  List.forall_mem_cons.mpr <| And.intro (hP 114 _ (jc_at (by decide))) <|
  List.forall_mem_cons.mpr <| And.intro (hP 115 _ (jc_at (by decide))) <|
  List.forall_mem_cons.mpr <| And.intro (hP 116 _ (jc_at (by decide))) <|
  List.forall_mem_cons.mpr <| And.intro (hP 117 _ (jc_at (by decide))) <|
  List.forall_mem_cons.mpr <| And.intro (hP 118 _ (jc_at (by decide))) <|
  List.forall_mem_cons.mpr <| And.intro (hP 119 _ (jc_at (by decide))) <|
  List.forall_mem_cons.mpr <| And.intro (hP 120 _ (jc_at (by decide))) <|
  List.forall_mem_cons.mpr <| And.intro (hP 121 _ (jc_at (by decide))) <|
  (fun _ h => absurd h List.not_mem_nil)
def jl_qx_6 : List (Nat × Nat) := [(5, 23), (1, 24), (2, 24), (3, 24), (4, 24), (5, 24), (1, 25), (2, 25), (3, 25), (4, 25), (5, 25), (1, 26), (2, 26), (3, 26), (4, 26), (5, 26), (1, 27), (2, 27), (3, 27), (4, 27)]
set_option maxRecDepth 100000 in
theorem jl_qx_w6 {pl : List (Nat × Nat)} {b0 t : Nat} {dC : Nat → ClassId} {dI : Nat → Nat → Nat} {ca : Nat → ClassId} {H : Heap} {D : va_G} (hP : va_P D jx_cl (jc_ws b0 223 (jl_k2 (pl, jl_ad b0 t, dC, dI, ca) b0)) H) : ∀ q ∈ jl_qx_6, va_at D jx_cl (jl_ad b0 t q.1 q.2, jx_cell (pl, jl_ad b0 t, dC, dI, ca) jl_h0 q.1 q.2) H :=
  List.forall_mem_cons.mpr <| And.intro (hP 122 _ (jc_at (by decide))) <|
  List.forall_mem_cons.mpr <| And.intro (hP 123 _ (jc_at (by decide))) <|
  List.forall_mem_cons.mpr <| And.intro (hP 124 _ (jc_at (by decide))) <|
  List.forall_mem_cons.mpr <| And.intro (hP 125 _ (jc_at (by decide))) <|
  List.forall_mem_cons.mpr <| And.intro (hP 126 _ (jc_at (by decide))) <|
  List.forall_mem_cons.mpr <| And.intro (hP 127 _ (jc_at (by decide))) <|
  List.forall_mem_cons.mpr <| And.intro (hP 128 _ (jc_at (by decide))) <|
  List.forall_mem_cons.mpr <| And.intro (hP 129 _ (jc_at (by decide))) <|
  List.forall_mem_cons.mpr <| And.intro (hP 130 _ (jc_at (by decide))) <|
  List.forall_mem_cons.mpr <| And.intro (hP 131 _ (jc_at (by decide))) <|
  List.forall_mem_cons.mpr <| And.intro (hP 132 _ (jc_at (by decide))) <|
  List.forall_mem_cons.mpr <| And.intro (hP 133 _ (jc_at (by decide))) <|
  List.forall_mem_cons.mpr <| And.intro (hP 134 _ (jc_at (by decide))) <|
  List.forall_mem_cons.mpr <| And.intro (hP 135 _ (jc_at (by decide))) <|
  List.forall_mem_cons.mpr <| And.intro (hP 136 _ (jc_at (by decide))) <|
  List.forall_mem_cons.mpr <| And.intro (hP 137 _ (jc_at (by decide))) <|
  List.forall_mem_cons.mpr <| And.intro (hP 138 _ (jc_at (by decide))) <|
  List.forall_mem_cons.mpr <| And.intro (hP 139 _ (jc_at (by decide))) <|
  List.forall_mem_cons.mpr <| And.intro (hP 140 _ (jc_at (by decide))) <|
  List.forall_mem_cons.mpr <| And.intro (hP 141 _ (jc_at (by decide))) <|
  (fun _ h => absurd h List.not_mem_nil)
def jl_qx_7 : List (Nat × Nat) := [(5, 27), (1, 28), (2, 28), (3, 28), (4, 28), (5, 28), (1, 29), (2, 29), (3, 29), (4, 29), (5, 29), (1, 30), (2, 30), (3, 30), (4, 30), (5, 30), (1, 31), (2, 31), (3, 31), (4, 31)]
set_option maxRecDepth 100000 in
theorem jl_qx_w7 {pl : List (Nat × Nat)} {b0 t : Nat} {dC : Nat → ClassId} {dI : Nat → Nat → Nat} {ca : Nat → ClassId} {H : Heap} {D : va_G} (hP : va_P D jx_cl (jc_ws b0 223 (jl_k2 (pl, jl_ad b0 t, dC, dI, ca) b0)) H) : ∀ q ∈ jl_qx_7, va_at D jx_cl (jl_ad b0 t q.1 q.2, jx_cell (pl, jl_ad b0 t, dC, dI, ca) jl_h0 q.1 q.2) H :=
  List.forall_mem_cons.mpr <| And.intro (hP 142 _ (jc_at (by decide))) <|
  List.forall_mem_cons.mpr <| And.intro (hP 143 _ (jc_at (by decide))) <|
  List.forall_mem_cons.mpr <| And.intro (hP 144 _ (jc_at (by decide))) <|
  List.forall_mem_cons.mpr <| And.intro (hP 145 _ (jc_at (by decide))) <|
  List.forall_mem_cons.mpr <| And.intro (hP 146 _ (jc_at (by decide))) <|
  List.forall_mem_cons.mpr <| And.intro (hP 147 _ (jc_at (by decide))) <|
  List.forall_mem_cons.mpr <| And.intro (hP 148 _ (jc_at (by decide))) <|
  List.forall_mem_cons.mpr <| And.intro (hP 149 _ (jc_at (by decide))) <|
  List.forall_mem_cons.mpr <| And.intro (hP 150 _ (jc_at (by decide))) <|
  List.forall_mem_cons.mpr <| And.intro (hP 151 _ (jc_at (by decide))) <|
  List.forall_mem_cons.mpr <| And.intro (hP 152 _ (jc_at (by decide))) <|
  List.forall_mem_cons.mpr <| And.intro (hP 153 _ (jc_at (by decide))) <|
  List.forall_mem_cons.mpr <| And.intro (hP 154 _ (jc_at (by decide))) <|
  List.forall_mem_cons.mpr <| And.intro (hP 155 _ (jc_at (by decide))) <|
  List.forall_mem_cons.mpr <| And.intro (hP 156 _ (jc_at (by decide))) <|
  List.forall_mem_cons.mpr <| And.intro (hP 157 _ (jc_at (by decide))) <|
  List.forall_mem_cons.mpr <| And.intro (hP 160 _ (jc_at (by decide))) <|
  List.forall_mem_cons.mpr <| And.intro (hP 161 _ (jc_at (by decide))) <|
  List.forall_mem_cons.mpr <| And.intro (hP 162 _ (jc_at (by decide))) <|
  List.forall_mem_cons.mpr <| And.intro (hP 163 _ (jc_at (by decide))) <|
  (fun _ h => absurd h List.not_mem_nil)
def jl_qx_8 : List (Nat × Nat) := [(5, 31), (1, 32), (2, 32), (3, 32), (4, 32), (5, 32), (1, 33), (2, 33), (3, 33), (4, 33), (5, 33), (1, 34), (2, 34), (3, 34), (4, 34), (5, 34), (6, 0), (7, 0), (8, 0), (9, 0)]
set_option maxRecDepth 100000 in
theorem jl_qx_w8 {pl : List (Nat × Nat)} {b0 t : Nat} {dC : Nat → ClassId} {dI : Nat → Nat → Nat} {ca : Nat → ClassId} {H : Heap} {D : va_G} (hP : va_P D jx_cl (jc_ws b0 223 (jl_k2 (pl, jl_ad b0 t, dC, dI, ca) b0)) H) : ∀ q ∈ jl_qx_8, va_at D jx_cl (jl_ad b0 t q.1 q.2, jx_cell (pl, jl_ad b0 t, dC, dI, ca) jl_h0 q.1 q.2) H :=
  List.forall_mem_cons.mpr <| And.intro (hP 164 _ (jc_at (by decide))) <|
  List.forall_mem_cons.mpr <| And.intro (hP 165 _ (jc_at (by decide))) <|
  List.forall_mem_cons.mpr <| And.intro (hP 166 _ (jc_at (by decide))) <|
  List.forall_mem_cons.mpr <| And.intro (hP 167 _ (jc_at (by decide))) <|
  List.forall_mem_cons.mpr <| And.intro (hP 168 _ (jc_at (by decide))) <|
  List.forall_mem_cons.mpr <| And.intro (hP 169 _ (jc_at (by decide))) <|
  List.forall_mem_cons.mpr <| And.intro (hP 170 _ (jc_at (by decide))) <|
  List.forall_mem_cons.mpr <| And.intro (hP 171 _ (jc_at (by decide))) <|
  List.forall_mem_cons.mpr <| And.intro (hP 172 _ (jc_at (by decide))) <|
  List.forall_mem_cons.mpr <| And.intro (hP 173 _ (jc_at (by decide))) <|
  List.forall_mem_cons.mpr <| And.intro (hP 174 _ (jc_at (by decide))) <|
  List.forall_mem_cons.mpr <| And.intro (hP 175 _ (jc_at (by decide))) <|
  List.forall_mem_cons.mpr <| And.intro (hP 176 _ (jc_at (by decide))) <|
  List.forall_mem_cons.mpr <| And.intro (hP 177 _ (jc_at (by decide))) <|
  List.forall_mem_cons.mpr <| And.intro (hP 178 _ (jc_at (by decide))) <|
  List.forall_mem_cons.mpr <| And.intro (hP 179 _ (jc_at (by decide))) <|
  List.forall_mem_cons.mpr <| And.intro (hP 6 _ (jc_at (by decide))) <|
  List.forall_mem_cons.mpr <| And.intro (jl_ra_7 hP) <|
  List.forall_mem_cons.mpr <| And.intro (jl_ra_8 hP) <|
  List.forall_mem_cons.mpr <| And.intro (hP 159 _ (jc_at (by decide))) <|
  (fun _ h => absurd h List.not_mem_nil)
def jl_qx_9 : List (Nat × Nat) := [(10, 0), (11, 0), (12, 0), (11, 1), (12, 1), (11, 2), (12, 2), (11, 3), (12, 3), (13, 0), (14, 0), (15, 0), (16, 0), (17, 0), (18, 0), (19, 0), (20, 0), (21, 0), (22, 0), (23, 0)]
set_option maxRecDepth 100000 in
theorem jl_qx_w9 {pl : List (Nat × Nat)} {b0 t : Nat} {dC : Nat → ClassId} {dI : Nat → Nat → Nat} {ca : Nat → ClassId} {H : Heap} {D : va_G} (hP : va_P D jx_cl (jc_ws b0 223 (jl_k2 (pl, jl_ad b0 t, dC, dI, ca) b0)) H) : ∀ q ∈ jl_qx_9, va_at D jx_cl (jl_ad b0 t q.1 q.2, jx_cell (pl, jl_ad b0 t, dC, dI, ca) jl_h0 q.1 q.2) H :=
  List.forall_mem_cons.mpr <| And.intro (jl_ra_10 hP) <|
  List.forall_mem_cons.mpr <| And.intro (hP 181 _ (jc_at (by decide))) <|
  List.forall_mem_cons.mpr <| And.intro (hP 182 _ (jc_at (by decide))) <|
  List.forall_mem_cons.mpr <| And.intro (hP 183 _ (jc_at (by decide))) <|
  List.forall_mem_cons.mpr <| And.intro (hP 184 _ (jc_at (by decide))) <|
  List.forall_mem_cons.mpr <| And.intro (hP 185 _ (jc_at (by decide))) <|
  List.forall_mem_cons.mpr <| And.intro (hP 186 _ (jc_at (by decide))) <|
  List.forall_mem_cons.mpr <| And.intro (hP 187 _ (jc_at (by decide))) <|
  List.forall_mem_cons.mpr <| And.intro (hP 188 _ (jc_at (by decide))) <|
  List.forall_mem_cons.mpr <| And.intro (hP 189 _ (jc_at (by decide))) <|
  List.forall_mem_cons.mpr <| And.intro (hP 190 _ (jc_at (by decide))) <|
  List.forall_mem_cons.mpr <| And.intro (hP 191 _ (jc_at (by decide))) <|
  List.forall_mem_cons.mpr <| And.intro (hP 192 _ (jc_at (by decide))) <|
  List.forall_mem_cons.mpr <| And.intro (hP 193 _ (jc_at (by decide))) <|
  List.forall_mem_cons.mpr <| And.intro (hP 194 _ (jc_at (by decide))) <|
  List.forall_mem_cons.mpr <| And.intro (hP 195 _ (jc_at (by decide))) <|
  List.forall_mem_cons.mpr <| And.intro (hP 196 _ (jc_at (by decide))) <|
  List.forall_mem_cons.mpr <| And.intro (hP 197 _ (jc_at (by decide))) <|
  List.forall_mem_cons.mpr <| And.intro (hP 198 _ (jc_at (by decide))) <|
  List.forall_mem_cons.mpr <| And.intro (hP 199 _ (jc_at (by decide))) <|
  (fun _ h => absurd h List.not_mem_nil)
def jl_qx_10 : List (Nat × Nat) := [(24, 0), (25, 0), (26, 0), (27, 0)]
set_option maxRecDepth 100000 in
theorem jl_qx_w10 {pl : List (Nat × Nat)} {b0 t : Nat} {dC : Nat → ClassId} {dI : Nat → Nat → Nat} {ca : Nat → ClassId} {H : Heap} {D : va_G} (hP : va_P D jx_cl (jc_ws b0 223 (jl_k2 (pl, jl_ad b0 t, dC, dI, ca) b0)) H) : ∀ q ∈ jl_qx_10, va_at D jx_cl (jl_ad b0 t q.1 q.2, jx_cell (pl, jl_ad b0 t, dC, dI, ca) jl_h0 q.1 q.2) H :=
  List.forall_mem_cons.mpr <| And.intro (hP 200 _ (jc_at (by decide))) <|
  List.forall_mem_cons.mpr <| And.intro (hP 201 _ (jc_at (by decide))) <|
  List.forall_mem_cons.mpr <| And.intro (hP 202 _ (jc_at (by decide))) <|
  List.forall_mem_cons.mpr <| And.intro (hP 203 _ (jc_at (by decide))) <|
  (fun _ h => absurd h List.not_mem_nil)
theorem jl_qx_w {b0 t : Nat} {dC : Nat → ClassId} {dI : Nat → Nat → Nat} {ca : Nat → ClassId} {H : Heap} {D : va_G} {pl : List (Nat × Nat)} (hP : va_P D jx_cl (jc_ws b0 223 (jl_k2 (pl, jl_ad b0 t, dC, dI, ca) b0)) H) : ∀ q ∈ jl_px, va_at D jx_cl (jl_ad b0 t q.1 q.2, jx_cell (pl, jl_ad b0 t, dC, dI, ca) jl_h0 q.1 q.2) H := by
  rw [show jl_px = jl_qx_0 ++ (jl_qx_1 ++ (jl_qx_2 ++ (jl_qx_3 ++ (jl_qx_4 ++ (jl_qx_5 ++ (jl_qx_6 ++ (jl_qx_7 ++ (jl_qx_8 ++ (jl_qx_9 ++ (jl_qx_10)))))))))) from rfl]
  exact List.forall_mem_append.mpr <| And.intro (jl_qx_w0 hP) <| List.forall_mem_append.mpr <| And.intro (jl_qx_w1 hP) <| List.forall_mem_append.mpr <| And.intro (jl_qx_w2 hP) <| List.forall_mem_append.mpr <| And.intro (jl_qx_w3 hP) <| List.forall_mem_append.mpr <| And.intro (jl_qx_w4 hP) <| List.forall_mem_append.mpr <| And.intro (jl_qx_w5 hP) <| List.forall_mem_append.mpr <| And.intro (jl_qx_w6 hP) <| List.forall_mem_append.mpr <| And.intro (jl_qx_w7 hP) <| List.forall_mem_append.mpr <| And.intro (jl_qx_w8 hP) <| List.forall_mem_append.mpr <| And.intro (jl_qx_w9 hP) <| jl_qx_w10 hP
def jl_qm_0 : List (Nat × Nat) := [(30, 0), (33, 0), (34, 0), (35, 0), (36, 0), (38, 0), (39, 0), (40, 0), (41, 0), (42, 0), (43, 0), (45, 0), (47, 0), (48, 0), (49, 0), (50, 0), (51, 0), (52, 0), (53, 0)]
set_option maxRecDepth 100000 in
theorem jl_qm_w0 {pl : List (Nat × Nat)} {b0 t : Nat} {dC : Nat → ClassId} {dI : Nat → Nat → Nat} {ca : Nat → ClassId} {H : Heap} {D : va_G} (hP : va_P D jx_cl (jc_ws b0 223 (jl_k2 (pl, jl_ad b0 t, dC, dI, ca) b0)) H) : ∀ q ∈ jl_qm_0, va_at D jx_cl (jl_ad b0 t q.1 q.2, jx_cell (pl, jl_ad b0 t, dC, dI, ca) jl_h0 q.1 q.2) H :=
  List.forall_mem_cons.mpr <| And.intro (hP 204 _ (jc_at (by decide))) <|
  List.forall_mem_cons.mpr <| And.intro (hP 205 _ (jc_at (by decide))) <|
  List.forall_mem_cons.mpr <| And.intro (hP 206 _ (jc_at (by decide))) <|
  List.forall_mem_cons.mpr <| And.intro (hP 207 _ (jc_at (by decide))) <|
  List.forall_mem_cons.mpr <| And.intro (hP 208 _ (jc_at (by decide))) <|
  List.forall_mem_cons.mpr <| And.intro (hP 209 _ (jc_at (by decide))) <|
  List.forall_mem_cons.mpr <| And.intro (hP 210 _ (jc_at (by decide))) <|
  List.forall_mem_cons.mpr <| And.intro (hP 211 _ (jc_at (by decide))) <|
  List.forall_mem_cons.mpr <| And.intro (hP 212 _ (jc_at (by decide))) <|
  List.forall_mem_cons.mpr <| And.intro (hP 213 _ (jc_at (by decide))) <|
  List.forall_mem_cons.mpr <| And.intro (hP 214 _ (jc_at (by decide))) <|
  List.forall_mem_cons.mpr <| And.intro (hP 215 _ (jc_at (by decide))) <|
  List.forall_mem_cons.mpr <| And.intro (hP 216 _ (jc_at (by decide))) <|
  List.forall_mem_cons.mpr <| And.intro (hP 217 _ (jc_at (by decide))) <|
  List.forall_mem_cons.mpr <| And.intro (hP 218 _ (jc_at (by decide))) <|
  List.forall_mem_cons.mpr <| And.intro (hP 219 _ (jc_at (by decide))) <|
  List.forall_mem_cons.mpr <| And.intro (hP 220 _ (jc_at (by decide))) <|
  List.forall_mem_cons.mpr <| And.intro (hP 221 _ (jc_at (by decide))) <|
  List.forall_mem_cons.mpr <| And.intro (hP 222 _ (jc_at (by decide))) <|
  (fun _ h => absurd h List.not_mem_nil)
theorem jl_qm_w {b0 t : Nat} {dC : Nat → ClassId} {dI : Nat → Nat → Nat} {ca : Nat → ClassId} {H : Heap} {D : va_G} {pl : List (Nat × Nat)} (hP : va_P D jx_cl (jc_ws b0 223 (jl_k2 (pl, jl_ad b0 t, dC, dI, ca) b0)) H) : ∀ q ∈ jl_pm, va_at D jx_cl (jl_ad b0 t q.1 q.2, jx_cell (pl, jl_ad b0 t, dC, dI, ca) jl_h0 q.1 q.2) H := by
  rw [show jl_pm = jl_qm_0 from rfl]
  exact jl_qm_w0 hP
theorem jl_toP {pl pl2 : List (Nat × Nat)} {b0 t : Nat} {dC : Nat → ClassId} {dI : Nat → Nat → Nat} {ca : Nat → ClassId} {H : Heap} {h : jx_H} (hq : ∀ q ∈ pl, va_at (dC, dI) jx_cl (jl_ad b0 t q.1 q.2, jx_cell (pl2, jl_ad b0 t, dC, dI, ca) h q.1 q.2) H) : va_P (dC, dI) jx_cl (jx_ws (pl, jl_ad b0 t, dC, dI, ca) h) H := by
  intro k q hk
  simp only [jx_ws, List.getElem?_map] at hk
  cases h1 : (jx_pl (pl, jl_ad b0 t, dC, dI, ca))[k]? with
  | none => rw [h1] at hk; cases hk
  | some a =>
    rw [h1] at hk
    cases hk
    exact hq a (List.mem_of_getElem? h1)
theorem jl_px_nd : jl_px.Nodup := by decide +kernel
theorem jl_pm_nd : jl_pm.Nodup := by decide +kernel
theorem jl_px_inj : ∀ q ∈ jl_px, ∀ r ∈ jl_px, jl_off q.1 q.2 = jl_off r.1 r.2 → q = r := jl_inj (by decide +kernel)
theorem jl_pm_inj : ∀ q ∈ jl_pm, ∀ r ∈ jl_pm, jl_off q.1 q.2 = jl_off r.1 r.2 → q = r := jl_inj (by decide +kernel)
theorem jl_px60 : ∀ q ∈ jl_px, q.1 ≠ 60 := by decide +kernel
theorem jl_pm60 : ∀ q ∈ jl_pm, q.1 ≠ 60 := by decide +kernel
theorem jl_px_m : jl_px.all (fun q => jl_pm.all (fun r => !(Nat.beq (jl_off q.1 q.2) (jl_off r.1 r.2)))) = true := by decide +kernel
theorem jl_px_3 : jl_px.all (fun q => match jx_ob q.1 with | some o => o.2.all (fun fd => Nat.beq fd.1 0 || jl_px.contains (fd.2.1, fd.2.2 q.2)) | none => true) = true := by decide +kernel
theorem jl_pm_3 : jl_pm.all (fun q => match jx_ob q.1 with | some o => o.2.all (fun fd => Nat.beq fd.1 0 || jl_pm.contains (fd.2.1, fd.2.2 q.2)) | none => true) = true := by decide +kernel
theorem jl_px_4 : jl_px.all (fun q => bif Nat.beq (jx_ty q.1) 3 then (List.range (jx_ln q.1)).all (fun j => jl_px.contains (jx_ek q.1, jx_eo q.1 + j)) else true) = true := by decide +kernel
theorem jl_pm_4 : jl_pm.all (fun q => bif Nat.beq (jx_ty q.1) 3 then (List.range (jx_ln q.1)).all (fun j => jl_pm.contains (jx_ek q.1, jx_eo q.1 + j)) else true) = true := by decide +kernel
