def ty_tab (D : jx_D) : List (Nat × jx_A) := [(0, jx_load 0 1), (1, jx_gI 14 1 4), (4, jx_st1 3 5), (5, jx_push (vi 1) 6), (6, jx_st1 4 8), (8, jx_load 4 10), (10, jx_load 0 11), (11, jx_gI 14 3 14), (14, jx_cge 56 17), (17, jx_load 4 19), (19, jx_load 1 20), (20, jx_cI D 57 2 23), (23, jx_eq0 50 26), (26, jx_load 4 28), (28, jx_load 2 29), (29, jx_cI D 57 2 32), (32, jx_ne0 50 35), (35, jx_load 3 36), (36, jx_load 0 37), (37, jx_gR 14 18 (fun _ => 0) 40), (40, jx_load 4 42), (42, jx_iald 43), (43, jx_cI D 58 1 46), (46, jx_cI D 59 2 49), (49, jx_st1 3 50), (50, jx_inc 4 1 53), (53, jx_go 8), (56, jx_load 3 57), (57, jx_rI)]
theorem ty_tl (D : jx_D) : ∀ pc, jx_tl (jx_look (ty_tab D) pc) := sorry
def ty_nm : Nat → List jx_V → List jx_V := jx_nms [(8, [true, true, true, true, true])]
noncomputable def ty_F8 (D : jx_D) (a b x y : Int32) (h : jx_H) : Option jx_R := jx_den (jx_look (ty_tab D)) ty_nm 8 [vr 14 0, vi a, vi b, vi x, vi y] [] h
noncomputable def ty_F50 (D : jx_D) (a b x y : Int32) (h : jx_H) : Option jx_R := jx_den (jx_look (ty_tab D)) ty_nm 50 [vr 14 0, vi a, vi b, vi x, vi y] [] h
set_option maxRecDepth 100000 in
theorem ty_e8 (D : jx_D) (a b x y : Int32) (h : jx_H) : ty_F8 D a b x y h =
   (if y < h.1 14 0 3 then
     jx_bI (D 57 [vi y, vi a] h) fun z1 h1 =>
     (if z1 = 0 then ty_F50 D a b x y h1 else
     jx_bI (D 57 [vi y, vi b] h1) fun z2 h2 =>
     (if z2 = 0 then
      (if jx_in y 256 then
       jx_bI (D 58 [vi (h2.1 18 0 y.toNatClampNeg)] h2) fun z3 h3 =>
       jx_bI (D 59 [vi x, vi z3] h3) fun z4 h4 =>
       ty_F50 D a b z4 y h4 else none)
      else ty_F50 D a b x y h2))
    else some ([vi x], h)) := (jx_it_eq (ty_tl D) (jx_mem [8, 50]) 30 _ _ _ _).trans rfl
set_option maxRecDepth 100000 in
theorem ty_e50 (D : jx_D) (a b x y : Int32) (h : jx_H) : ty_F50 D a b x y h = ty_F8 D a b x (y + 1) h := (jx_it_eq (ty_tl D) (jx_mem [8, 50]) 30 _ _ _ _).trans rfl
