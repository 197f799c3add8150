noncomputable def F110_0 (D : jx_D) (h : jx_H) : Option jx_R := jx_den (jx_look (tb_110 D)) (jx_nms mk_110) 0 [vr 30 0] [] h
set_option maxRecDepth 1000000 in
set_option maxHeartbeats 4000000 in
theorem e110_0 (D : jx_D) (h : jx_H) : F110_0 D h = (jx_if ((h.1 30 0 7) = 0) ((jx_bI (D 111 [vr 30 0, vi ((-6) : Int32)] h) fun y1 h1 => some ([vi y1], h1))) ((jx_bV (D 112 [vr 30 0, vr 38 0, vi ((84 : Int32) * (((h.1 30 0 7) - (1 : Int32))))] (jx_sI h 30 0 7 ((h.1 30 0 7) - (1 : Int32)))) fun h2 => some ([vi (h2.1 30 0 7)], h2)))) := (jx_it_eq (tl_m110 D) (jx_mem []) 27 _ _ _ _).trans rfl
noncomputable def F111_0 (D : jx_D) (x1 : Int32) (h : jx_H) : Option jx_R := jx_den (jx_look (tb_111 D)) (jx_nms mk_111) 0 [vr 30 0, vi x1] [] h
set_option maxRecDepth 1000000 in
set_option maxHeartbeats 4000000 in
theorem e111_0 (D : jx_D) (x1 : Int32) (h : jx_H) : F111_0 D x1 h = some ([vi x1], (jx_sI h 30 0 16 ((h.1 30 0 16) + (1 : Int32)))) := (jx_it_eq (tl_m111 D) (jx_mem []) 11 _ _ _ _).trans rfl
noncomputable def F112a_0 (D : jx_D) (x2 : Int32) (h : jx_H) : Option jx_R := jx_den (jx_look (tb_112 D)) (jx_nms mk_112) 0 [vr 30 0, vr 38 0, vi x2, vn] [] h
noncomputable def F112a_9 (D : jx_D) (x2 : Int32) (h : jx_H) : Option jx_R := jx_den (jx_look (tb_112 D)) (jx_nms mk_112) 9 [vr 30 0, vr 38 0, vi x2, vn] [] h
noncomputable def F112a_18 (D : jx_D) (x2 : Int32) (h : jx_H) : Option jx_R := jx_den (jx_look (tb_112 D)) (jx_nms mk_112) 18 [vr 30 0, vr 38 0, vi x2, vn] [] h
noncomputable def F112a_33 (D : jx_D) (x2 : Int32) (s0 : Int32) (h : jx_H) : Option jx_R := jx_den (jx_look (tb_112 D)) (jx_nms mk_112) 33 [vr 30 0, vr 38 0, vi x2, vn] [vi s0, vr 30 0] h
noncomputable def F112a_36 (D : jx_D) (x2 : Int32) (h : jx_H) : Option jx_R := jx_den (jx_look (tb_112 D)) (jx_nms mk_112) 36 [vr 30 0, vr 38 0, vi x2, vn] [] h
noncomputable def F112a_38 (D : jx_D) (x2 : Int32) (x3 : Int32) (h : jx_H) : Option jx_R := jx_den (jx_look (tb_112 D)) (jx_nms mk_112) 38 [vr 30 0, vr 38 0, vi x2, vi x3] [] h
noncomputable def F112a_61 (D : jx_D) (x2 : Int32) (x3 : Int32) (h : jx_H) : Option jx_R := jx_den (jx_look (tb_112 D)) (jx_nms mk_112) 61 [vr 30 0, vr 38 0, vi x2, vi x3] [] h
noncomputable def F112a_78 (D : jx_D) (x2 : Int32) (x3 : Int32) (h : jx_H) : Option jx_R := jx_den (jx_look (tb_112 D)) (jx_nms mk_112) 78 [vr 30 0, vr 38 0, vi x2, vi x3] [] h
noncomputable def F112a_95 (D : jx_D) (x2 : Int32) (x3 : Int32) (h : jx_H) : Option jx_R := jx_den (jx_look (tb_112 D)) (jx_nms mk_112) 95 [vr 30 0, vr 38 0, vi x2, vi x3] [] h
noncomputable def F112a_112 (D : jx_D) (x2 : Int32) (x3 : Int32) (h : jx_H) : Option jx_R := jx_den (jx_look (tb_112 D)) (jx_nms mk_112) 112 [vr 30 0, vr 38 0, vi x2, vi x3] [] h
set_option maxRecDepth 1000000 in
set_option maxHeartbeats 4000000 in
theorem e112a_0 (D : jx_D) (x2 : Int32) (h : jx_H) : F112a_0 D x2 h = (jx_if (jx_in (x2 + (0 : Int32)) 2520) (F112a_9 D x2 (jx_sI h 30 0 0 (h.1 38 0 ((x2 + (0 : Int32)).toNatClampNeg)))) none) := (jx_it_eq (tl_m112 D) (jx_mem [9, 18, 33, 36, 38, 61, 78, 95, 112]) 96 _ _ _ _).trans rfl
set_option maxRecDepth 1000000 in
set_option maxHeartbeats 4000000 in
theorem e112a_9 (D : jx_D) (x2 : Int32) (h : jx_H) : F112a_9 D x2 h = (jx_if (jx_in (x2 + (1 : Int32)) 2520) (F112a_18 D x2 (jx_sI h 30 0 1 (h.1 38 0 ((x2 + (1 : Int32)).toNatClampNeg)))) none) := (jx_it_eq (tl_m112 D) (jx_mem [9, 18, 33, 36, 38, 61, 78, 95, 112]) 96 _ _ _ _).trans rfl
set_option maxRecDepth 1000000 in
set_option maxHeartbeats 4000000 in
theorem e112a_18 (D : jx_D) (x2 : Int32) (h : jx_H) : F112a_18 D x2 h = (jx_if (jx_in (x2 + (2 : Int32)) 2520) ((jx_if ((h.1 38 0 ((x2 + (2 : Int32)).toNatClampNeg)) = (1 : Int32)) (F112a_33 D x2 (1 : Int32) h) (F112a_33 D x2 (0 : Int32) h))) none) := (jx_it_eq (tl_m112 D) (jx_mem [9, 18, 33, 36, 38, 61, 78, 95, 112]) 96 _ _ _ _).trans rfl
set_option maxRecDepth 1000000 in
set_option maxHeartbeats 4000000 in
theorem e112a_33 (D : jx_D) (x2 : Int32) (s0 : Int32) (h : jx_H) : F112a_33 D x2 s0 h = (jx_if (s0 = 0 ∨ s0 = 1) (F112a_36 D x2 (jx_sI h 30 0 2 s0)) none) := (jx_it_eq (tl_m112 D) (jx_mem [9, 18, 33, 36, 38, 61, 78, 95, 112]) 96 _ _ _ _).trans rfl
set_option maxRecDepth 1000000 in
set_option maxHeartbeats 4000000 in
theorem e112a_36 (D : jx_D) (x2 : Int32) (h : jx_H) : F112a_36 D x2 h = F112a_38 D x2 (0 : Int32) h := (jx_it_eq (tl_m112 D) (jx_mem [9, 18, 33, 36, 38, 61, 78, 95, 112]) 96 _ _ _ _).trans rfl
set_option maxRecDepth 1000000 in
set_option maxHeartbeats 4000000 in
theorem e112a_38 (D : jx_D) (x2 : Int32) (x3 : Int32) (h : jx_H) : F112a_38 D x2 x3 h = (jx_if (x3 < (h.1 30 0 1)) ((jx_if (jx_in ((x2 + (4 : Int32)) + ((4 : Int32) * x3)) 2520) ((jx_if (jx_in x3 50) (F112a_61 D x2 x3 (jx_sI h 33 0 x3.toNatClampNeg (h.1 38 0 (((x2 + (4 : Int32)) + ((4 : Int32) * x3)).toNatClampNeg)))) none)) none)) (some ([], h))) := (jx_it_eq (tl_m112 D) (jx_mem [9, 18, 33, 36, 38, 61, 78, 95, 112]) 96 _ _ _ _).trans rfl
set_option maxRecDepth 1000000 in
set_option maxHeartbeats 4000000 in
theorem e112a_61 (D : jx_D) (x2 : Int32) (x3 : Int32) (h : jx_H) : F112a_61 D x2 x3 h = (jx_if (jx_in (((x2 + (4 : Int32)) + ((4 : Int32) * x3)) + (1 : Int32)) 2520) ((jx_if (jx_in x3 50) (F112a_78 D x2 x3 (jx_sI h 34 0 x3.toNatClampNeg (h.1 38 0 ((((x2 + (4 : Int32)) + ((4 : Int32) * x3)) + (1 : Int32)).toNatClampNeg)))) none)) none) := (jx_it_eq (tl_m112 D) (jx_mem [9, 18, 33, 36, 38, 61, 78, 95, 112]) 96 _ _ _ _).trans rfl
set_option maxRecDepth 1000000 in
set_option maxHeartbeats 4000000 in
theorem e112a_78 (D : jx_D) (x2 : Int32) (x3 : Int32) (h : jx_H) : F112a_78 D x2 x3 h = (jx_if (jx_in (((x2 + (4 : Int32)) + ((4 : Int32) * x3)) + (2 : Int32)) 2520) ((jx_if (jx_in x3 20) (F112a_95 D x2 x3 (jx_sI h 35 0 x3.toNatClampNeg (h.1 38 0 ((((x2 + (4 : Int32)) + ((4 : Int32) * x3)) + (2 : Int32)).toNatClampNeg)))) none)) none) := (jx_it_eq (tl_m112 D) (jx_mem [9, 18, 33, 36, 38, 61, 78, 95, 112]) 96 _ _ _ _).trans rfl
set_option maxRecDepth 1000000 in
set_option maxHeartbeats 4000000 in
theorem e112a_95 (D : jx_D) (x2 : Int32) (x3 : Int32) (h : jx_H) : F112a_95 D x2 x3 h = (jx_if (jx_in (((x2 + (4 : Int32)) + ((4 : Int32) * x3)) + (3 : Int32)) 2520) ((jx_if (jx_in x3 20) (F112a_112 D x2 x3 (jx_sI h 36 0 x3.toNatClampNeg (h.1 38 0 ((((x2 + (4 : Int32)) + ((4 : Int32) * x3)) + (3 : Int32)).toNatClampNeg)))) none)) none) := (jx_it_eq (tl_m112 D) (jx_mem [9, 18, 33, 36, 38, 61, 78, 95, 112]) 96 _ _ _ _).trans rfl
set_option maxRecDepth 1000000 in
set_option maxHeartbeats 4000000 in
theorem e112a_112 (D : jx_D) (x2 : Int32) (x3 : Int32) (h : jx_H) : F112a_112 D x2 x3 h = F112a_38 D x2 (x3 + 1) h := (jx_it_eq (tl_m112 D) (jx_mem [9, 18, 33, 36, 38, 61, 78, 95, 112]) 96 _ _ _ _).trans rfl
noncomputable def F112b_0 (D : jx_D) (x2 : Int32) (h : jx_H) : Option jx_R := jx_den (jx_look (tb_112 D)) (jx_nms mk_112) 0 [vr 30 0, vr 39 0, vi x2, vn] [] h
noncomputable def F112b_9 (D : jx_D) (x2 : Int32) (h : jx_H) : Option jx_R := jx_den (jx_look (tb_112 D)) (jx_nms mk_112) 9 [vr 30 0, vr 39 0, vi x2, vn] [] h
noncomputable def F112b_18 (D : jx_D) (x2 : Int32) (h : jx_H) : Option jx_R := jx_den (jx_look (tb_112 D)) (jx_nms mk_112) 18 [vr 30 0, vr 39 0, vi x2, vn] [] h
noncomputable def F112b_33 (D : jx_D) (x2 : Int32) (s0 : Int32) (h : jx_H) : Option jx_R := jx_den (jx_look (tb_112 D)) (jx_nms mk_112) 33 [vr 30 0, vr 39 0, vi x2, vn] [vi s0, vr 30 0] h
noncomputable def F112b_36 (D : jx_D) (x2 : Int32) (h : jx_H) : Option jx_R := jx_den (jx_look (tb_112 D)) (jx_nms mk_112) 36 [vr 30 0, vr 39 0, vi x2, vn] [] h
noncomputable def F112b_38 (D : jx_D) (x2 : Int32) (x3 : Int32) (h : jx_H) : Option jx_R := jx_den (jx_look (tb_112 D)) (jx_nms mk_112) 38 [vr 30 0, vr 39 0, vi x2, vi x3] [] h
noncomputable def F112b_61 (D : jx_D) (x2 : Int32) (x3 : Int32) (h : jx_H) : Option jx_R := jx_den (jx_look (tb_112 D)) (jx_nms mk_112) 61 [vr 30 0, vr 39 0, vi x2, vi x3] [] h
noncomputable def F112b_78 (D : jx_D) (x2 : Int32) (x3 : Int32) (h : jx_H) : Option jx_R := jx_den (jx_look (tb_112 D)) (jx_nms mk_112) 78 [vr 30 0, vr 39 0, vi x2, vi x3] [] h
noncomputable def F112b_95 (D : jx_D) (x2 : Int32) (x3 : Int32) (h : jx_H) : Option jx_R := jx_den (jx_look (tb_112 D)) (jx_nms mk_112) 95 [vr 30 0, vr 39 0, vi x2, vi x3] [] h
noncomputable def F112b_112 (D : jx_D) (x2 : Int32) (x3 : Int32) (h : jx_H) : Option jx_R := jx_den (jx_look (tb_112 D)) (jx_nms mk_112) 112 [vr 30 0, vr 39 0, vi x2, vi x3] [] h
set_option maxRecDepth 1000000 in
set_option maxHeartbeats 4000000 in
theorem e112b_0 (D : jx_D) (x2 : Int32) (h : jx_H) : F112b_0 D x2 h = (jx_if (jx_in (x2 + (0 : Int32)) 336) (F112b_9 D x2 (jx_sI h 30 0 0 (h.1 39 0 ((x2 + (0 : Int32)).toNatClampNeg)))) none) := (jx_it_eq (tl_m112 D) (jx_mem [9, 18, 33, 36, 38, 61, 78, 95, 112]) 96 _ _ _ _).trans rfl
set_option maxRecDepth 1000000 in
set_option maxHeartbeats 4000000 in
theorem e112b_9 (D : jx_D) (x2 : Int32) (h : jx_H) : F112b_9 D x2 h = (jx_if (jx_in (x2 + (1 : Int32)) 336) (F112b_18 D x2 (jx_sI h 30 0 1 (h.1 39 0 ((x2 + (1 : Int32)).toNatClampNeg)))) none) := (jx_it_eq (tl_m112 D) (jx_mem [9, 18, 33, 36, 38, 61, 78, 95, 112]) 96 _ _ _ _).trans rfl
set_option maxRecDepth 1000000 in
set_option maxHeartbeats 4000000 in
theorem e112b_18 (D : jx_D) (x2 : Int32) (h : jx_H) : F112b_18 D x2 h = (jx_if (jx_in (x2 + (2 : Int32)) 336) ((jx_if ((h.1 39 0 ((x2 + (2 : Int32)).toNatClampNeg)) = (1 : Int32)) (F112b_33 D x2 (1 : Int32) h) (F112b_33 D x2 (0 : Int32) h))) none) := (jx_it_eq (tl_m112 D) (jx_mem [9, 18, 33, 36, 38, 61, 78, 95, 112]) 96 _ _ _ _).trans rfl
set_option maxRecDepth 1000000 in
set_option maxHeartbeats 4000000 in
theorem e112b_33 (D : jx_D) (x2 : Int32) (s0 : Int32) (h : jx_H) : F112b_33 D x2 s0 h = (jx_if (s0 = 0 ∨ s0 = 1) (F112b_36 D x2 (jx_sI h 30 0 2 s0)) none) := (jx_it_eq (tl_m112 D) (jx_mem [9, 18, 33, 36, 38, 61, 78, 95, 112]) 96 _ _ _ _).trans rfl
set_option maxRecDepth 1000000 in
set_option maxHeartbeats 4000000 in
theorem e112b_36 (D : jx_D) (x2 : Int32) (h : jx_H) : F112b_36 D x2 h = F112b_38 D x2 (0 : Int32) h := (jx_it_eq (tl_m112 D) (jx_mem [9, 18, 33, 36, 38, 61, 78, 95, 112]) 96 _ _ _ _).trans rfl
set_option maxRecDepth 1000000 in
set_option maxHeartbeats 4000000 in
theorem e112b_38 (D : jx_D) (x2 : Int32) (x3 : Int32) (h : jx_H) : F112b_38 D x2 x3 h = (jx_if (x3 < (h.1 30 0 1)) ((jx_if (jx_in ((x2 + (4 : Int32)) + ((4 : Int32) * x3)) 336) ((jx_if (jx_in x3 50) (F112b_61 D x2 x3 (jx_sI h 33 0 x3.toNatClampNeg (h.1 39 0 (((x2 + (4 : Int32)) + ((4 : Int32) * x3)).toNatClampNeg)))) none)) none)) (some ([], h))) := (jx_it_eq (tl_m112 D) (jx_mem [9, 18, 33, 36, 38, 61, 78, 95, 112]) 96 _ _ _ _).trans rfl
set_option maxRecDepth 1000000 in
set_option maxHeartbeats 4000000 in
theorem e112b_61 (D : jx_D) (x2 : Int32) (x3 : Int32) (h : jx_H) : F112b_61 D x2 x3 h = (jx_if (jx_in (((x2 + (4 : Int32)) + ((4 : Int32) * x3)) + (1 : Int32)) 336) ((jx_if (jx_in x3 50) (F112b_78 D x2 x3 (jx_sI h 34 0 x3.toNatClampNeg (h.1 39 0 ((((x2 + (4 : Int32)) + ((4 : Int32) * x3)) + (1 : Int32)).toNatClampNeg)))) none)) none) := (jx_it_eq (tl_m112 D) (jx_mem [9, 18, 33, 36, 38, 61, 78, 95, 112]) 96 _ _ _ _).trans rfl
set_option maxRecDepth 1000000 in
set_option maxHeartbeats 4000000 in
theorem e112b_78 (D : jx_D) (x2 : Int32) (x3 : Int32) (h : jx_H) : F112b_78 D x2 x3 h = (jx_if (jx_in (((x2 + (4 : Int32)) + ((4 : Int32) * x3)) + (2 : Int32)) 336) ((jx_if (jx_in x3 20) (F112b_95 D x2 x3 (jx_sI h 35 0 x3.toNatClampNeg (h.1 39 0 ((((x2 + (4 : Int32)) + ((4 : Int32) * x3)) + (2 : Int32)).toNatClampNeg)))) none)) none) := (jx_it_eq (tl_m112 D) (jx_mem [9, 18, 33, 36, 38, 61, 78, 95, 112]) 96 _ _ _ _).trans rfl
set_option maxRecDepth 1000000 in
set_option maxHeartbeats 4000000 in
theorem e112b_95 (D : jx_D) (x2 : Int32) (x3 : Int32) (h : jx_H) : F112b_95 D x2 x3 h = (jx_if (jx_in (((x2 + (4 : Int32)) + ((4 : Int32) * x3)) + (3 : Int32)) 336) ((jx_if (jx_in x3 20) (F112b_112 D x2 x3 (jx_sI h 36 0 x3.toNatClampNeg (h.1 39 0 ((((x2 + (4 : Int32)) + ((4 : Int32) * x3)) + (3 : Int32)).toNatClampNeg)))) none)) none) := (jx_it_eq (tl_m112 D) (jx_mem [9, 18, 33, 36, 38, 61, 78, 95, 112]) 96 _ _ _ _).trans rfl
set_option maxRecDepth 1000000 in
set_option maxHeartbeats 4000000 in
theorem e112b_112 (D : jx_D) (x2 : Int32) (x3 : Int32) (h : jx_H) : F112b_112 D x2 x3 h = F112b_38 D x2 (x3 + 1) h := (jx_it_eq (tl_m112 D) (jx_mem [9, 18, 33, 36, 38, 61, 78, 95, 112]) 96 _ _ _ _).trans rfl
noncomputable def F113_0 (D : jx_D) (x1 : Int32) (h : jx_H) : Option jx_R := jx_den (jx_look (tb_113 D)) (jx_nms mk_113) 0 [vr 30 0, vi x1, vn] [] h
set_option maxRecDepth 1000000 in
set_option maxHeartbeats 4000000 in
theorem e113_0 (D : jx_D) (x1 : Int32) (h : jx_H) : F113_0 D x1 h = (jx_bV (D 114 [vr 30 0] h) fun h1 => (jx_if (x1 = 0 ∨ x1 = 1) (some ([vi (h1.1 30 0 0)], (jx_sI (jx_sI (jx_sI h1 30 0 0 (0 : Int32)) 30 0 1 (0 : Int32)) 30 0 2 x1))) none)) := (jx_it_eq (tl_m113 D) (jx_mem []) 19 _ _ _ _).trans rfl
noncomputable def F114_0 (D : jx_D) (h : jx_H) : Option jx_R := jx_den (jx_look (tb_114 D)) (jx_nms mk_114) 0 [vr 30 0, vn] [] h
noncomputable def F114_11 (D : jx_D) (x1 : Int32) (h : jx_H) : Option jx_R := jx_den (jx_look (tb_114 D)) (jx_nms mk_114) 11 [vr 30 0, vi x1] [] h
noncomputable def F114_49 (D : jx_D) (h : jx_H) : Option jx_R := jx_den (jx_look (tb_114 D)) (jx_nms mk_114) 49 [vr 30 0, vn] [] h
set_option maxRecDepth 1000000 in
set_option maxHeartbeats 4000000 in
theorem e114_0 (D : jx_D) (h : jx_H) : F114_0 D h = (jx_if ((h.1 30 0 7) = (30 : Int32)) (F114_11 D (0 : Int32) h) (F114_49 D h)) := (jx_it_eq (tl_m114 D) (jx_mem [11, 49]) 45 _ _ _ _).trans rfl
set_option maxRecDepth 1000000 in
set_option maxHeartbeats 4000000 in
theorem e114_11 (D : jx_D) (x1 : Int32) (h : jx_H) : F114_11 D x1 h = (jx_if (x1 < (2436 : Int32)) ((jx_if (jx_in (x1 + (84 : Int32)) 2520) ((jx_if (jx_in x1 2520) (F114_11 D (x1 + 1) (jx_sI h 38 0 x1.toNatClampNeg (h.1 38 0 ((x1 + (84 : Int32)).toNatClampNeg)))) none)) none)) (F114_49 D (jx_sI h 30 0 7 ((h.1 30 0 7) - (1 : Int32))))) := (jx_it_eq (tl_m114 D) (jx_mem [11, 49]) 45 _ _ _ _).trans rfl
set_option maxRecDepth 1000000 in
set_option maxHeartbeats 4000000 in
theorem e114_49 (D : jx_D) (h : jx_H) : F114_49 D h = (jx_bV (D 115 [vr 30 0, vr 38 0, vi ((84 : Int32) * (h.1 30 0 7))] h) fun h1 => some ([], (jx_sI h1 30 0 7 ((h1.1 30 0 7) + (1 : Int32))))) := (jx_it_eq (tl_m114 D) (jx_mem [11, 49]) 45 _ _ _ _).trans rfl
noncomputable def F115a_0 (D : jx_D) (x2 : Int32) (h : jx_H) : Option jx_R := jx_den (jx_look (tb_115 D)) (jx_nms mk_115) 0 [vr 30 0, vr 38 0, vi x2, vn] [] h
noncomputable def F115a_9 (D : jx_D) (x2 : Int32) (h : jx_H) : Option jx_R := jx_den (jx_look (tb_115 D)) (jx_nms mk_115) 9 [vr 30 0, vr 38 0, vi x2, vn] [] h
noncomputable def F115a_18 (D : jx_D) (x2 : Int32) (h : jx_H) : Option jx_R := jx_den (jx_look (tb_115 D)) (jx_nms mk_115) 18 [vr 30 0, vr 38 0, vi x2, vn] [] h
noncomputable def F115a_34 (D : jx_D) (x2 : Int32) (s0 : Int32) (s1 : Int32) (h : jx_H) : Option jx_R := jx_den (jx_look (tb_115 D)) (jx_nms mk_115) 34 [vr 30 0, vr 38 0, vi x2, vn] [vi s0, vi s1, vr 38 0] h
noncomputable def F115a_35 (D : jx_D) (x2 : Int32) (h : jx_H) : Option jx_R := jx_den (jx_look (tb_115 D)) (jx_nms mk_115) 35 [vr 30 0, vr 38 0, vi x2, vn] [] h
noncomputable def F115a_37 (D : jx_D) (x2 : Int32) (x3 : Int32) (h : jx_H) : Option jx_R := jx_den (jx_look (tb_115 D)) (jx_nms mk_115) 37 [vr 30 0, vr 38 0, vi x2, vi x3] [] h
noncomputable def F115a_60 (D : jx_D) (x2 : Int32) (x3 : Int32) (h : jx_H) : Option jx_R := jx_den (jx_look (tb_115 D)) (jx_nms mk_115) 60 [vr 30 0, vr 38 0, vi x2, vi x3] [] h
noncomputable def F115a_77 (D : jx_D) (x2 : Int32) (x3 : Int32) (h : jx_H) : Option jx_R := jx_den (jx_look (tb_115 D)) (jx_nms mk_115) 77 [vr 30 0, vr 38 0, vi x2, vi x3] [] h
noncomputable def F115a_94 (D : jx_D) (x2 : Int32) (x3 : Int32) (h : jx_H) : Option jx_R := jx_den (jx_look (tb_115 D)) (jx_nms mk_115) 94 [vr 30 0, vr 38 0, vi x2, vi x3] [] h
noncomputable def F115a_111 (D : jx_D) (x2 : Int32) (x3 : Int32) (h : jx_H) : Option jx_R := jx_den (jx_look (tb_115 D)) (jx_nms mk_115) 111 [vr 30 0, vr 38 0, vi x2, vi x3] [] h
set_option maxRecDepth 1000000 in
set_option maxHeartbeats 4000000 in
theorem e115a_0 (D : jx_D) (x2 : Int32) (h : jx_H) : F115a_0 D x2 h = (jx_if (jx_in (x2 + (0 : Int32)) 2520) (F115a_9 D x2 (jx_sI h 38 0 ((x2 + (0 : Int32)).toNatClampNeg) (h.1 30 0 0))) none) := (jx_it_eq (tl_m115 D) (jx_mem [9, 18, 34, 35, 37, 60, 77, 94, 111]) 95 _ _ _ _).trans rfl
set_option maxRecDepth 1000000 in
set_option maxHeartbeats 4000000 in
theorem e115a_9 (D : jx_D) (x2 : Int32) (h : jx_H) : F115a_9 D x2 h = (jx_if (jx_in (x2 + (1 : Int32)) 2520) (F115a_18 D x2 (jx_sI h 38 0 ((x2 + (1 : Int32)).toNatClampNeg) (h.1 30 0 1))) none) := (jx_it_eq (tl_m115 D) (jx_mem [9, 18, 34, 35, 37, 60, 77, 94, 111]) 95 _ _ _ _).trans rfl
set_option maxRecDepth 1000000 in
set_option maxHeartbeats 4000000 in
theorem e115a_18 (D : jx_D) (x2 : Int32) (h : jx_H) : F115a_18 D x2 h = (jx_if ((h.1 30 0 2) = 0) (F115a_34 D x2 (0 : Int32) (x2 + (2 : Int32)) h) (F115a_34 D x2 (1 : Int32) (x2 + (2 : Int32)) h)) := (jx_it_eq (tl_m115 D) (jx_mem [9, 18, 34, 35, 37, 60, 77, 94, 111]) 95 _ _ _ _).trans rfl
set_option maxRecDepth 1000000 in
set_option maxHeartbeats 4000000 in
theorem e115a_34 (D : jx_D) (x2 : Int32) (s0 : Int32) (s1 : Int32) (h : jx_H) : F115a_34 D x2 s0 s1 h = (jx_if (jx_in s1 2520) (F115a_35 D x2 (jx_sI h 38 0 s1.toNatClampNeg s0)) none) := (jx_it_eq (tl_m115 D) (jx_mem [9, 18, 34, 35, 37, 60, 77, 94, 111]) 95 _ _ _ _).trans rfl
set_option maxRecDepth 1000000 in
set_option maxHeartbeats 4000000 in
theorem e115a_35 (D : jx_D) (x2 : Int32) (h : jx_H) : F115a_35 D x2 h = F115a_37 D x2 (0 : Int32) h := (jx_it_eq (tl_m115 D) (jx_mem [9, 18, 34, 35, 37, 60, 77, 94, 111]) 95 _ _ _ _).trans rfl
set_option maxRecDepth 1000000 in
set_option maxHeartbeats 4000000 in
theorem e115a_37 (D : jx_D) (x2 : Int32) (x3 : Int32) (h : jx_H) : F115a_37 D x2 x3 h = (jx_if (x3 < (h.1 30 0 1)) ((jx_if (jx_in x3 50) ((jx_if (jx_in ((x2 + (4 : Int32)) + ((4 : Int32) * x3)) 2520) (F115a_60 D x2 x3 (jx_sI h 38 0 (((x2 + (4 : Int32)) + ((4 : Int32) * x3)).toNatClampNeg) (h.1 33 0 x3.toNatClampNeg))) none)) none)) (some ([], h))) := (jx_it_eq (tl_m115 D) (jx_mem [9, 18, 34, 35, 37, 60, 77, 94, 111]) 95 _ _ _ _).trans rfl
set_option maxRecDepth 1000000 in
set_option maxHeartbeats 4000000 in
theorem e115a_60 (D : jx_D) (x2 : Int32) (x3 : Int32) (h : jx_H) : F115a_60 D x2 x3 h = (jx_if (jx_in x3 50) ((jx_if (jx_in (((x2 + (4 : Int32)) + ((4 : Int32) * x3)) + (1 : Int32)) 2520) (F115a_77 D x2 x3 (jx_sI h 38 0 ((((x2 + (4 : Int32)) + ((4 : Int32) * x3)) + (1 : Int32)).toNatClampNeg) (h.1 34 0 x3.toNatClampNeg))) none)) none) := (jx_it_eq (tl_m115 D) (jx_mem [9, 18, 34, 35, 37, 60, 77, 94, 111]) 95 _ _ _ _).trans rfl
set_option maxRecDepth 1000000 in
set_option maxHeartbeats 4000000 in
theorem e115a_77 (D : jx_D) (x2 : Int32) (x3 : Int32) (h : jx_H) : F115a_77 D x2 x3 h = (jx_if (jx_in x3 20) ((jx_if (jx_in (((x2 + (4 : Int32)) + ((4 : Int32) * x3)) + (2 : Int32)) 2520) (F115a_94 D x2 x3 (jx_sI h 38 0 ((((x2 + (4 : Int32)) + ((4 : Int32) * x3)) + (2 : Int32)).toNatClampNeg) (h.1 35 0 x3.toNatClampNeg))) none)) none) := (jx_it_eq (tl_m115 D) (jx_mem [9, 18, 34, 35, 37, 60, 77, 94, 111]) 95 _ _ _ _).trans rfl
set_option maxRecDepth 1000000 in
set_option maxHeartbeats 4000000 in
theorem e115a_94 (D : jx_D) (x2 : Int32) (x3 : Int32) (h : jx_H) : F115a_94 D x2 x3 h = (jx_if (jx_in x3 20) ((jx_if (jx_in (((x2 + (4 : Int32)) + ((4 : Int32) * x3)) + (3 : Int32)) 2520) (F115a_111 D x2 x3 (jx_sI h 38 0 ((((x2 + (4 : Int32)) + ((4 : Int32) * x3)) + (3 : Int32)).toNatClampNeg) (h.1 36 0 x3.toNatClampNeg))) none)) none) := (jx_it_eq (tl_m115 D) (jx_mem [9, 18, 34, 35, 37, 60, 77, 94, 111]) 95 _ _ _ _).trans rfl
set_option maxRecDepth 1000000 in
set_option maxHeartbeats 4000000 in
theorem e115a_111 (D : jx_D) (x2 : Int32) (x3 : Int32) (h : jx_H) : F115a_111 D x2 x3 h = F115a_37 D x2 (x3 + 1) h := (jx_it_eq (tl_m115 D) (jx_mem [9, 18, 34, 35, 37, 60, 77, 94, 111]) 95 _ _ _ _).trans rfl
noncomputable def F115b_0 (D : jx_D) (x2 : Int32) (h : jx_H) : Option jx_R := jx_den (jx_look (tb_115 D)) (jx_nms mk_115) 0 [vr 30 0, vr 39 0, vi x2, vn] [] h
noncomputable def F115b_9 (D : jx_D) (x2 : Int32) (h : jx_H) : Option jx_R := jx_den (jx_look (tb_115 D)) (jx_nms mk_115) 9 [vr 30 0, vr 39 0, vi x2, vn] [] h
noncomputable def F115b_18 (D : jx_D) (x2 : Int32) (h : jx_H) : Option jx_R := jx_den (jx_look (tb_115 D)) (jx_nms mk_115) 18 [vr 30 0, vr 39 0, vi x2, vn] [] h
noncomputable def F115b_34 (D : jx_D) (x2 : Int32) (s0 : Int32) (s1 : Int32) (h : jx_H) : Option jx_R := jx_den (jx_look (tb_115 D)) (jx_nms mk_115) 34 [vr 30 0, vr 39 0, vi x2, vn] [vi s0, vi s1, vr 39 0] h
noncomputable def F115b_35 (D : jx_D) (x2 : Int32) (h : jx_H) : Option jx_R := jx_den (jx_look (tb_115 D)) (jx_nms mk_115) 35 [vr 30 0, vr 39 0, vi x2, vn] [] h
noncomputable def F115b_37 (D : jx_D) (x2 : Int32) (x3 : Int32) (h : jx_H) : Option jx_R := jx_den (jx_look (tb_115 D)) (jx_nms mk_115) 37 [vr 30 0, vr 39 0, vi x2, vi x3] [] h
noncomputable def F115b_60 (D : jx_D) (x2 : Int32) (x3 : Int32) (h : jx_H) : Option jx_R := jx_den (jx_look (tb_115 D)) (jx_nms mk_115) 60 [vr 30 0, vr 39 0, vi x2, vi x3] [] h
noncomputable def F115b_77 (D : jx_D) (x2 : Int32) (x3 : Int32) (h : jx_H) : Option jx_R := jx_den (jx_look (tb_115 D)) (jx_nms mk_115) 77 [vr 30 0, vr 39 0, vi x2, vi x3] [] h
noncomputable def F115b_94 (D : jx_D) (x2 : Int32) (x3 : Int32) (h : jx_H) : Option jx_R := jx_den (jx_look (tb_115 D)) (jx_nms mk_115) 94 [vr 30 0, vr 39 0, vi x2, vi x3] [] h
noncomputable def F115b_111 (D : jx_D) (x2 : Int32) (x3 : Int32) (h : jx_H) : Option jx_R := jx_den (jx_look (tb_115 D)) (jx_nms mk_115) 111 [vr 30 0, vr 39 0, vi x2, vi x3] [] h
set_option maxRecDepth 1000000 in
set_option maxHeartbeats 4000000 in
theorem e115b_0 (D : jx_D) (x2 : Int32) (h : jx_H) : F115b_0 D x2 h = (jx_if (jx_in (x2 + (0 : Int32)) 336) (F115b_9 D x2 (jx_sI h 39 0 ((x2 + (0 : Int32)).toNatClampNeg) (h.1 30 0 0))) none) := (jx_it_eq (tl_m115 D) (jx_mem [9, 18, 34, 35, 37, 60, 77, 94, 111]) 95 _ _ _ _).trans rfl
set_option maxRecDepth 1000000 in
set_option maxHeartbeats 4000000 in
theorem e115b_9 (D : jx_D) (x2 : Int32) (h : jx_H) : F115b_9 D x2 h = (jx_if (jx_in (x2 + (1 : Int32)) 336) (F115b_18 D x2 (jx_sI h 39 0 ((x2 + (1 : Int32)).toNatClampNeg) (h.1 30 0 1))) none) := (jx_it_eq (tl_m115 D) (jx_mem [9, 18, 34, 35, 37, 60, 77, 94, 111]) 95 _ _ _ _).trans rfl
set_option maxRecDepth 1000000 in
set_option maxHeartbeats 4000000 in
theorem e115b_18 (D : jx_D) (x2 : Int32) (h : jx_H) : F115b_18 D x2 h = (jx_if ((h.1 30 0 2) = 0) (F115b_34 D x2 (0 : Int32) (x2 + (2 : Int32)) h) (F115b_34 D x2 (1 : Int32) (x2 + (2 : Int32)) h)) := (jx_it_eq (tl_m115 D) (jx_mem [9, 18, 34, 35, 37, 60, 77, 94, 111]) 95 _ _ _ _).trans rfl
set_option maxRecDepth 1000000 in
set_option maxHeartbeats 4000000 in
theorem e115b_34 (D : jx_D) (x2 : Int32) (s0 : Int32) (s1 : Int32) (h : jx_H) : F115b_34 D x2 s0 s1 h = (jx_if (jx_in s1 336) (F115b_35 D x2 (jx_sI h 39 0 s1.toNatClampNeg s0)) none) := (jx_it_eq (tl_m115 D) (jx_mem [9, 18, 34, 35, 37, 60, 77, 94, 111]) 95 _ _ _ _).trans rfl
set_option maxRecDepth 1000000 in
set_option maxHeartbeats 4000000 in
theorem e115b_35 (D : jx_D) (x2 : Int32) (h : jx_H) : F115b_35 D x2 h = F115b_37 D x2 (0 : Int32) h := (jx_it_eq (tl_m115 D) (jx_mem [9, 18, 34, 35, 37, 60, 77, 94, 111]) 95 _ _ _ _).trans rfl
set_option maxRecDepth 1000000 in
set_option maxHeartbeats 4000000 in
theorem e115b_37 (D : jx_D) (x2 : Int32) (x3 : Int32) (h : jx_H) : F115b_37 D x2 x3 h = (jx_if (x3 < (h.1 30 0 1)) ((jx_if (jx_in x3 50) ((jx_if (jx_in ((x2 + (4 : Int32)) + ((4 : Int32) * x3)) 336) (F115b_60 D x2 x3 (jx_sI h 39 0 (((x2 + (4 : Int32)) + ((4 : Int32) * x3)).toNatClampNeg) (h.1 33 0 x3.toNatClampNeg))) none)) none)) (some ([], h))) := (jx_it_eq (tl_m115 D) (jx_mem [9, 18, 34, 35, 37, 60, 77, 94, 111]) 95 _ _ _ _).trans rfl
set_option maxRecDepth 1000000 in
set_option maxHeartbeats 4000000 in
theorem e115b_60 (D : jx_D) (x2 : Int32) (x3 : Int32) (h : jx_H) : F115b_60 D x2 x3 h = (jx_if (jx_in x3 50) ((jx_if (jx_in (((x2 + (4 : Int32)) + ((4 : Int32) * x3)) + (1 : Int32)) 336) (F115b_77 D x2 x3 (jx_sI h 39 0 ((((x2 + (4 : Int32)) + ((4 : Int32) * x3)) + (1 : Int32)).toNatClampNeg) (h.1 34 0 x3.toNatClampNeg))) none)) none) := (jx_it_eq (tl_m115 D) (jx_mem [9, 18, 34, 35, 37, 60, 77, 94, 111]) 95 _ _ _ _).trans rfl
set_option maxRecDepth 1000000 in
set_option maxHeartbeats 4000000 in
theorem e115b_77 (D : jx_D) (x2 : Int32) (x3 : Int32) (h : jx_H) : F115b_77 D x2 x3 h = (jx_if (jx_in x3 20) ((jx_if (jx_in (((x2 + (4 : Int32)) + ((4 : Int32) * x3)) + (2 : Int32)) 336) (F115b_94 D x2 x3 (jx_sI h 39 0 ((((x2 + (4 : Int32)) + ((4 : Int32) * x3)) + (2 : Int32)).toNatClampNeg) (h.1 35 0 x3.toNatClampNeg))) none)) none) := (jx_it_eq (tl_m115 D) (jx_mem [9, 18, 34, 35, 37, 60, 77, 94, 111]) 95 _ _ _ _).trans rfl
set_option maxRecDepth 1000000 in
set_option maxHeartbeats 4000000 in
theorem e115b_94 (D : jx_D) (x2 : Int32) (x3 : Int32) (h : jx_H) : F115b_94 D x2 x3 h = (jx_if (jx_in x3 20) ((jx_if (jx_in (((x2 + (4 : Int32)) + ((4 : Int32) * x3)) + (3 : Int32)) 336) (F115b_111 D x2 x3 (jx_sI h 39 0 ((((x2 + (4 : Int32)) + ((4 : Int32) * x3)) + (3 : Int32)).toNatClampNeg) (h.1 36 0 x3.toNatClampNeg))) none)) none) := (jx_it_eq (tl_m115 D) (jx_mem [9, 18, 34, 35, 37, 60, 77, 94, 111]) 95 _ _ _ _).trans rfl
set_option maxRecDepth 1000000 in
set_option maxHeartbeats 4000000 in
theorem e115b_111 (D : jx_D) (x2 : Int32) (x3 : Int32) (h : jx_H) : F115b_111 D x2 x3 h = F115b_37 D x2 (x3 + 1) h := (jx_it_eq (tl_m115 D) (jx_mem [9, 18, 34, 35, 37, 60, 77, 94, 111]) 95 _ _ _ _).trans rfl
noncomputable def F116_0 (D : jx_D) (h : jx_H) : Option jx_R := jx_den (jx_look (tb_116 D)) (jx_nms mk_116) 0 [vr 30 0] [] h
set_option maxRecDepth 1000000 in
set_option maxHeartbeats 4000000 in
theorem e116_0 (D : jx_D) (h : jx_H) : F116_0 D h = (jx_if ((h.1 30 0 0) = (8 : Int32)) ((jx_bI (D 111 [vr 30 0, vi ((-5) : Int32)] h) fun y1 h1 => some ([vi y1], h1))) ((jx_bV (D 114 [vr 30 0] h) fun h2 => some ([vi ((((h2.1 30 0 0) + (1 : Int32))) - (1 : Int32))], (jx_sI h2 30 0 0 ((h2.1 30 0 0) + (1 : Int32))))))) := (jx_it_eq (tl_m116 D) (jx_mem []) 24 _ _ _ _).trans rfl
noncomputable def F117_0 (D : jx_D) (x1 : Int32) (x2 : Int32) (h : jx_H) : Option jx_R := jx_den (jx_look (tb_117 D)) (jx_nms mk_117) 0 [vr 30 0, vi x1, vi x2] [] h
noncomputable def F117_16 (D : jx_D) (h : jx_H) : Option jx_R := jx_den (jx_look (tb_117 D)) (jx_nms mk_117) 16 [vr 30 0, vn, vn] [] h
set_option maxRecDepth 1000000 in
set_option maxHeartbeats 4000000 in
theorem e117_0 (D : jx_D) (x1 : Int32) (x2 : Int32) (h : jx_H) : F117_0 D x1 x2 h = (jx_bI (D 118 [vr 30 0, vi x1] h) fun y1 h1 => (jx_if (y1 = 0) (F117_16 D h1) ((jx_bI (D 118 [vr 30 0, vi x2] h1) fun y2 h2 => (jx_if (y2 = 0) (F117_16 D h2) ((jx_if (x1 = x2) ((jx_bI (D 111 [vr 30 0, vi ((-3) : Int32)] h2) fun y3 h3 => some ([vi y3], h3))) ((jx_if ((h2.1 30 0 1) = (20 : Int32)) ((jx_bI (D 111 [vr 30 0, vi ((-5) : Int32)] h2) fun y4 h4 => some ([vi y4], h4))) ((jx_bV (D 114 [vr 30 0] h2) fun h5 => (jx_bV (D 119 [vr 30 0, vi x1, vi x2] h5) fun h6 => some ([vi ((h6.1 30 0 1) - (1 : Int32))], h6))))))))))))) := (jx_it_eq (tl_m117 D) (jx_mem [16]) 41 _ _ _ _).trans rfl
set_option maxRecDepth 1000000 in
set_option maxHeartbeats 4000000 in
theorem e117_16 (D : jx_D) (h : jx_H) : F117_16 D h = (jx_bI (D 111 [vr 30 0, vi ((-1) : Int32)] h) fun y1 h1 => some ([vi y1], h1)) := (jx_it_eq (tl_m117 D) (jx_mem [16]) 41 _ _ _ _).trans rfl
noncomputable def F118_0 (D : jx_D) (x1 : Int32) (h : jx_H) : Option jx_R := jx_den (jx_look (tb_118 D)) (jx_nms mk_118) 0 [vr 30 0, vi x1] [] h
noncomputable def F118_16 (D : jx_D) (h : jx_H) : Option jx_R := jx_den (jx_look (tb_118 D)) (jx_nms mk_118) 16 [vn, vn] [] h
noncomputable def F118_17 (D : jx_D) (s0 : Int32) (h : jx_H) : Option jx_R := jx_den (jx_look (tb_118 D)) (jx_nms mk_118) 17 [vn, vn] [vi s0] h
set_option maxRecDepth 1000000 in
set_option maxHeartbeats 4000000 in
theorem e118_0 (D : jx_D) (x1 : Int32) (h : jx_H) : F118_0 D x1 h = (jx_if (x1 < 0) (F118_16 D h) ((jx_if (x1 < (h.1 30 0 0)) (F118_17 D (1 : Int32) h) (F118_16 D h)))) := (jx_it_eq (tl_m118 D) (jx_mem [16, 17]) 13 _ _ _ _).trans rfl
set_option maxRecDepth 1000000 in
set_option maxHeartbeats 4000000 in
theorem e118_16 (D : jx_D) (h : jx_H) : F118_16 D h = F118_17 D (0 : Int32) h := (jx_it_eq (tl_m118 D) (jx_mem [16, 17]) 13 _ _ _ _).trans rfl
set_option maxRecDepth 1000000 in
set_option maxHeartbeats 4000000 in
theorem e118_17 (D : jx_D) (s0 : Int32) (h : jx_H) : F118_17 D s0 h = (jx_if (s0 = 0 ∨ s0 = 1) (some ([vi s0], h)) none) := (jx_it_eq (tl_m118 D) (jx_mem [16, 17]) 13 _ _ _ _).trans rfl
noncomputable def F119_0 (D : jx_D) (x1 : Int32) (x2 : Int32) (h : jx_H) : Option jx_R := jx_den (jx_look (tb_119 D)) (jx_nms mk_119) 0 [vr 30 0, vi x1, vi x2] [] h
set_option maxRecDepth 1000000 in
set_option maxHeartbeats 4000000 in
theorem e119_0 (D : jx_D) (x1 : Int32) (x2 : Int32) (h : jx_H) : F119_0 D x1 x2 h = (jx_if (jx_in (h.1 30 0 1) 50) ((jx_if (jx_in (h.1 30 0 1) 50) ((jx_if (jx_in (h.1 30 0 1) 20) ((jx_if (jx_in (h.1 30 0 1) 20) (some ([], (jx_sI (jx_sI (jx_sI (jx_sI (jx_sI h 33 0 ((h.1 30 0 1).toNatClampNeg) x1) 34 0 ((h.1 30 0 1).toNatClampNeg) x2) 35 0 ((h.1 30 0 1).toNatClampNeg) (1 : Int32)) 36 0 ((h.1 30 0 1).toNatClampNeg) (4 : Int32)) 30 0 1 ((h.1 30 0 1) + (1 : Int32))))) none)) none)) none)) none) := (jx_it_eq (tl_m119 D) (jx_mem []) 34 _ _ _ _).trans rfl
noncomputable def F120_0 (D : jx_D) (x1 : Int32) (x2 : Int32) (x3 : Int32) (h : jx_H) : Option jx_R := jx_den (jx_look (tb_120 D)) (jx_nms mk_120) 0 [vr 30 0, vi x1, vi x2, vi x3, vn] [] h
noncomputable def F120_28 (D : jx_D) (h : jx_H) : Option jx_R := jx_den (jx_look (tb_120 D)) (jx_nms mk_120) 28 [vr 30 0, vn, vn, vn, vn] [] h
noncomputable def F120_25 (D : jx_D) (x1 : Int32) (x2 : Int32) (x3 : Int32) (s0 : Int32) (s1 : Int32) (h : jx_H) : Option jx_R := jx_den (jx_look (tb_120 D)) (jx_nms mk_120) 25 [vr 30 0, vi x1, vi x2, vi x3, vn] [vi s0, vi s1] h
noncomputable def F120_57 (D : jx_D) (x1 : Int32) (x2 : Int32) (x3 : Int32) (s0 : Int32) (h : jx_H) : Option jx_R := jx_den (jx_look (tb_120 D)) (jx_nms mk_120) 57 [vr 30 0, vi x1, vi x2, vi x3, vn] [vi s0] h
noncomputable def F120_80 (D : jx_D) (x4 : Int32) (h : jx_H) : Option jx_R := jx_den (jx_look (tb_120 D)) (jx_nms mk_120) 80 [vn, vn, vn, vn, vi x4] [] h
set_option maxRecDepth 1000000 in
set_option maxHeartbeats 4000000 in
theorem e120_0 (D : jx_D) (x1 : Int32) (x2 : Int32) (x3 : Int32) (h : jx_H) : F120_0 D x1 x2 x3 h = (jx_bI (D 121 [vr 30 0, vi x1] h) fun y1 h1 => (jx_if (y1 = 0) (F120_28 D h1) ((jx_if (x3 < 0) (F120_28 D h1) ((jx_if (x2 = 0) (F120_25 D x1 x2 x3 (1000 : Int32) x3 h1) (F120_25 D x1 x2 x3 (8 : Int32) x3 h1))))))) := (jx_it_eq (tl_m120 D) (jx_mem [25, 28, 57, 80]) 49 _ _ _ _).trans rfl
set_option maxRecDepth 1000000 in
set_option maxHeartbeats 4000000 in
theorem e120_28 (D : jx_D) (h : jx_H) : F120_28 D h = (jx_bI (D 111 [vr 30 0, vi ((-1) : Int32)] h) fun y1 h1 => some ([vi y1], h1)) := (jx_it_eq (tl_m120 D) (jx_mem [25, 28, 57, 80]) 49 _ _ _ _).trans rfl
set_option maxRecDepth 1000000 in
set_option maxHeartbeats 4000000 in
theorem e120_25 (D : jx_D) (x1 : Int32) (x2 : Int32) (x3 : Int32) (s0 : Int32) (s1 : Int32) (h : jx_H) : F120_25 D x1 x2 x3 s0 s1 h = (jx_if (s1 ≤ s0) ((jx_bV (D 114 [vr 30 0] h) fun h1 => (jx_if (x2 = 0) ((jx_if (jx_in x1 20) (F120_57 D x1 x2 x3 (h1.1 35 0 x1.toNatClampNeg) h1) none)) ((jx_if (jx_in x1 20) (F120_57 D x1 x2 x3 (h1.1 36 0 x1.toNatClampNeg) h1) none))))) (F120_28 D h)) := (jx_it_eq (tl_m120 D) (jx_mem [25, 28, 57, 80]) 49 _ _ _ _).trans rfl
set_option maxRecDepth 1000000 in
set_option maxHeartbeats 4000000 in
theorem e120_57 (D : jx_D) (x1 : Int32) (x2 : Int32) (x3 : Int32) (s0 : Int32) (h : jx_H) : F120_57 D x1 x2 x3 s0 h = (jx_if (x2 = 0) ((jx_if (jx_in x1 20) (F120_80 D s0 (jx_sI h 35 0 x1.toNatClampNeg x3)) none)) ((jx_if (jx_in x1 20) (F120_80 D s0 (jx_sI h 36 0 x1.toNatClampNeg x3)) none))) := (jx_it_eq (tl_m120 D) (jx_mem [25, 28, 57, 80]) 49 _ _ _ _).trans rfl
set_option maxRecDepth 1000000 in
set_option maxHeartbeats 4000000 in
theorem e120_80 (D : jx_D) (x4 : Int32) (h : jx_H) : F120_80 D x4 h = some ([vi x4], h) := (jx_it_eq (tl_m120 D) (jx_mem [25, 28, 57, 80]) 49 _ _ _ _).trans rfl
noncomputable def F121_0 (D : jx_D) (x1 : Int32) (h : jx_H) : Option jx_R := jx_den (jx_look (tb_121 D)) (jx_nms mk_121) 0 [vr 30 0, vi x1] [] h
noncomputable def F121_16 (D : jx_D) (h : jx_H) : Option jx_R := jx_den (jx_look (tb_121 D)) (jx_nms mk_121) 16 [vn, vn] [] h
noncomputable def F121_17 (D : jx_D) (s0 : Int32) (h : jx_H) : Option jx_R := jx_den (jx_look (tb_121 D)) (jx_nms mk_121) 17 [vn, vn] [vi s0] h
set_option maxRecDepth 1000000 in
set_option maxHeartbeats 4000000 in
theorem e121_0 (D : jx_D) (x1 : Int32) (h : jx_H) : F121_0 D x1 h = (jx_if (x1 < 0) (F121_16 D h) ((jx_if (x1 < (h.1 30 0 1)) (F121_17 D (1 : Int32) h) (F121_16 D h)))) := (jx_it_eq (tl_m121 D) (jx_mem [16, 17]) 13 _ _ _ _).trans rfl
set_option maxRecDepth 1000000 in
set_option maxHeartbeats 4000000 in
theorem e121_16 (D : jx_D) (h : jx_H) : F121_16 D h = F121_17 D (0 : Int32) h := (jx_it_eq (tl_m121 D) (jx_mem [16, 17]) 13 _ _ _ _).trans rfl
set_option maxRecDepth 1000000 in
set_option maxHeartbeats 4000000 in
theorem e121_17 (D : jx_D) (s0 : Int32) (h : jx_H) : F121_17 D s0 h = (jx_if (s0 = 0 ∨ s0 = 1) (some ([vi s0], h)) none) := (jx_it_eq (tl_m121 D) (jx_mem [16, 17]) 13 _ _ _ _).trans rfl
noncomputable def F122_0 (D : jx_D) (x1 : Int32) (h : jx_H) : Option jx_R := jx_den (jx_look (tb_122 D)) (jx_nms mk_122) 0 [vr 30 0, vi x1] [] h
set_option maxRecDepth 1000000 in
set_option maxHeartbeats 4000000 in
theorem e122_0 (D : jx_D) (x1 : Int32) (h : jx_H) : F122_0 D x1 h = (jx_bI (D 121 [vr 30 0, vi x1] h) fun y1 h1 => (jx_if (y1 = 0) ((jx_bI (D 111 [vr 30 0, vi ((-1) : Int32)] h1) fun y2 h2 => some ([vi y2], h2))) ((jx_bV (D 114 [vr 30 0] h1) fun h3 => (jx_bV (D 123 [vr 30 0, vi x1] h3) fun h4 => some ([vi (h4.1 30 0 1)], h4)))))) := (jx_it_eq (tl_m122 D) (jx_mem []) 19 _ _ _ _).trans rfl
noncomputable def F123_0 (D : jx_D) (x1 : Int32) (h : jx_H) : Option jx_R := jx_den (jx_look (tb_123 D)) (jx_nms mk_123) 0 [vr 30 0, vi x1, vn] [] h
noncomputable def F123_10 (D : jx_D) (x1 : Int32) (h : jx_H) : Option jx_R := jx_den (jx_look (tb_123 D)) (jx_nms mk_123) 10 [vr 30 0, vi x1, vn] [] h
noncomputable def F123_12 (D : jx_D) (x2 : Int32) (h : jx_H) : Option jx_R := jx_den (jx_look (tb_123 D)) (jx_nms mk_123) 12 [vr 30 0, vn, vi x2] [] h
noncomputable def F123_34 (D : jx_D) (x2 : Int32) (h : jx_H) : Option jx_R := jx_den (jx_look (tb_123 D)) (jx_nms mk_123) 34 [vr 30 0, vn, vi x2] [] h
noncomputable def F123_48 (D : jx_D) (x2 : Int32) (h : jx_H) : Option jx_R := jx_den (jx_look (tb_123 D)) (jx_nms mk_123) 48 [vr 30 0, vn, vi x2] [] h
noncomputable def F123_62 (D : jx_D) (x2 : Int32) (h : jx_H) : Option jx_R := jx_den (jx_look (tb_123 D)) (jx_nms mk_123) 62 [vr 30 0, vn, vi x2] [] h
noncomputable def F123_76 (D : jx_D) (x2 : Int32) (h : jx_H) : Option jx_R := jx_den (jx_look (tb_123 D)) (jx_nms mk_123) 76 [vr 30 0, vn, vi x2] [] h
set_option maxRecDepth 1000000 in
set_option maxHeartbeats 4000000 in
theorem e123_0 (D : jx_D) (x1 : Int32) (h : jx_H) : F123_0 D x1 h = F123_10 D x1 (jx_sI h 30 0 1 ((h.1 30 0 1) - (1 : Int32))) := (jx_it_eq (tl_m123 D) (jx_mem [10, 12, 34, 48, 62, 76]) 58 _ _ _ _).trans rfl
set_option maxRecDepth 1000000 in
set_option maxHeartbeats 4000000 in
theorem e123_10 (D : jx_D) (x1 : Int32) (h : jx_H) : F123_10 D x1 h = F123_12 D x1 h := (jx_it_eq (tl_m123 D) (jx_mem [10, 12, 34, 48, 62, 76]) 58 _ _ _ _).trans rfl
set_option maxRecDepth 1000000 in
set_option maxHeartbeats 4000000 in
theorem e123_12 (D : jx_D) (x2 : Int32) (h : jx_H) : F123_12 D x2 h = (jx_if (x2 < (h.1 30 0 1)) ((jx_if (jx_in (x2 + (1 : Int32)) 50) ((jx_if (jx_in x2 50) (F123_34 D x2 (jx_sI h 33 0 x2.toNatClampNeg (h.1 33 0 ((x2 + (1 : Int32)).toNatClampNeg)))) none)) none)) (some ([], h))) := (jx_it_eq (tl_m123 D) (jx_mem [10, 12, 34, 48, 62, 76]) 58 _ _ _ _).trans rfl
set_option maxRecDepth 1000000 in
set_option maxHeartbeats 4000000 in
theorem e123_34 (D : jx_D) (x2 : Int32) (h : jx_H) : F123_34 D x2 h = (jx_if (jx_in (x2 + (1 : Int32)) 50) ((jx_if (jx_in x2 50) (F123_48 D x2 (jx_sI h 34 0 x2.toNatClampNeg (h.1 34 0 ((x2 + (1 : Int32)).toNatClampNeg)))) none)) none) := (jx_it_eq (tl_m123 D) (jx_mem [10, 12, 34, 48, 62, 76]) 58 _ _ _ _).trans rfl
set_option maxRecDepth 1000000 in
set_option maxHeartbeats 4000000 in
theorem e123_48 (D : jx_D) (x2 : Int32) (h : jx_H) : F123_48 D x2 h = (jx_if (jx_in (x2 + (1 : Int32)) 20) ((jx_if (jx_in x2 20) (F123_62 D x2 (jx_sI h 35 0 x2.toNatClampNeg (h.1 35 0 ((x2 + (1 : Int32)).toNatClampNeg)))) none)) none) := (jx_it_eq (tl_m123 D) (jx_mem [10, 12, 34, 48, 62, 76]) 58 _ _ _ _).trans rfl
set_option maxRecDepth 1000000 in
set_option maxHeartbeats 4000000 in
theorem e123_62 (D : jx_D) (x2 : Int32) (h : jx_H) : F123_62 D x2 h = (jx_if (jx_in (x2 + (1 : Int32)) 20) ((jx_if (jx_in x2 20) (F123_76 D x2 (jx_sI h 36 0 x2.toNatClampNeg (h.1 36 0 ((x2 + (1 : Int32)).toNatClampNeg)))) none)) none) := (jx_it_eq (tl_m123 D) (jx_mem [10, 12, 34, 48, 62, 76]) 58 _ _ _ _).trans rfl
set_option maxRecDepth 1000000 in
set_option maxHeartbeats 4000000 in
theorem e123_76 (D : jx_D) (x2 : Int32) (h : jx_H) : F123_76 D x2 h = F123_12 D (x2 + 1) h := (jx_it_eq (tl_m123 D) (jx_mem [10, 12, 34, 48, 62, 76]) 58 _ _ _ _).trans rfl
noncomputable def F124_0 (D : jx_D) (x1 : Int32) (x2 : Int32) (h : jx_H) : Option jx_R := jx_den (jx_look (tb_124 D)) (jx_nms mk_124) 0 [vr 30 0, vi x1, vi x2, vn] [] h
noncomputable def F124_16 (D : jx_D) (h : jx_H) : Option jx_R := jx_den (jx_look (tb_124 D)) (jx_nms mk_124) 16 [vr 30 0, vn, vn, vn] [] h
noncomputable def F124_45 (D : jx_D) (x1 : Int32) (x2 : Int32) (x3 : Int32) (h : jx_H) : Option jx_R := jx_den (jx_look (tb_124 D)) (jx_nms mk_124) 45 [vr 30 0, vi x1, vi x2, vi x3] [] h
noncomputable def F124_103 (D : jx_D) (x1 : Int32) (x2 : Int32) (x3 : Int32) (h : jx_H) : Option jx_R := jx_den (jx_look (tb_124 D)) (jx_nms mk_124) 103 [vr 30 0, vi x1, vi x2, vi x3] [] h
set_option maxRecDepth 1000000 in
set_option maxHeartbeats 4000000 in
theorem e124_0 (D : jx_D) (x1 : Int32) (x2 : Int32) (h : jx_H) : F124_0 D x1 x2 h = (jx_bI (D 118 [vr 30 0, vi x1] h) fun y1 h1 => (jx_if (y1 = 0) (F124_16 D h1) ((jx_bI (D 118 [vr 30 0, vi x2] h1) fun y2 h2 => (jx_if (y2 = 0) (F124_16 D h2) ((jx_if (x1 < x2) ((jx_bV (D 114 [vr 30 0] h2) fun h3 => F124_45 D x1 x2 ((h3.1 30 0 1) - (1 : Int32)) h3)) ((jx_bI (D 111 [vr 30 0, vi ((-3) : Int32)] h2) fun y4 h4 => some ([vi y4], h4)))))))))) := (jx_it_eq (tl_m124 D) (jx_mem [16, 45, 103]) 76 _ _ _ _).trans rfl
set_option maxRecDepth 1000000 in
set_option maxHeartbeats 4000000 in
theorem e124_16 (D : jx_D) (h : jx_H) : F124_16 D h = (jx_bI (D 111 [vr 30 0, vi ((-1) : Int32)] h) fun y1 h1 => some ([vi y1], h1)) := (jx_it_eq (tl_m124 D) (jx_mem [16, 45, 103]) 76 _ _ _ _).trans rfl
set_option maxRecDepth 1000000 in
set_option maxHeartbeats 4000000 in
theorem e124_45 (D : jx_D) (x1 : Int32) (x2 : Int32) (x3 : Int32) (h : jx_H) : F124_45 D x1 x2 x3 h = (jx_if (x3 < 0) (some ([vi (((h.1 30 0 0) - (1 : Int32)))], (jx_sI h 30 0 0 ((h.1 30 0 0) - (1 : Int32))))) ((jx_if (jx_in x3 50) ((jx_bI (D 125 [vi (h.1 33 0 x3.toNatClampNeg), vi x1, vi x2] h) fun y1 h1 => (jx_if (jx_in x3 50) ((jx_if (jx_in x3 50) ((jx_bI (D 125 [vi (h1.1 34 0 x3.toNatClampNeg), vi x1, vi x2] (jx_sI h1 33 0 x3.toNatClampNeg y1)) fun y2 h2 => (jx_if (jx_in x3 50) ((jx_if (jx_in x3 50) ((jx_if (jx_in x3 50) ((jx_if ((h2.1 33 0 x3.toNatClampNeg) = ((jx_sI h2 34 0 x3.toNatClampNeg y2).1 34 0 x3.toNatClampNeg)) ((jx_bV (D 123 [vr 30 0, vi x3] (jx_sI h2 34 0 x3.toNatClampNeg y2)) fun h3 => F124_103 D x1 x2 x3 h3)) (F124_103 D x1 x2 x3 (jx_sI h2 34 0 x3.toNatClampNeg y2)))) none)) none)) none))) none)) none))) none))) := (jx_it_eq (tl_m124 D) (jx_mem [16, 45, 103]) 76 _ _ _ _).trans rfl
set_option maxRecDepth 1000000 in
set_option maxHeartbeats 4000000 in
theorem e124_103 (D : jx_D) (x1 : Int32) (x2 : Int32) (x3 : Int32) (h : jx_H) : F124_103 D x1 x2 x3 h = F124_45 D x1 x2 (x3 + (-1)) h := (jx_it_eq (tl_m124 D) (jx_mem [16, 45, 103]) 76 _ _ _ _).trans rfl
noncomputable def F125_0 (D : jx_D) (x0 : Int32) (x1 : Int32) (x2 : Int32) (h : jx_H) : Option jx_R := jx_den (jx_look (tb_125 D)) (jx_nms mk_125) 0 [vi x0, vi x1, vi x2] [] h
noncomputable def F125_21 (D : jx_D) (s0 : Int32) (h : jx_H) : Option jx_R := jx_den (jx_look (tb_125 D)) (jx_nms mk_125) 21 [vn, vn, vn] [vi s0] h
set_option maxRecDepth 1000000 in
set_option maxHeartbeats 4000000 in
theorem e125_0 (D : jx_D) (x0 : Int32) (x1 : Int32) (x2 : Int32) (h : jx_H) : F125_0 D x0 x1 x2 h = (jx_if (x0 = x2) (F125_21 D x1 h) ((jx_if (x0 ≤ x2) (F125_21 D x0 h) (F125_21 D (x0 - (1 : Int32)) h)))) := (jx_it_eq (tl_m125 D) (jx_mem [21]) 17 _ _ _ _).trans rfl
set_option maxRecDepth 1000000 in
set_option maxHeartbeats 4000000 in
theorem e125_21 (D : jx_D) (s0 : Int32) (h : jx_H) : F125_21 D s0 h = some ([vi s0], h) := (jx_it_eq (tl_m125 D) (jx_mem [21]) 17 _ _ _ _).trans rfl
noncomputable def F126_0 (D : jx_D) (x1 : Int32) (x2 : Int32) (h : jx_H) : Option jx_R := jx_den (jx_look (tb_126 D)) (jx_nms mk_126) 0 [vr 30 0, vi x1, vi x2] [] h
noncomputable def F126_17 (D : jx_D) (h : jx_H) : Option jx_R := jx_den (jx_look (tb_126 D)) (jx_nms mk_126) 17 [vr 30 0, vn, vn] [] h
noncomputable def F126_70 (D : jx_D) (s0 : Int32) (h : jx_H) : Option jx_R := jx_den (jx_look (tb_126 D)) (jx_nms mk_126) 70 [vn, vn, vn] [vi s0] h
set_option maxRecDepth 1000000 in
set_option maxHeartbeats 4000000 in
theorem e126_0 (D : jx_D) (x1 : Int32) (x2 : Int32) (h : jx_H) : F126_0 D x1 x2 h = (jx_bI (D 121 [vr 30 0, vi x1] h) fun y1 h1 => (jx_if (y1 = 0) (F126_17 D h1) ((jx_if (x2 < 0) (F126_17 D h1) ((jx_if (x2 ≤ (3 : Int32)) ((jx_if (x2 = 0) ((jx_if (jx_in x1 50) (F126_70 D (h1.1 33 0 x1.toNatClampNeg) h1) none)) ((jx_if (x2 = (1 : Int32)) ((jx_if (jx_in x1 50) (F126_70 D (h1.1 34 0 x1.toNatClampNeg) h1) none)) ((jx_if (x2 = (2 : Int32)) ((jx_if (jx_in x1 20) (F126_70 D (h1.1 35 0 x1.toNatClampNeg) h1) none)) ((jx_if (jx_in x1 20) (F126_70 D (h1.1 36 0 x1.toNatClampNeg) h1) none)))))))) (F126_17 D h1))))))) := (jx_it_eq (tl_m126 D) (jx_mem [17, 70]) 44 _ _ _ _).trans rfl
set_option maxRecDepth 1000000 in
set_option maxHeartbeats 4000000 in
theorem e126_17 (D : jx_D) (h : jx_H) : F126_17 D h = (jx_bI (D 111 [vr 30 0, vi ((-1) : Int32)] h) fun y1 h1 => some ([vi y1], h1)) := (jx_it_eq (tl_m126 D) (jx_mem [17, 70]) 44 _ _ _ _).trans rfl
set_option maxRecDepth 1000000 in
set_option maxHeartbeats 4000000 in
theorem e126_70 (D : jx_D) (s0 : Int32) (h : jx_H) : F126_70 D s0 h = some ([vi s0], h) := (jx_it_eq (tl_m126 D) (jx_mem [17, 70]) 44 _ _ _ _).trans rfl
noncomputable def F127_0 (D : jx_D) (x1 : Int32) (x2 : Int32) (x3 : Int32) (h : jx_H) : Option jx_R := jx_den (jx_look (tb_127 D)) (jx_nms mk_127) 0 [vr 30 0, vi x1, vi x2, vi x3, vn] [] h
noncomputable def F127_29 (D : jx_D) (h : jx_H) : Option jx_R := jx_den (jx_look (tb_127 D)) (jx_nms mk_127) 29 [vr 30 0, vn, vn, vn, vn] [] h
noncomputable def F127_35 (D : jx_D) (x1 : Int32) (x2 : Int32) (x3 : Int32) (h : jx_H) : Option jx_R := jx_den (jx_look (tb_127 D)) (jx_nms mk_127) 35 [vr 30 0, vi x1, vi x2, vi x3, vn] [] h
noncomputable def F127_79 (D : jx_D) (x1 : Int32) (s0 : Int32) (s1 : Int32) (h : jx_H) : Option jx_R := jx_den (jx_look (tb_127 D)) (jx_nms mk_127) 79 [vr 30 0, vi x1, vn, vn, vn] [vi s0, vi s1, vr 42 0] h
noncomputable def F127_83 (D : jx_D) (x1 : Int32) (x4 : Int32) (h : jx_H) : Option jx_R := jx_den (jx_look (tb_127 D)) (jx_nms mk_127) 83 [vr 30 0, vi x1, vn, vn, vi x4] [] h
set_option maxRecDepth 1000000 in
set_option maxHeartbeats 4000000 in
theorem e127_0 (D : jx_D) (x1 : Int32) (x2 : Int32) (x3 : Int32) (h : jx_H) : F127_0 D x1 x2 x3 h = (jx_bI (D 128 [vi x1] h) fun y1 h1 => (jx_if (y1 = 0) (F127_29 D h1) ((jx_if (x2 = 0) (F127_35 D x1 x2 x3 h1) ((jx_if (x2 = (8 : Int32)) (F127_35 D x1 x2 x3 h1) ((jx_if (x2 = (16 : Int32)) (F127_35 D x1 x2 x3 h1) ((jx_if (x2 = (32 : Int32)) (F127_35 D x1 x2 x3 h1) (F127_29 D h1))))))))))) := (jx_it_eq (tl_m127 D) (jx_mem [29, 35, 79, 83]) 69 _ _ _ _).trans rfl
set_option maxRecDepth 1000000 in
set_option maxHeartbeats 4000000 in
theorem e127_29 (D : jx_D) (h : jx_H) : F127_29 D h = (jx_bI (D 111 [vr 30 0, vi ((-1) : Int32)] h) fun y1 h1 => some ([vi y1], h1)) := (jx_it_eq (tl_m127 D) (jx_mem [29, 35, 79, 83]) 69 _ _ _ _).trans rfl
set_option maxRecDepth 1000000 in
set_option maxHeartbeats 4000000 in
theorem e127_35 (D : jx_D) (x1 : Int32) (x2 : Int32) (x3 : Int32) (h : jx_H) : F127_35 D x1 x2 x3 h = (jx_if (x3 < 0) ((jx_bI (D 111 [vr 30 0, vi ((-3) : Int32)] h) fun y1 h1 => some ([vi y1], h1))) ((jx_if (x3 ≤ (24 : Int32)) ((jx_if (jx_in x1 4) ((jx_if (x2 = 0) (F127_79 D x1 (0 : Int32) x1 (jx_sI h 41 0 x1.toNatClampNeg x2)) (F127_79 D x1 x3 x1 (jx_sI h 41 0 x1.toNatClampNeg x2)))) none)) ((jx_bI (D 111 [vr 30 0, vi ((-1) : Int32)] h) fun y2 h2 => some ([vi y2], h2)))))) := (jx_it_eq (tl_m127 D) (jx_mem [29, 35, 79, 83]) 69 _ _ _ _).trans rfl
set_option maxRecDepth 1000000 in
set_option maxHeartbeats 4000000 in
theorem e127_79 (D : jx_D) (x1 : Int32) (s0 : Int32) (s1 : Int32) (h : jx_H) : F127_79 D x1 s0 s1 h = (jx_if (jx_in s1 4) (F127_83 D x1 (0 : Int32) (jx_sI h 42 0 s1.toNatClampNeg s0)) none) := (jx_it_eq (tl_m127 D) (jx_mem [29, 35, 79, 83]) 69 _ _ _ _).trans rfl
set_option maxRecDepth 1000000 in
set_option maxHeartbeats 4000000 in
theorem e127_83 (D : jx_D) (x1 : Int32) (x4 : Int32) (h : jx_H) : F127_83 D x1 x4 h = (jx_if (x4 < (24 : Int32)) ((jx_if (jx_in (((24 : Int32) * x1) + x4) 96) (F127_83 D x1 (x4 + 1) (jx_sI h 43 0 ((((24 : Int32) * x1) + x4).toNatClampNeg) (0 : Int32))) none)) ((jx_if (jx_in x1 4) (some ([vi (h.1 42 0 x1.toNatClampNeg)], h)) none))) := (jx_it_eq (tl_m127 D) (jx_mem [29, 35, 79, 83]) 69 _ _ _ _).trans rfl
noncomputable def F128_0 (D : jx_D) (x0 : Int32) (h : jx_H) : Option jx_R := jx_den (jx_look (tb_128 D)) (jx_nms mk_128) 0 [vi x0] [] h
noncomputable def F128_13 (D : jx_D) (h : jx_H) : Option jx_R := jx_den (jx_look (tb_128 D)) (jx_nms mk_128) 13 [vn] [] h
noncomputable def F128_14 (D : jx_D) (s0 : Int32) (h : jx_H) : Option jx_R := jx_den (jx_look (tb_128 D)) (jx_nms mk_128) 14 [vn] [vi s0] h
set_option maxRecDepth 1000000 in
set_option maxHeartbeats 4000000 in
theorem e128_0 (D : jx_D) (x0 : Int32) (h : jx_H) : F128_0 D x0 h = (jx_if (x0 < 0) (F128_13 D h) ((jx_if (x0 < (4 : Int32)) (F128_14 D (1 : Int32) h) (F128_13 D h)))) := (jx_it_eq (tl_m128 D) (jx_mem [13, 14]) 12 _ _ _ _).trans rfl
set_option maxRecDepth 1000000 in
set_option maxHeartbeats 4000000 in
theorem e128_13 (D : jx_D) (h : jx_H) : F128_13 D h = F128_14 D (0 : Int32) h := (jx_it_eq (tl_m128 D) (jx_mem [13, 14]) 12 _ _ _ _).trans rfl
set_option maxRecDepth 1000000 in
set_option maxHeartbeats 4000000 in
theorem e128_14 (D : jx_D) (s0 : Int32) (h : jx_H) : F128_14 D s0 h = (jx_if (s0 = 0 ∨ s0 = 1) (some ([vi s0], h)) none) := (jx_it_eq (tl_m128 D) (jx_mem [13, 14]) 12 _ _ _ _).trans rfl
noncomputable def F129_0 (D : jx_D) (x1 : Int32) (x2 : Int32) (x3 : Int32) (h : jx_H) : Option jx_R := jx_den (jx_look (tb_129 D)) (jx_nms mk_129) 0 [vr 30 0, vi x1, vi x2, vi x3] [] h
noncomputable def F129_43 (D : jx_D) (h : jx_H) : Option jx_R := jx_den (jx_look (tb_129 D)) (jx_nms mk_129) 43 [vr 30 0, vn, vn, vn] [] h
noncomputable def F129_92 (D : jx_D) (s0 : Int32) (s1 : Int32) (h : jx_H) : Option jx_R := jx_den (jx_look (tb_129 D)) (jx_nms mk_129) 92 [vn, vn, vn, vn] [vi s0, vi s1, vr 43 0] h
set_option maxRecDepth 1000000 in
set_option maxHeartbeats 4000000 in
theorem e129_0 (D : jx_D) (x1 : Int32) (x2 : Int32) (x3 : Int32) (h : jx_H) : F129_0 D x1 x2 x3 h = (jx_bI (D 128 [vi x1] h) fun y1 h1 => (jx_if (y1 = 0) ((jx_bI (D 111 [vr 30 0, vi ((-1) : Int32)] h1) fun y2 h2 => some ([vi y2], h2))) ((jx_if (jx_in x1 4) ((jx_if ((h1.1 41 0 x1.toNatClampNeg) = 0) ((jx_bI (D 111 [vr 30 0, vi ((-2) : Int32)] h1) fun y3 h3 => some ([vi y3], h3))) ((jx_if (x2 < 0) (F129_43 D h1) ((jx_if (jx_in x1 4) ((jx_if (x2 < (h1.1 42 0 x1.toNatClampNeg)) ((jx_if (jx_in x1 4) ((jx_if ((h1.1 41 0 x1.toNatClampNeg) = (8 : Int32)) (F129_92 D (x3.toInt8.toInt32) (((24 : Int32) * x1) + x2) h1) ((jx_if (jx_in x1 4) ((jx_if ((h1.1 41 0 x1.toNatClampNeg) = (16 : Int32)) (F129_92 D (x3.toInt16.toInt32) (((24 : Int32) * x1) + x2) h1) (F129_92 D x3 (((24 : Int32) * x1) + x2) h1))) none)))) none)) (F129_43 D h1))) none)))))) none)))) := (jx_it_eq (tl_m129 D) (jx_mem [43, 92]) 60 _ _ _ _).trans rfl
set_option maxRecDepth 1000000 in
set_option maxHeartbeats 4000000 in
theorem e129_43 (D : jx_D) (h : jx_H) : F129_43 D h = (jx_bI (D 111 [vr 30 0, vi ((-1) : Int32)] h) fun y1 h1 => some ([vi y1], h1)) := (jx_it_eq (tl_m129 D) (jx_mem [43, 92]) 60 _ _ _ _).trans rfl
set_option maxRecDepth 1000000 in
set_option maxHeartbeats 4000000 in
theorem e129_92 (D : jx_D) (s0 : Int32) (s1 : Int32) (h : jx_H) : F129_92 D s0 s1 h = (jx_if (jx_in s1 96) (some ([vi (0 : Int32)], (jx_sI h 43 0 s1.toNatClampNeg s0))) none) := (jx_it_eq (tl_m129 D) (jx_mem [43, 92]) 60 _ _ _ _).trans rfl
noncomputable def F130_0 (D : jx_D) (x1 : Int32) (x2 : Int32) (x3 : Int32) (x4 : Int32) (x5 : Int32) (h : jx_H) : Option jx_R := jx_den (jx_look (tb_130 D)) (jx_nms mk_130) 0 [vr 30 0, vi x1, vi x2, vi x3, vi x4, vi x5, vn] [] h
noncomputable def F130_14 (D : jx_D) (h : jx_H) : Option jx_R := jx_den (jx_look (tb_130 D)) (jx_nms mk_130) 14 [vr 30 0, vn, vn, vn, vn, vn, vn] [] h
noncomputable def F130_38 (D : jx_D) (h : jx_H) : Option jx_R := jx_den (jx_look (tb_130 D)) (jx_nms mk_130) 38 [vr 30 0, vn, vn, vn, vn, vn, vn] [] h
noncomputable def F130_90 (D : jx_D) (h : jx_H) : Option jx_R := jx_den (jx_look (tb_130 D)) (jx_nms mk_130) 90 [vr 30 0, vn, vn, vn, vn, vn, vn] [] h
noncomputable def F130_99 (D : jx_D) (x1 : Int32) (x2 : Int32) (x3 : Int32) (x4 : Int32) (x5 : Int32) (x6 : Int32) (h : jx_H) : Option jx_R := jx_den (jx_look (tb_130 D)) (jx_nms mk_130) 99 [vr 30 0, vi x1, vi x2, vi x3, vi x4, vi x5, vi x6] [] h
noncomputable def F130_136 (D : jx_D) (x3 : Int32) (x4 : Int32) (x5 : Int32) (x6 : Int32) (h : jx_H) : Option jx_R := jx_den (jx_look (tb_130 D)) (jx_nms mk_130) 136 [vr 30 0, vn, vn, vi x3, vi x4, vi x5, vi x6] [] h
set_option maxRecDepth 1000000 in
set_option maxHeartbeats 4000000 in
theorem e130_0 (D : jx_D) (x1 : Int32) (x2 : Int32) (x3 : Int32) (x4 : Int32) (x5 : Int32) (h : jx_H) : F130_0 D x1 x2 x3 x4 x5 h = (jx_bI (D 128 [vi x1] h) fun y1 h1 => (jx_if (y1 = 0) (F130_14 D h1) ((jx_bI (D 128 [vi x3] h1) fun y2 h2 => (jx_if (y2 = 0) (F130_14 D h2) ((jx_if (jx_in x1 4) ((jx_if ((h2.1 41 0 x1.toNatClampNeg) = 0) (F130_38 D h2) ((jx_if (jx_in x3 4) ((jx_if ((h2.1 41 0 x3.toNatClampNeg) = 0) (F130_38 D h2) ((jx_if (jx_in x1 4) ((jx_if (jx_in x3 4) ((jx_if ((h2.1 41 0 x1.toNatClampNeg) = (h2.1 41 0 x3.toNatClampNeg)) ((jx_bI (D 131 [vr 30 0, vi x1, vi x2, vi x5] h2) fun y3 h3 => (jx_if (y3 = 0) (F130_90 D h3) ((jx_bI (D 131 [vr 30 0, vi x3, vi x4, vi x5] h3) fun y4 h4 => (jx_if (y4 = 0) (F130_90 D h4) (F130_99 D x1 x2 x3 x4 x5 (0 : Int32) h4))))))) ((jx_bI (D 111 [vr 30 0, vi ((-4) : Int32)] h2) fun y5 h5 => some ([vi y5], h5))))) none)) none)))) none)))) none))))))) := (jx_it_eq (tl_m130 D) (jx_mem [14, 38, 90, 99, 136]) 100 _ _ _ _).trans rfl
set_option maxRecDepth 1000000 in
set_option maxHeartbeats 4000000 in
theorem e130_14 (D : jx_D) (h : jx_H) : F130_14 D h = (jx_bI (D 111 [vr 30 0, vi ((-1) : Int32)] h) fun y1 h1 => some ([vi y1], h1)) := (jx_it_eq (tl_m130 D) (jx_mem [14, 38, 90, 99, 136]) 100 _ _ _ _).trans rfl
set_option maxRecDepth 1000000 in
set_option maxHeartbeats 4000000 in
theorem e130_38 (D : jx_D) (h : jx_H) : F130_38 D h = (jx_bI (D 111 [vr 30 0, vi ((-2) : Int32)] h) fun y1 h1 => some ([vi y1], h1)) := (jx_it_eq (tl_m130 D) (jx_mem [14, 38, 90, 99, 136]) 100 _ _ _ _).trans rfl
set_option maxRecDepth 1000000 in
set_option maxHeartbeats 4000000 in
theorem e130_90 (D : jx_D) (h : jx_H) : F130_90 D h = (jx_bI (D 111 [vr 30 0, vi ((-1) : Int32)] h) fun y1 h1 => some ([vi y1], h1)) := (jx_it_eq (tl_m130 D) (jx_mem [14, 38, 90, 99, 136]) 100 _ _ _ _).trans rfl
set_option maxRecDepth 1000000 in
set_option maxHeartbeats 4000000 in
theorem e130_99 (D : jx_D) (x1 : Int32) (x2 : Int32) (x3 : Int32) (x4 : Int32) (x5 : Int32) (x6 : Int32) (h : jx_H) : F130_99 D x1 x2 x3 x4 x5 x6 h = (jx_if (x6 < x5) ((jx_if (jx_in ((((24 : Int32) * x1) + x2) + x6) 96) ((jx_if (jx_in x6 24) (F130_99 D x1 x2 x3 x4 x5 (x6 + 1) (jx_sI h 47 0 x6.toNatClampNeg (h.1 43 0 (((((24 : Int32) * x1) + x2) + x6).toNatClampNeg)))) none)) none)) (F130_136 D x3 x4 x5 (0 : Int32) h)) := (jx_it_eq (tl_m130 D) (jx_mem [14, 38, 90, 99, 136]) 100 _ _ _ _).trans rfl
set_option maxRecDepth 1000000 in
set_option maxHeartbeats 4000000 in
theorem e130_136 (D : jx_D) (x3 : Int32) (x4 : Int32) (x5 : Int32) (x6 : Int32) (h : jx_H) : F130_136 D x3 x4 x5 x6 h = (jx_if (x6 < x5) ((jx_if (jx_in x6 24) ((jx_if (jx_in ((((24 : Int32) * x3) + x4) + x6) 96) (F130_136 D x3 x4 x5 (x6 + 1) (jx_sI h 43 0 (((((24 : Int32) * x3) + x4) + x6).toNatClampNeg) (h.1 47 0 x6.toNatClampNeg))) none)) none)) (some ([vi x5], h))) := (jx_it_eq (tl_m130 D) (jx_mem [14, 38, 90, 99, 136]) 100 _ _ _ _).trans rfl
noncomputable def F131_0 (D : jx_D) (x1 : Int32) (x2 : Int32) (x3 : Int32) (h : jx_H) : Option jx_R := jx_den (jx_look (tb_131 D)) (jx_nms mk_131) 0 [vr 30 0, vi x1, vi x2, vi x3] [] h
noncomputable def F131_34 (D : jx_D) (h : jx_H) : Option jx_R := jx_den (jx_look (tb_131 D)) (jx_nms mk_131) 34 [vn, vn, vn, vn] [] h
noncomputable def F131_35 (D : jx_D) (s0 : Int32) (h : jx_H) : Option jx_R := jx_den (jx_look (tb_131 D)) (jx_nms mk_131) 35 [vn, vn, vn, vn] [vi s0] h
set_option maxRecDepth 1000000 in
set_option maxHeartbeats 4000000 in
theorem e131_0 (D : jx_D) (x1 : Int32) (x2 : Int32) (x3 : Int32) (h : jx_H) : F131_0 D x1 x2 x3 h = (jx_if (x2 < 0) (F131_34 D h) ((jx_if (x3 < 0) (F131_34 D h) ((jx_if (jx_in x1 4) ((jx_if (x3 ≤ (h.1 42 0 x1.toNatClampNeg)) ((jx_if (jx_in x1 4) ((jx_if (x2 ≤ ((h.1 42 0 x1.toNatClampNeg) - x3)) (F131_35 D (1 : Int32) h) (F131_34 D h))) none)) (F131_34 D h))) none))))) := (jx_it_eq (tl_m131 D) (jx_mem [34, 35]) 25 _ _ _ _).trans rfl
set_option maxRecDepth 1000000 in
set_option maxHeartbeats 4000000 in
theorem e131_34 (D : jx_D) (h : jx_H) : F131_34 D h = F131_35 D (0 : Int32) h := (jx_it_eq (tl_m131 D) (jx_mem [34, 35]) 25 _ _ _ _).trans rfl
set_option maxRecDepth 1000000 in
set_option maxHeartbeats 4000000 in
theorem e131_35 (D : jx_D) (s0 : Int32) (h : jx_H) : F131_35 D s0 h = (jx_if (s0 = 0 ∨ s0 = 1) (some ([vi s0], h)) none) := (jx_it_eq (tl_m131 D) (jx_mem [34, 35]) 25 _ _ _ _).trans rfl
noncomputable def F132_0 (D : jx_D) (x1 : Int32) (h : jx_H) : Option jx_R := jx_den (jx_look (tb_132 D)) (jx_nms mk_132) 0 [vr 30 0, vi x1, vn, vn] [] h
noncomputable def F132_38 (D : jx_D) (x1 : Int32) (x2 : Int32) (h : jx_H) : Option jx_R := jx_den (jx_look (tb_132 D)) (jx_nms mk_132) 38 [vr 30 0, vi x1, vi x2, vn] [] h
noncomputable def F132_40 (D : jx_D) (x1 : Int32) (x2 : Int32) (x3 : Int32) (h : jx_H) : Option jx_R := jx_den (jx_look (tb_132 D)) (jx_nms mk_132) 40 [vr 30 0, vi x1, vi x2, vi x3] [] h
noncomputable def F132_79 (D : jx_D) (x1 : Int32) (x2 : Int32) (x3 : Int32) (h : jx_H) : Option jx_R := jx_den (jx_look (tb_132 D)) (jx_nms mk_132) 79 [vr 30 0, vi x1, vi x2, vi x3] [] h
noncomputable def F132_152 (D : jx_D) (x1 : Int32) (x2 : Int32) (x3 : Int32) (h : jx_H) : Option jx_R := jx_den (jx_look (tb_132 D)) (jx_nms mk_132) 152 [vr 30 0, vi x1, vi x2, vi x3] [] h
set_option maxRecDepth 1000000 in
set_option maxHeartbeats 4000000 in
theorem e132_0 (D : jx_D) (x1 : Int32) (h : jx_H) : F132_0 D x1 h = (jx_bI (D 128 [vi x1] h) fun y1 h1 => (jx_if (y1 = 0) ((jx_bI (D 111 [vr 30 0, vi ((-1) : Int32)] h1) fun y2 h2 => some ([vi y2], h2))) ((jx_if (jx_in x1 4) ((jx_if ((h1.1 41 0 x1.toNatClampNeg) = 0) ((jx_bI (D 111 [vr 30 0, vi ((-2) : Int32)] h1) fun y3 h3 => some ([vi y3], h3))) ((jx_if (jx_in x1 4) ((jx_if ((2 : Int32) = 0) none (F132_38 D x1 ((h1.1 42 0 x1.toNatClampNeg) / (2 : Int32)) h1))) none)))) none)))) := (jx_it_eq (tl_m132 D) (jx_mem [38, 40, 79, 152]) 129 _ _ _ _).trans rfl
set_option maxRecDepth 1000000 in
set_option maxHeartbeats 4000000 in
theorem e132_38 (D : jx_D) (x1 : Int32) (x2 : Int32) (h : jx_H) : F132_38 D x1 x2 h = F132_40 D x1 x2 (0 : Int32) h := (jx_it_eq (tl_m132 D) (jx_mem [38, 40, 79, 152]) 129 _ _ _ _).trans rfl
set_option maxRecDepth 1000000 in
set_option maxHeartbeats 4000000 in
theorem e132_40 (D : jx_D) (x1 : Int32) (x2 : Int32) (x3 : Int32) (h : jx_H) : F132_40 D x1 x2 x3 h = (jx_if (x3 < ((2 : Int32) * x2)) ((jx_if (jx_in (((24 : Int32) * x1) + x3) 96) ((jx_bI (D 118 [vr 30 0, vi (h.1 43 0 ((((24 : Int32) * x1) + x3).toNatClampNeg))] h) fun y1 h1 => (jx_if (y1 = 0) ((jx_bI (D 111 [vr 30 0, vi ((-1) : Int32)] h1) fun y2 h2 => some ([vi y2], h2))) (F132_40 D x1 x2 (x3 + 1) h1)))) none)) (F132_79 D x1 x2 (0 : Int32) h)) := (jx_it_eq (tl_m132 D) (jx_mem [38, 40, 79, 152]) 129 _ _ _ _).trans rfl
set_option maxRecDepth 1000000 in
set_option maxHeartbeats 4000000 in
theorem e132_79 (D : jx_D) (x1 : Int32) (x2 : Int32) (x3 : Int32) (h : jx_H) : F132_79 D x1 x2 x3 h = (jx_if (x3 < x2) ((jx_if (jx_in (((24 : Int32) * x1) + ((2 : Int32) * x3)) 96) ((jx_if (jx_in ((((24 : Int32) * x1) + ((2 : Int32) * x3)) + (1 : Int32)) 96) ((jx_if ((h.1 43 0 ((((24 : Int32) * x1) + ((2 : Int32) * x3)).toNatClampNeg)) = (h.1 43 0 (((((24 : Int32) * x1) + ((2 : Int32) * x3)) + (1 : Int32)).toNatClampNeg))) ((jx_bI (D 111 [vr 30 0, vi ((-3) : Int32)] h) fun y1 h1 => some ([vi y1], h1))) (F132_79 D x1 x2 (x3 + 1) h))) none)) none)) ((jx_if (((h.1 30 0 1) + x2) ≤ (20 : Int32)) ((jx_bV (D 114 [vr 30 0] h) fun h2 => F132_152 D x1 x2 (0 : Int32) h2)) ((jx_bI (D 111 [vr 30 0, vi ((-5) : Int32)] h) fun y3 h3 => some ([vi y3], h3)))))) := (jx_it_eq (tl_m132 D) (jx_mem [38, 40, 79, 152]) 129 _ _ _ _).trans rfl
set_option maxRecDepth 1000000 in
set_option maxHeartbeats 4000000 in
theorem e132_152 (D : jx_D) (x1 : Int32) (x2 : Int32) (x3 : Int32) (h : jx_H) : F132_152 D x1 x2 x3 h = (jx_if (x3 < x2) ((jx_if (jx_in (((24 : Int32) * x1) + ((2 : Int32) * x3)) 96) ((jx_if (jx_in ((((24 : Int32) * x1) + ((2 : Int32) * x3)) + (1 : Int32)) 96) ((jx_bV (D 119 [vr 30 0, vi (h.1 43 0 ((((24 : Int32) * x1) + ((2 : Int32) * x3)).toNatClampNeg)), vi (h.1 43 0 (((((24 : Int32) * x1) + ((2 : Int32) * x3)) + (1 : Int32)).toNatClampNeg))] h) fun h1 => F132_152 D x1 x2 (x3 + 1) h1)) none)) none)) (some ([vi x2], h))) := (jx_it_eq (tl_m132 D) (jx_mem [38, 40, 79, 152]) 129 _ _ _ _).trans rfl
noncomputable def F133_0 (D : jx_D) (x1 : Int32) (x2 : Int32) (h : jx_H) : Option jx_R := jx_den (jx_look (tb_133 D)) (jx_nms mk_133) 0 [vr 30 0, vi x1, vi x2] [] h
noncomputable def F133_16 (D : jx_D) (h : jx_H) : Option jx_R := jx_den (jx_look (tb_133 D)) (jx_nms mk_133) 16 [vr 30 0, vn, vn] [] h
noncomputable def F133_42 (D : jx_D) (s0 : Int32) (h : jx_H) : Option jx_R := jx_den (jx_look (tb_133 D)) (jx_nms mk_133) 42 [vn, vn, vn] [vi s0] h
set_option maxRecDepth 1000000 in
set_option maxHeartbeats 4000000 in
theorem e133_0 (D : jx_D) (x1 : Int32) (x2 : Int32) (h : jx_H) : F133_0 D x1 x2 h = (jx_bI (D 118 [vr 30 0, vi x1] h) fun y1 h1 => (jx_if (y1 = 0) (F133_16 D h1) ((jx_bI (D 118 [vr 30 0, vi x2] h1) fun y2 h2 => (jx_if (y2 = 0) (F133_16 D h2) ((jx_if (x1 = x2) ((jx_bI (D 111 [vr 30 0, vi ((-3) : Int32)] h2) fun y3 h3 => F133_42 D y3 h3)) ((jx_bI (D 134 [vr 30 0, vi x1, vi x2] h2) fun y4 h4 => F133_42 D y4 h4))))))))) := (jx_it_eq (tl_m133 D) (jx_mem [16, 42]) 27 _ _ _ _).trans rfl
set_option maxRecDepth 1000000 in
set_option maxHeartbeats 4000000 in
theorem e133_16 (D : jx_D) (h : jx_H) : F133_16 D h = (jx_bI (D 111 [vr 30 0, vi ((-1) : Int32)] h) fun y1 h1 => some ([vi y1], h1)) := (jx_it_eq (tl_m133 D) (jx_mem [16, 42]) 27 _ _ _ _).trans rfl
set_option maxRecDepth 1000000 in
set_option maxHeartbeats 4000000 in
theorem e133_42 (D : jx_D) (s0 : Int32) (h : jx_H) : F133_42 D s0 h = some ([vi s0], h) := (jx_it_eq (tl_m133 D) (jx_mem [16, 42]) 27 _ _ _ _).trans rfl
noncomputable def F134_0 (D : jx_D) (x1 : Int32) (x2 : Int32) (h : jx_H) : Option jx_R := jx_den (jx_look (tb_134 D)) (jx_nms mk_134) 0 [vr 30 0, vi x1, vi x2, vn, vn, vn] [] h
noncomputable def F134_6 (D : jx_D) (x1 : Int32) (x2 : Int32) (x3 : Int32) (x4 : Int32) (h : jx_H) : Option jx_R := jx_den (jx_look (tb_134 D)) (jx_nms mk_134) 6 [vr 30 0, vi x1, vi x2, vi x3, vi x4, vn] [] h
noncomputable def F134_62 (D : jx_D) (x1 : Int32) (x2 : Int32) (x3 : Int32) (x4 : Int32) (h : jx_H) : Option jx_R := jx_den (jx_look (tb_134 D)) (jx_nms mk_134) 62 [vr 30 0, vi x1, vi x2, vi x3, vi x4, vn] [] h
noncomputable def F134_61 (D : jx_D) (x1 : Int32) (x2 : Int32) (x4 : Int32) (s0 : Int32) (h : jx_H) : Option jx_R := jx_den (jx_look (tb_134 D)) (jx_nms mk_134) 61 [vr 30 0, vi x1, vi x2, vn, vi x4, vn] [vi s0] h
set_option maxRecDepth 1000000 in
set_option maxHeartbeats 4000000 in
theorem e134_0 (D : jx_D) (x1 : Int32) (x2 : Int32) (h : jx_H) : F134_0 D x1 x2 h = F134_6 D x1 x2 (21 : Int32) (0 : Int32) h := (jx_it_eq (tl_m134 D) (jx_mem [6, 61, 62]) 38 _ _ _ _).trans rfl
set_option maxRecDepth 1000000 in
set_option maxHeartbeats 4000000 in
theorem e134_6 (D : jx_D) (x1 : Int32) (x2 : Int32) (x3 : Int32) (x4 : Int32) (h : jx_H) : F134_6 D x1 x2 x3 x4 h = (jx_bI (D 135 [vr 30 0] h) fun y1 h1 => (jx_if (x4 ≤ y1) ((jx_bI (D 136 [vi x4, vi x1] h1) fun y2 h2 => (jx_if (y2 = 0) (F134_62 D x1 x2 x3 x4 h2) ((jx_bI (D 136 [vi x4, vi x2] h2) fun y3 h3 => (jx_if (y3 = 0) ((jx_bI (D 137 [vr 30 0] h3) fun y4 h4 => (jx_bI (D 138 [vr 30 0, vi x4, vi (h3.1 30 0 1), vi y4] h4) fun y5 h5 => (jx_if (y5 < x3) (F134_61 D x1 x2 x4 y5 h5) (F134_61 D x1 x2 x4 x3 h5))))) (F134_62 D x1 x2 x3 x4 h3))))))) (some ([vi x3], h1)))) := (jx_it_eq (tl_m134 D) (jx_mem [6, 61, 62]) 38 _ _ _ _).trans rfl
set_option maxRecDepth 1000000 in
set_option maxHeartbeats 4000000 in
theorem e134_62 (D : jx_D) (x1 : Int32) (x2 : Int32) (x3 : Int32) (x4 : Int32) (h : jx_H) : F134_62 D x1 x2 x3 x4 h = F134_6 D x1 x2 x3 (x4 + 1) h := (jx_it_eq (tl_m134 D) (jx_mem [6, 61, 62]) 38 _ _ _ _).trans rfl
set_option maxRecDepth 1000000 in
set_option maxHeartbeats 4000000 in
theorem e134_61 (D : jx_D) (x1 : Int32) (x2 : Int32) (x4 : Int32) (s0 : Int32) (h : jx_H) : F134_61 D x1 x2 x4 s0 h = F134_62 D x1 x2 s0 x4 h := (jx_it_eq (tl_m134 D) (jx_mem [6, 61, 62]) 38 _ _ _ _).trans rfl
noncomputable def F135_0 (D : jx_D) (h : jx_H) : Option jx_R := jx_den (jx_look (tb_135 D)) (jx_nms mk_135) 0 [vr 30 0] [] h
set_option maxRecDepth 1000000 in
set_option maxHeartbeats 4000000 in
theorem e135_0 (D : jx_D) (h : jx_H) : F135_0 D h = some ([vi (((1 : Int32) <<< ((h.1 30 0 0) &&& 31)) - (1 : Int32))], h) := (jx_it_eq (tl_m135 D) (jx_mem []) 10 _ _ _ _).trans rfl
noncomputable def F136_0 (D : jx_D) (x0 : Int32) (x1 : Int32) (h : jx_H) : Option jx_R := jx_den (jx_look (tb_136 D)) (jx_nms mk_136) 0 [vi x0, vi x1] [] h
noncomputable def F136_14 (D : jx_D) (s0 : Int32) (h : jx_H) : Option jx_R := jx_den (jx_look (tb_136 D)) (jx_nms mk_136) 14 [vn, vn] [vi s0] h
set_option maxRecDepth 1000000 in
set_option maxHeartbeats 4000000 in
theorem e136_0 (D : jx_D) (x0 : Int32) (x1 : Int32) (h : jx_H) : F136_0 D x0 x1 h = (jx_if (((x0 >>> (x1 &&& 31)) &&& (1 : Int32)) = (1 : Int32)) (F136_14 D (1 : Int32) h) (F136_14 D (0 : Int32) h)) := (jx_it_eq (tl_m136 D) (jx_mem [14]) 14 _ _ _ _).trans rfl
set_option maxRecDepth 1000000 in
set_option maxHeartbeats 4000000 in
theorem e136_14 (D : jx_D) (s0 : Int32) (h : jx_H) : F136_14 D s0 h = (jx_if (s0 = 0 ∨ s0 = 1) (some ([vi s0], h)) none) := (jx_it_eq (tl_m136 D) (jx_mem [14]) 14 _ _ _ _).trans rfl
noncomputable def F137_0 (D : jx_D) (h : jx_H) : Option jx_R := jx_den (jx_look (tb_137 D)) (jx_nms mk_137) 0 [vr 30 0] [] h
set_option maxRecDepth 1000000 in
set_option maxHeartbeats 4000000 in
theorem e137_0 (D : jx_D) (h : jx_H) : F137_0 D h = some ([vi (((1 : Int32) <<< ((h.1 30 0 1) &&& 31)) - (1 : Int32))], h) := (jx_it_eq (tl_m137 D) (jx_mem []) 10 _ _ _ _).trans rfl
noncomputable def F138_0 (D : jx_D) (x1 : Int32) (x2 : Int32) (x3 : Int32) (h : jx_H) : Option jx_R := jx_den (jx_look (tb_138 D)) (jx_nms mk_138) 0 [vr 30 0, vi x1, vi x2, vi x3, vn, vn, vn] [] h
noncomputable def F138_6 (D : jx_D) (x1 : Int32) (x2 : Int32) (x3 : Int32) (x4 : Int32) (x5 : Int32) (h : jx_H) : Option jx_R := jx_den (jx_look (tb_138 D)) (jx_nms mk_138) 6 [vr 30 0, vi x1, vi x2, vi x3, vi x4, vi x5, vn] [] h
noncomputable def F138_62 (D : jx_D) (x1 : Int32) (x2 : Int32) (x3 : Int32) (x4 : Int32) (x5 : Int32) (h : jx_H) : Option jx_R := jx_den (jx_look (tb_138 D)) (jx_nms mk_138) 62 [vr 30 0, vi x1, vi x2, vi x3, vi x4, vi x5, vn] [] h
noncomputable def F138_58 (D : jx_D) (x1 : Int32) (x2 : Int32) (x3 : Int32) (x4 : Int32) (x5 : Int32) (h : jx_H) : Option jx_R := jx_den (jx_look (tb_138 D)) (jx_nms mk_138) 58 [vr 30 0, vi x1, vi x2, vi x3, vi x4, vi x5, vn] [] h
noncomputable def F138_63 (D : jx_D) (x1 : Int32) (x2 : Int32) (x3 : Int32) (x4 : Int32) (x5 : Int32) (s0 : Int32) (h : jx_H) : Option jx_R := jx_den (jx_look (tb_138 D)) (jx_nms mk_138) 63 [vr 30 0, vi x1, vi x2, vi x3, vi x4, vi x5, vn] [vi s0] h
noncomputable def F138_92 (D : jx_D) (x1 : Int32) (x2 : Int32) (x3 : Int32) (x5 : Int32) (s0 : Int32) (h : jx_H) : Option jx_R := jx_den (jx_look (tb_138 D)) (jx_nms mk_138) 92 [vr 30 0, vi x1, vi x2, vi x3, vn, vi x5, vn] [vi s0] h
noncomputable def F138_88 (D : jx_D) (x1 : Int32) (x2 : Int32) (x3 : Int32) (x5 : Int32) (s0 : Int32) (h : jx_H) : Option jx_R := jx_den (jx_look (tb_138 D)) (jx_nms mk_138) 88 [vr 30 0, vi x1, vi x2, vi x3, vn, vi x5, vn] [vi s0] h
noncomputable def F138_93 (D : jx_D) (x1 : Int32) (x2 : Int32) (x3 : Int32) (x5 : Int32) (s0 : Int32) (s1 : Int32) (h : jx_H) : Option jx_R := jx_den (jx_look (tb_138 D)) (jx_nms mk_138) 93 [vr 30 0, vi x1, vi x2, vi x3, vn, vi x5, vn] [vi s0, vi s1] h
noncomputable def F138_96 (D : jx_D) (x1 : Int32) (x2 : Int32) (x3 : Int32) (x4 : Int32) (x5 : Int32) (h : jx_H) : Option jx_R := jx_den (jx_look (tb_138 D)) (jx_nms mk_138) 96 [vr 30 0, vi x1, vi x2, vi x3, vi x4, vi x5, vn] [] h
set_option maxRecDepth 1000000 in
set_option maxHeartbeats 4000000 in
theorem e138_0 (D : jx_D) (x1 : Int32) (x2 : Int32) (x3 : Int32) (h : jx_H) : F138_0 D x1 x2 x3 h = F138_6 D x1 x2 x3 (0 : Int32) (0 : Int32) h := (jx_it_eq (tl_m138 D) (jx_mem [6, 58, 62, 63, 88, 92, 93, 96]) 56 _ _ _ _).trans rfl
set_option maxRecDepth 1000000 in
set_option maxHeartbeats 4000000 in
theorem e138_6 (D : jx_D) (x1 : Int32) (x2 : Int32) (x3 : Int32) (x4 : Int32) (x5 : Int32) (h : jx_H) : F138_6 D x1 x2 x3 x4 x5 h = (jx_if (x5 < x2) ((jx_if (jx_in x5 50) ((jx_bI (D 136 [vi x1, vi (h.1 33 0 x5.toNatClampNeg)] h) fun y1 h1 => (jx_if (jx_in x5 50) ((jx_bI (D 136 [vi x1, vi (h1.1 34 0 x5.toNatClampNeg)] h1) fun y2 h2 => (jx_if (y1 = y2) (F138_62 D x1 x2 x3 x4 x5 h2) ((jx_if ((h2.1 30 0 2) = 0) (F138_58 D x1 x2 x3 x4 x5 h2) ((jx_if (jx_in x5 50) ((jx_bI (D 136 [vi x1, vi (h2.1 33 0 x5.toNatClampNeg)] h2) fun y3 h3 => (jx_if (y3 = 0) (F138_62 D x1 x2 x3 x4 x5 h3) (F138_58 D x1 x2 x3 x4 x5 h3)))) none))))))) none))) none)) (some ([vi x4], h))) := (jx_it_eq (tl_m138 D) (jx_mem [6, 58, 62, 63, 88, 92, 93, 96]) 56 _ _ _ _).trans rfl
set_option maxRecDepth 1000000 in
set_option maxHeartbeats 4000000 in
theorem e138_62 (D : jx_D) (x1 : Int32) (x2 : Int32) (x3 : Int32) (x4 : Int32) (x5 : Int32) (h : jx_H) : F138_62 D x1 x2 x3 x4 x5 h = F138_63 D x1 x2 x3 x4 x5 (0 : Int32) h := (jx_it_eq (tl_m138 D) (jx_mem [6, 58, 62, 63, 88, 92, 93, 96]) 56 _ _ _ _).trans rfl
set_option maxRecDepth 1000000 in
set_option maxHeartbeats 4000000 in
theorem e138_58 (D : jx_D) (x1 : Int32) (x2 : Int32) (x3 : Int32) (x4 : Int32) (x5 : Int32) (h : jx_H) : F138_58 D x1 x2 x3 x4 x5 h = F138_63 D x1 x2 x3 x4 x5 (1 : Int32) h := (jx_it_eq (tl_m138 D) (jx_mem [6, 58, 62, 63, 88, 92, 93, 96]) 56 _ _ _ _).trans rfl
set_option maxRecDepth 1000000 in
set_option maxHeartbeats 4000000 in
theorem e138_63 (D : jx_D) (x1 : Int32) (x2 : Int32) (x3 : Int32) (x4 : Int32) (x5 : Int32) (s0 : Int32) (h : jx_H) : F138_63 D x1 x2 x3 x4 x5 s0 h = (jx_if (s0 = 0) (F138_92 D x1 x2 x3 x5 x4 h) ((jx_if (x5 < (20 : Int32)) ((jx_bI (D 136 [vi x3, vi x5] h) fun y1 h1 => (jx_if (y1 = 0) (F138_92 D x1 x2 x3 x5 x4 h1) (F138_88 D x1 x2 x3 x5 x4 h1)))) (F138_88 D x1 x2 x3 x5 x4 h)))) := (jx_it_eq (tl_m138 D) (jx_mem [6, 58, 62, 63, 88, 92, 93, 96]) 56 _ _ _ _).trans rfl
set_option maxRecDepth 1000000 in
set_option maxHeartbeats 4000000 in
theorem e138_92 (D : jx_D) (x1 : Int32) (x2 : Int32) (x3 : Int32) (x5 : Int32) (s0 : Int32) (h : jx_H) : F138_92 D x1 x2 x3 x5 s0 h = F138_93 D x1 x2 x3 x5 (0 : Int32) s0 h := (jx_it_eq (tl_m138 D) (jx_mem [6, 58, 62, 63, 88, 92, 93, 96]) 56 _ _ _ _).trans rfl
set_option maxRecDepth 1000000 in
set_option maxHeartbeats 4000000 in
theorem e138_88 (D : jx_D) (x1 : Int32) (x2 : Int32) (x3 : Int32) (x5 : Int32) (s0 : Int32) (h : jx_H) : F138_88 D x1 x2 x3 x5 s0 h = F138_93 D x1 x2 x3 x5 (1 : Int32) s0 h := (jx_it_eq (tl_m138 D) (jx_mem [6, 58, 62, 63, 88, 92, 93, 96]) 56 _ _ _ _).trans rfl
set_option maxRecDepth 1000000 in
set_option maxHeartbeats 4000000 in
theorem e138_93 (D : jx_D) (x1 : Int32) (x2 : Int32) (x3 : Int32) (x5 : Int32) (s0 : Int32) (s1 : Int32) (h : jx_H) : F138_93 D x1 x2 x3 x5 s0 s1 h = F138_96 D x1 x2 x3 (s1 + s0) x5 h := (jx_it_eq (tl_m138 D) (jx_mem [6, 58, 62, 63, 88, 92, 93, 96]) 56 _ _ _ _).trans rfl
set_option maxRecDepth 1000000 in
set_option maxHeartbeats 4000000 in
theorem e138_96 (D : jx_D) (x1 : Int32) (x2 : Int32) (x3 : Int32) (x4 : Int32) (x5 : Int32) (h : jx_H) : F138_96 D x1 x2 x3 x4 x5 h = F138_6 D x1 x2 x3 x4 (x5 + 1) h := (jx_it_eq (tl_m138 D) (jx_mem [6, 58, 62, 63, 88, 92, 93, 96]) 56 _ _ _ _).trans rfl
noncomputable def F139_0 (D : jx_D) (x1 : Int32) (x2 : Int32) (h : jx_H) : Option jx_R := jx_den (jx_look (tb_139 D)) (jx_nms mk_139) 0 [vr 30 0, vi x1, vi x2, vn, vn, vn, vn] [] h
noncomputable def F139_16 (D : jx_D) (h : jx_H) : Option jx_R := jx_den (jx_look (tb_139 D)) (jx_nms mk_139) 16 [vr 30 0, vn, vn, vn, vn, vn, vn] [] h
noncomputable def F139_50 (D : jx_D) (x1 : Int32) (x2 : Int32) (x3 : Int32) (x4 : Int32) (x5 : Int32) (h : jx_H) : Option jx_R := jx_den (jx_look (tb_139 D)) (jx_nms mk_139) 50 [vr 30 0, vi x1, vi x2, vi x3, vi x4, vi x5, vn] [] h
noncomputable def F139_99 (D : jx_D) (x1 : Int32) (x2 : Int32) (x3 : Int32) (x4 : Int32) (x5 : Int32) (h : jx_H) : Option jx_R := jx_den (jx_look (tb_139 D)) (jx_nms mk_139) 99 [vr 30 0, vi x1, vi x2, vi x3, vi x4, vi x5, vn] [] h
noncomputable def F139_100 (D : jx_D) (x1 : Int32) (x2 : Int32) (x3 : Int32) (x4 : Int32) (x5 : Int32) (s0 : Int32) (h : jx_H) : Option jx_R := jx_den (jx_look (tb_139 D)) (jx_nms mk_139) 100 [vr 30 0, vi x1, vi x2, vi x3, vi x4, vi x5, vn] [vi s0] h
noncomputable def F139_125 (D : jx_D) (x1 : Int32) (x2 : Int32) (x3 : Int32) (x4 : Int32) (x5 : Int32) (h : jx_H) : Option jx_R := jx_den (jx_look (tb_139 D)) (jx_nms mk_139) 125 [vr 30 0, vi x1, vi x2, vi x3, vi x4, vi x5, vn] [] h
noncomputable def F139_127 (D : jx_D) (x1 : Int32) (x2 : Int32) (x3 : Int32) (x5 : Int32) (s0 : Int32) (h : jx_H) : Option jx_R := jx_den (jx_look (tb_139 D)) (jx_nms mk_139) 127 [vr 30 0, vi x1, vi x2, vi x3, vn, vi x5, vn] [vi s0] h
set_option maxRecDepth 1000000 in
set_option maxHeartbeats 4000000 in
theorem e139_0 (D : jx_D) (x1 : Int32) (x2 : Int32) (h : jx_H) : F139_0 D x1 x2 h = (jx_bI (D 118 [vr 30 0, vi x1] h) fun y1 h1 => (jx_if (y1 = 0) (F139_16 D h1) ((jx_bI (D 118 [vr 30 0, vi x2] h1) fun y2 h2 => (jx_if (y2 = 0) (F139_16 D h2) ((jx_if (x1 = x2) ((jx_bI (D 111 [vr 30 0, vi ((-3) : Int32)] h2) fun y3 h3 => some ([vi y3], h3))) ((jx_bI (D 134 [vr 30 0, vi x1, vi x2] h2) fun y4 h4 => (jx_bI (D 135 [vr 30 0] h4) fun y5 h5 => F139_50 D x1 x2 y4 y5 (0 : Int32) h5)))))))))) := (jx_it_eq (tl_m139 D) (jx_mem [16, 50, 99, 100, 125, 127]) 72 _ _ _ _).trans rfl
set_option maxRecDepth 1000000 in
set_option maxHeartbeats 4000000 in
theorem e139_16 (D : jx_D) (h : jx_H) : F139_16 D h = (jx_bI (D 111 [vr 30 0, vi ((-1) : Int32)] h) fun y1 h1 => some ([vi y1], h1)) := (jx_it_eq (tl_m139 D) (jx_mem [16, 50, 99, 100, 125, 127]) 72 _ _ _ _).trans rfl
set_option maxRecDepth 1000000 in
set_option maxHeartbeats 4000000 in
theorem e139_50 (D : jx_D) (x1 : Int32) (x2 : Int32) (x3 : Int32) (x4 : Int32) (x5 : Int32) (h : jx_H) : F139_50 D x1 x2 x3 x4 x5 h = (jx_bI (D 135 [vr 30 0] h) fun y1 h1 => (jx_if (x5 ≤ y1) ((jx_bI (D 136 [vi x5, vi x1] h1) fun y2 h2 => (jx_if (y2 = 0) (F139_99 D x1 x2 x3 x4 x5 h2) ((jx_bI (D 136 [vi x5, vi x2] h2) fun y3 h3 => (jx_if (y3 = 0) ((jx_bI (D 137 [vr 30 0] h3) fun y4 h4 => (jx_bI (D 138 [vr 30 0, vi x5, vi (h3.1 30 0 1), vi y4] h4) fun y5 h5 => (jx_if (y5 = x3) (F139_100 D x1 x2 x3 x4 x5 (1 : Int32) h5) (F139_99 D x1 x2 x3 x4 x5 h5))))) (F139_99 D x1 x2 x3 x4 x5 h3))))))) (some ([vi x4], h1)))) := (jx_it_eq (tl_m139 D) (jx_mem [16, 50, 99, 100, 125, 127]) 72 _ _ _ _).trans rfl
set_option maxRecDepth 1000000 in
set_option maxHeartbeats 4000000 in
theorem e139_99 (D : jx_D) (x1 : Int32) (x2 : Int32) (x3 : Int32) (x4 : Int32) (x5 : Int32) (h : jx_H) : F139_99 D x1 x2 x3 x4 x5 h = F139_100 D x1 x2 x3 x4 x5 (0 : Int32) h := (jx_it_eq (tl_m139 D) (jx_mem [16, 50, 99, 100, 125, 127]) 72 _ _ _ _).trans rfl
set_option maxRecDepth 1000000 in
set_option maxHeartbeats 4000000 in
theorem e139_100 (D : jx_D) (x1 : Int32) (x2 : Int32) (x3 : Int32) (x4 : Int32) (x5 : Int32) (s0 : Int32) (h : jx_H) : F139_100 D x1 x2 x3 x4 x5 s0 h = (jx_if (s0 = 0) (F139_125 D x1 x2 x3 x4 x5 h) ((jx_bI (D 140 [vi x5] h) fun y1 h1 => (jx_bI (D 140 [vi x4] h1) fun y2 h2 => (jx_if (y1 < y2) (F139_127 D x1 x2 x3 x5 x5 h2) (F139_125 D x1 x2 x3 x4 x5 h2)))))) := (jx_it_eq (tl_m139 D) (jx_mem [16, 50, 99, 100, 125, 127]) 72 _ _ _ _).trans rfl
set_option maxRecDepth 1000000 in
set_option maxHeartbeats 4000000 in
theorem e139_125 (D : jx_D) (x1 : Int32) (x2 : Int32) (x3 : Int32) (x4 : Int32) (x5 : Int32) (h : jx_H) : F139_125 D x1 x2 x3 x4 x5 h = F139_127 D x1 x2 x3 x5 x4 h := (jx_it_eq (tl_m139 D) (jx_mem [16, 50, 99, 100, 125, 127]) 72 _ _ _ _).trans rfl
set_option maxRecDepth 1000000 in
set_option maxHeartbeats 4000000 in
theorem e139_127 (D : jx_D) (x1 : Int32) (x2 : Int32) (x3 : Int32) (x5 : Int32) (s0 : Int32) (h : jx_H) : F139_127 D x1 x2 x3 x5 s0 h = F139_50 D x1 x2 x3 s0 (x5 + 1) h := (jx_it_eq (tl_m139 D) (jx_mem [16, 50, 99, 100, 125, 127]) 72 _ _ _ _).trans rfl
noncomputable def F140_0 (D : jx_D) (x0 : Int32) (h : jx_H) : Option jx_R := jx_den (jx_look (tb_140 D)) (jx_nms mk_140) 0 [vi x0, vn, vn] [] h
noncomputable def F140_4 (D : jx_D) (x0 : Int32) (x1 : Int32) (x2 : Int32) (h : jx_H) : Option jx_R := jx_den (jx_look (tb_140 D)) (jx_nms mk_140) 4 [vi x0, vi x1, vi x2] [] h
noncomputable def F140_18 (D : jx_D) (x0 : Int32) (x1 : Int32) (x2 : Int32) (h : jx_H) : Option jx_R := jx_den (jx_look (tb_140 D)) (jx_nms mk_140) 18 [vi x0, vi x1, vi x2] [] h
set_option maxRecDepth 1000000 in
set_option maxHeartbeats 4000000 in
theorem e140_0 (D : jx_D) (x0 : Int32) (h : jx_H) : F140_0 D x0 h = F140_4 D x0 (0 : Int32) (0 : Int32) h := (jx_it_eq (tl_m140 D) (jx_mem [4, 18]) 22 _ _ _ _).trans rfl
set_option maxRecDepth 1000000 in
set_option maxHeartbeats 4000000 in
theorem e140_4 (D : jx_D) (x0 : Int32) (x1 : Int32) (x2 : Int32) (h : jx_H) : F140_4 D x0 x1 x2 h = (jx_if (x2 < (31 : Int32)) (F140_18 D x0 (x1 + ((x0 >>> (x2 &&& 31)) &&& (1 : Int32))) x2 h) (some ([vi x1], h))) := (jx_it_eq (tl_m140 D) (jx_mem [4, 18]) 22 _ _ _ _).trans rfl
set_option maxRecDepth 1000000 in
set_option maxHeartbeats 4000000 in
theorem e140_18 (D : jx_D) (x0 : Int32) (x1 : Int32) (x2 : Int32) (h : jx_H) : F140_18 D x0 x1 x2 h = F140_4 D x0 x1 (x2 + 1) h := (jx_it_eq (tl_m140 D) (jx_mem [4, 18]) 22 _ _ _ _).trans rfl
noncomputable def F141_0 (D : jx_D) (h : jx_H) : Option jx_R := jx_den (jx_look (tb_141 D)) (jx_nms mk_141) 0 [vr 30 0] [] h
set_option maxRecDepth 1000000 in
set_option maxHeartbeats 4000000 in
theorem e141_0 (D : jx_D) (h : jx_H) : F141_0 D h = (jx_bI (D 137 [vr 30 0] h) fun y1 h1 => (jx_bI (D 142 [vr 30 0, vi (h.1 30 0 1), vi y1] h1) fun y2 h2 => some ([vi y2], h2))) := (jx_it_eq (tl_m141 D) (jx_mem []) 10 _ _ _ _).trans rfl
noncomputable def F142_0 (D : jx_D) (x1 : Int32) (x2 : Int32) (h : jx_H) : Option jx_R := jx_den (jx_look (tb_142 D)) (jx_nms mk_142) 0 [vr 30 0, vi x1, vi x2, vn, vn, vn] [] h
noncomputable def F142_15 (D : jx_D) (x1 : Int32) (x2 : Int32) (s0 : Int32) (h : jx_H) : Option jx_R := jx_den (jx_look (tb_142 D)) (jx_nms mk_142) 15 [vr 30 0, vi x1, vi x2, vn, vn, vn] [vi s0] h
noncomputable def F142_19 (D : jx_D) (x1 : Int32) (x2 : Int32) (x3 : Int32) (x4 : Int32) (h : jx_H) : Option jx_R := jx_den (jx_look (tb_142 D)) (jx_nms mk_142) 19 [vr 30 0, vi x1, vi x2, vi x3, vi x4, vn] [] h
noncomputable def F142_50 (D : jx_D) (x1 : Int32) (x2 : Int32) (x4 : Int32) (s0 : Int32) (h : jx_H) : Option jx_R := jx_den (jx_look (tb_142 D)) (jx_nms mk_142) 50 [vr 30 0, vi x1, vi x2, vn, vi x4, vn] [vi s0] h
set_option maxRecDepth 1000000 in
set_option maxHeartbeats 4000000 in
theorem e142_0 (D : jx_D) (x1 : Int32) (x2 : Int32) (h : jx_H) : F142_0 D x1 x2 h = (jx_if ((h.1 30 0 0) < (2 : Int32)) (F142_15 D x1 x2 (0 : Int32) h) (F142_15 D x1 x2 (1000 : Int32) h)) := (jx_it_eq (tl_m142 D) (jx_mem [15, 19, 50]) 34 _ _ _ _).trans rfl
set_option maxRecDepth 1000000 in
set_option maxHeartbeats 4000000 in
theorem e142_15 (D : jx_D) (x1 : Int32) (x2 : Int32) (s0 : Int32) (h : jx_H) : F142_15 D x1 x2 s0 h = F142_19 D x1 x2 s0 (1 : Int32) h := (jx_it_eq (tl_m142 D) (jx_mem [15, 19, 50]) 34 _ _ _ _).trans rfl
set_option maxRecDepth 1000000 in
set_option maxHeartbeats 4000000 in
theorem e142_19 (D : jx_D) (x1 : Int32) (x2 : Int32) (x3 : Int32) (x4 : Int32) (h : jx_H) : F142_19 D x1 x2 x3 x4 h = (jx_bI (D 135 [vr 30 0] h) fun y1 h1 => (jx_if (x4 < y1) ((jx_bI (D 138 [vr 30 0, vi x4, vi x1, vi x2] h1) fun y2 h2 => (jx_if (y2 < x3) (F142_50 D x1 x2 x4 y2 h2) (F142_50 D x1 x2 x4 x3 h2)))) (some ([vi x3], h1)))) := (jx_it_eq (tl_m142 D) (jx_mem [15, 19, 50]) 34 _ _ _ _).trans rfl
set_option maxRecDepth 1000000 in
set_option maxHeartbeats 4000000 in
theorem e142_50 (D : jx_D) (x1 : Int32) (x2 : Int32) (x4 : Int32) (s0 : Int32) (h : jx_H) : F142_50 D x1 x2 x4 s0 h = F142_19 D x1 x2 s0 (x4 + 1) h := (jx_it_eq (tl_m142 D) (jx_mem [15, 19, 50]) 34 _ _ _ _).trans rfl
noncomputable def F143_0 (D : jx_D) (x1 : Int32) (h : jx_H) : Option jx_R := jx_den (jx_look (tb_143 D)) (jx_nms mk_143) 0 [vr 30 0, vi x1, vn, vn, vn] [] h
noncomputable def F143_10 (D : jx_D) (x1 : Int32) (x2 : Int32) (x3 : Int32) (x4 : Int32) (h : jx_H) : Option jx_R := jx_den (jx_look (tb_143 D)) (jx_nms mk_143) 10 [vr 30 0, vi x1, vi x2, vi x3, vi x4] [] h
noncomputable def F143_35 (D : jx_D) (x1 : Int32) (x2 : Int32) (x3 : Int32) (x4 : Int32) (h : jx_H) : Option jx_R := jx_den (jx_look (tb_143 D)) (jx_nms mk_143) 35 [vr 30 0, vi x1, vi x2, vi x3, vi x4] [] h
noncomputable def F143_64 (D : jx_D) (x1 : Int32) (x2 : Int32) (x3 : Int32) (x4 : Int32) (h : jx_H) : Option jx_R := jx_den (jx_look (tb_143 D)) (jx_nms mk_143) 64 [vr 30 0, vi x1, vi x2, vi x3, vi x4] [] h
noncomputable def F143_85 (D : jx_D) (s0 : Int32) (h : jx_H) : Option jx_R := jx_den (jx_look (tb_143 D)) (jx_nms mk_143) 85 [vn, vn, vn, vn, vn] [vi s0] h
set_option maxRecDepth 1000000 in
set_option maxHeartbeats 4000000 in
theorem e143_0 (D : jx_D) (x1 : Int32) (h : jx_H) : F143_0 D x1 h = (jx_bI (D 141 [vr 30 0] h) fun y1 h1 => F143_10 D x1 y1 (0 : Int32) (1 : Int32) h1) := (jx_it_eq (tl_m143 D) (jx_mem [10, 35, 64, 85]) 47 _ _ _ _).trans rfl
set_option maxRecDepth 1000000 in
set_option maxHeartbeats 4000000 in
theorem e143_10 (D : jx_D) (x1 : Int32) (x2 : Int32) (x3 : Int32) (x4 : Int32) (h : jx_H) : F143_10 D x1 x2 x3 x4 h = (jx_bI (D 135 [vr 30 0] h) fun y1 h1 => (jx_if (x4 < y1) ((jx_if ((h1.1 30 0 2) = 0) ((jx_bI (D 136 [vi x4, vi (0 : Int32)] h1) fun y2 h2 => (jx_if (y2 = 0) (F143_35 D x1 x2 x3 x4 h2) (F143_64 D x1 x2 x3 x4 h2)))) (F143_35 D x1 x2 x3 x4 h1))) ((jx_if (x1 = ((-1) : Int32)) (F143_85 D x3 h1) ((jx_bI (D 111 [vr 30 0, vi ((-6) : Int32)] h1) fun y3 h3 => F143_85 D y3 h3)))))) := (jx_it_eq (tl_m143 D) (jx_mem [10, 35, 64, 85]) 47 _ _ _ _).trans rfl
set_option maxRecDepth 1000000 in
set_option maxHeartbeats 4000000 in
theorem e143_35 (D : jx_D) (x1 : Int32) (x2 : Int32) (x3 : Int32) (x4 : Int32) (h : jx_H) : F143_35 D x1 x2 x3 x4 h = (jx_bI (D 137 [vr 30 0] h) fun y1 h1 => (jx_bI (D 138 [vr 30 0, vi x4, vi (h.1 30 0 1), vi y1] h1) fun y2 h2 => (jx_if (y2 = x2) ((jx_if (x3 = x1) (some ([vi x4], h2)) (F143_64 D x1 x2 (x3 + 1) x4 h2))) (F143_64 D x1 x2 x3 x4 h2)))) := (jx_it_eq (tl_m143 D) (jx_mem [10, 35, 64, 85]) 47 _ _ _ _).trans rfl
set_option maxRecDepth 1000000 in
set_option maxHeartbeats 4000000 in
theorem e143_64 (D : jx_D) (x1 : Int32) (x2 : Int32) (x3 : Int32) (x4 : Int32) (h : jx_H) : F143_64 D x1 x2 x3 x4 h = F143_10 D x1 x2 x3 (x4 + 1) h := (jx_it_eq (tl_m143 D) (jx_mem [10, 35, 64, 85]) 47 _ _ _ _).trans rfl
set_option maxRecDepth 1000000 in
set_option maxHeartbeats 4000000 in
theorem e143_85 (D : jx_D) (s0 : Int32) (h : jx_H) : F143_85 D s0 h = some ([vi s0], h) := (jx_it_eq (tl_m143 D) (jx_mem [10, 35, 64, 85]) 47 _ _ _ _).trans rfl
noncomputable def F144_0 (D : jx_D) (x1 : Int32) (x2 : Int32) (h : jx_H) : Option jx_R := jx_den (jx_look (tb_144 D)) (jx_nms mk_144) 0 [vr 30 0, vi x1, vi x2, vn, vn, vn, vn, vn] [] h
noncomputable def F144_16 (D : jx_D) (h : jx_H) : Option jx_R := jx_den (jx_look (tb_144 D)) (jx_nms mk_144) 16 [vr 30 0, vn, vn, vn, vn, vn, vn, vn] [] h
noncomputable def F144_42 (D : jx_D) (x1 : Int32) (x2 : Int32) (x3 : Int32) (x4 : Int32) (x5 : Int32) (h : jx_H) : Option jx_R := jx_den (jx_look (tb_144 D)) (jx_nms mk_144) 42 [vr 30 0, vi x1, vi x2, vi x3, vi x4, vi x5, vn, vn] [] h
noncomputable def F144_102 (D : jx_D) (x1 : Int32) (x2 : Int32) (x3 : Int32) (x4 : Int32) (x5 : Int32) (h : jx_H) : Option jx_R := jx_den (jx_look (tb_144 D)) (jx_nms mk_144) 102 [vr 30 0, vi x1, vi x2, vi x3, vi x4, vi x5, vn, vn] [] h
noncomputable def F144_73 (D : jx_D) (x1 : Int32) (x2 : Int32) (x3 : Int32) (x4 : Int32) (x5 : Int32) (h : jx_H) : Option jx_R := jx_den (jx_look (tb_144 D)) (jx_nms mk_144) 73 [vr 30 0, vi x1, vi x2, vi x3, vi x4, vi x5, vn, vn] [] h
noncomputable def F144_153 (D : jx_D) (x1 : Int32) (x2 : Int32) (x3 : Int32) (x4 : Int32) (x5 : Int32) (x6 : Int32) (h : jx_H) : Option jx_R := jx_den (jx_look (tb_144 D)) (jx_nms mk_144) 153 [vr 30 0, vi x1, vi x2, vi x3, vi x4, vi x5, vi x6, vn] [] h
noncomputable def F144_107 (D : jx_D) (x1 : Int32) (x2 : Int32) (x3 : Int32) (x4 : Int32) (x5 : Int32) (s0 : Int32) (h : jx_H) : Option jx_R := jx_den (jx_look (tb_144 D)) (jx_nms mk_144) 107 [vr 30 0, vi x1, vi x2, vi x3, vi x4, vi x5, vn, vn] [vi s0] h
noncomputable def F144_106 (D : jx_D) (x1 : Int32) (x2 : Int32) (x3 : Int32) (x4 : Int32) (x5 : Int32) (h : jx_H) : Option jx_R := jx_den (jx_look (tb_144 D)) (jx_nms mk_144) 106 [vr 30 0, vi x1, vi x2, vi x3, vi x4, vi x5, vn, vn] [] h
noncomputable def F144_201 (D : jx_D) (x1 : Int32) (x2 : Int32) (x3 : Int32) (x4 : Int32) (x5 : Int32) (x6 : Int32) (s0 : Int32) (h : jx_H) : Option jx_R := jx_den (jx_look (tb_144 D)) (jx_nms mk_144) 201 [vr 30 0, vi x1, vi x2, vi x3, vi x4, vi x5, vi x6, vn] [vi s0] h
noncomputable def F144_200 (D : jx_D) (x1 : Int32) (x2 : Int32) (x3 : Int32) (x4 : Int32) (x5 : Int32) (x6 : Int32) (h : jx_H) : Option jx_R := jx_den (jx_look (tb_144 D)) (jx_nms mk_144) 200 [vr 30 0, vi x1, vi x2, vi x3, vi x4, vi x5, vi x6, vn] [] h
noncomputable def F144_120 (D : jx_D) (x1 : Int32) (x2 : Int32) (x4 : Int32) (x5 : Int32) (x6 : Int32) (s0 : Int32) (s1 : Int32) (h : jx_H) : Option jx_R := jx_den (jx_look (tb_144 D)) (jx_nms mk_144) 120 [vr 30 0, vi x1, vi x2, vn, vi x4, vi x5, vi x6, vn] [vi s0, vi s1] h
noncomputable def F144_226 (D : jx_D) (x1 : Int32) (x2 : Int32) (x3 : Int32) (x4 : Int32) (x5 : Int32) (x6 : Int32) (h : jx_H) : Option jx_R := jx_den (jx_look (tb_144 D)) (jx_nms mk_144) 226 [vr 30 0, vi x1, vi x2, vi x3, vi x4, vi x5, vi x6, vn] [] h
noncomputable def F144_228 (D : jx_D) (x1 : Int32) (x2 : Int32) (x3 : Int32) (x4 : Int32) (x6 : Int32) (s0 : Int32) (h : jx_H) : Option jx_R := jx_den (jx_look (tb_144 D)) (jx_nms mk_144) 228 [vr 30 0, vi x1, vi x2, vi x3, vi x4, vn, vi x6, vn] [vi s0] h
noncomputable def F144_122 (D : jx_D) (x1 : Int32) (x2 : Int32) (x3 : Int32) (x4 : Int32) (x5 : Int32) (x6 : Int32) (h : jx_H) : Option jx_R := jx_den (jx_look (tb_144 D)) (jx_nms mk_144) 122 [vr 30 0, vi x1, vi x2, vi x3, vi x4, vi x5, vi x6, vn] [] h
noncomputable def F144_137 (D : jx_D) (x1 : Int32) (x2 : Int32) (x3 : Int32) (x5 : Int32) (s0 : Int32) (s1 : Int32) (h : jx_H) : Option jx_R := jx_den (jx_look (tb_144 D)) (jx_nms mk_144) 137 [vr 30 0, vi x1, vi x2, vi x3, vn, vi x5, vn, vn] [vi s0, vi s1] h
noncomputable def F144_140 (D : jx_D) (x1 : Int32) (x2 : Int32) (x3 : Int32) (x4 : Int32) (x5 : Int32) (h : jx_H) : Option jx_R := jx_den (jx_look (tb_144 D)) (jx_nms mk_144) 140 [vr 30 0, vi x1, vi x2, vi x3, vi x4, vi x5, vn, vn] [] h
set_option maxRecDepth 1000000 in
set_option maxHeartbeats 4000000 in
theorem e144_0 (D : jx_D) (x1 : Int32) (x2 : Int32) (h : jx_H) : F144_0 D x1 x2 h = (jx_bI (D 118 [vr 30 0, vi x1] h) fun y1 h1 => (jx_if (y1 = 0) (F144_16 D h1) ((jx_bI (D 118 [vr 30 0, vi x2] h1) fun y2 h2 => (jx_if (y2 = 0) (F144_16 D h2) ((jx_if (x1 = x2) ((jx_bI (D 111 [vr 30 0, vi ((-3) : Int32)] h2) fun y3 h3 => some ([vi y3], h3))) (F144_42 D x1 x2 (0 : Int32) (0 : Int32) (0 : Int32) h2)))))))) := (jx_it_eq (tl_m144 D) (jx_mem [16, 42, 73, 102, 106, 107, 120, 122, 137, 140, 153, 200, 201, 226, 228]) 128 _ _ _ _).trans rfl
set_option maxRecDepth 1000000 in
set_option maxHeartbeats 4000000 in
theorem e144_16 (D : jx_D) (h : jx_H) : F144_16 D h = (jx_bI (D 111 [vr 30 0, vi ((-1) : Int32)] h) fun y1 h1 => some ([vi y1], h1)) := (jx_it_eq (tl_m144 D) (jx_mem [16, 42, 73, 102, 106, 107, 120, 122, 137, 140, 153, 200, 201, 226, 228]) 128 _ _ _ _).trans rfl
set_option maxRecDepth 1000000 in
set_option maxHeartbeats 4000000 in
theorem e144_42 (D : jx_D) (x1 : Int32) (x2 : Int32) (x3 : Int32) (x4 : Int32) (x5 : Int32) (h : jx_H) : F144_42 D x1 x2 x3 x4 x5 h = (jx_if (x5 < (h.1 30 0 1)) ((jx_if (jx_in x5 50) ((jx_if ((h.1 33 0 x5.toNatClampNeg) = x1) ((jx_if (jx_in x5 50) ((jx_if ((h.1 34 0 x5.toNatClampNeg) = x2) (F144_102 D x1 x2 x3 x4 x5 h) (F144_73 D x1 x2 x3 x4 x5 h))) none)) (F144_73 D x1 x2 x3 x4 x5 h))) none)) (F144_153 D x1 x2 x3 x4 (8 : Int32) (0 : Int32) h)) := (jx_it_eq (tl_m144 D) (jx_mem [16, 42, 73, 102, 106, 107, 120, 122, 137, 140, 153, 200, 201, 226, 228]) 128 _ _ _ _).trans rfl
set_option maxRecDepth 1000000 in
set_option maxHeartbeats 4000000 in
theorem e144_102 (D : jx_D) (x1 : Int32) (x2 : Int32) (x3 : Int32) (x4 : Int32) (x5 : Int32) (h : jx_H) : F144_102 D x1 x2 x3 x4 x5 h = F144_107 D x1 x2 x3 x4 x5 (1 : Int32) h := (jx_it_eq (tl_m144 D) (jx_mem [16, 42, 73, 102, 106, 107, 120, 122, 137, 140, 153, 200, 201, 226, 228]) 128 _ _ _ _).trans rfl
set_option maxRecDepth 1000000 in
set_option maxHeartbeats 4000000 in
theorem e144_73 (D : jx_D) (x1 : Int32) (x2 : Int32) (x3 : Int32) (x4 : Int32) (x5 : Int32) (h : jx_H) : F144_73 D x1 x2 x3 x4 x5 h = (jx_if ((h.1 30 0 2) = 0) ((jx_if (jx_in x5 50) ((jx_if ((h.1 33 0 x5.toNatClampNeg) = x2) ((jx_if (jx_in x5 50) ((jx_if ((h.1 34 0 x5.toNatClampNeg) = x1) (F144_102 D x1 x2 x3 x4 x5 h) (F144_106 D x1 x2 x3 x4 x5 h))) none)) (F144_106 D x1 x2 x3 x4 x5 h))) none)) (F144_106 D x1 x2 x3 x4 x5 h)) := (jx_it_eq (tl_m144 D) (jx_mem [16, 42, 73, 102, 106, 107, 120, 122, 137, 140, 153, 200, 201, 226, 228]) 128 _ _ _ _).trans rfl
set_option maxRecDepth 1000000 in
set_option maxHeartbeats 4000000 in
theorem e144_153 (D : jx_D) (x1 : Int32) (x2 : Int32) (x3 : Int32) (x4 : Int32) (x5 : Int32) (x6 : Int32) (h : jx_H) : F144_153 D x1 x2 x3 x4 x5 x6 h = (jx_bI (D 135 [vr 30 0] h) fun y1 h1 => (jx_if (x6 ≤ y1) ((jx_bI (D 136 [vi x6, vi x1] h1) fun y2 h2 => (jx_if (y2 = 0) ((jx_bI (D 136 [vi x6, vi x2] h2) fun y3 h3 => (jx_if (y3 = 0) ((jx_bI (D 145 [vr 30 0, vi x1, vi x6, vi x4] h3) fun y4 h4 => (jx_bI (D 136 [vi y4, vi x2] h4) fun y5 h5 => (jx_if (y5 = 0) (F144_201 D x1 x2 x3 x4 x5 x6 (1 : Int32) h5) (F144_200 D x1 x2 x3 x4 x5 x6 h5))))) (F144_200 D x1 x2 x3 x4 x5 x6 h3)))) (F144_200 D x1 x2 x3 x4 x5 x6 h2)))) (some ([vi (x3 + x5)], h1)))) := (jx_it_eq (tl_m144 D) (jx_mem [16, 42, 73, 102, 106, 107, 120, 122, 137, 140, 153, 200, 201, 226, 228]) 128 _ _ _ _).trans rfl
set_option maxRecDepth 1000000 in
set_option maxHeartbeats 4000000 in
theorem e144_107 (D : jx_D) (x1 : Int32) (x2 : Int32) (x3 : Int32) (x4 : Int32) (x5 : Int32) (s0 : Int32) (h : jx_H) : F144_107 D x1 x2 x3 x4 x5 s0 h = (jx_if (s0 = 0) (F144_120 D x1 x2 x4 x5 s0 (0 : Int32) x3 h) (F144_120 D x1 x2 x4 x5 s0 (1 : Int32) x3 h)) := (jx_it_eq (tl_m144 D) (jx_mem [16, 42, 73, 102, 106, 107, 120, 122, 137, 140, 153, 200, 201, 226, 228]) 128 _ _ _ _).trans rfl
set_option maxRecDepth 1000000 in
set_option maxHeartbeats 4000000 in
theorem e144_106 (D : jx_D) (x1 : Int32) (x2 : Int32) (x3 : Int32) (x4 : Int32) (x5 : Int32) (h : jx_H) : F144_106 D x1 x2 x3 x4 x5 h = F144_107 D x1 x2 x3 x4 x5 (0 : Int32) h := (jx_it_eq (tl_m144 D) (jx_mem [16, 42, 73, 102, 106, 107, 120, 122, 137, 140, 153, 200, 201, 226, 228]) 128 _ _ _ _).trans rfl
set_option maxRecDepth 1000000 in
set_option maxHeartbeats 4000000 in
theorem e144_201 (D : jx_D) (x1 : Int32) (x2 : Int32) (x3 : Int32) (x4 : Int32) (x5 : Int32) (x6 : Int32) (s0 : Int32) (h : jx_H) : F144_201 D x1 x2 x3 x4 x5 x6 s0 h = (jx_if (s0 = 0) (F144_226 D x1 x2 x3 x4 x5 x6 h) ((jx_bI (D 140 [vi x6] h) fun y1 h1 => (jx_if (y1 < x5) ((jx_bI (D 140 [vi x6] h1) fun y2 h2 => F144_228 D x1 x2 x3 x4 x6 y2 h2)) (F144_226 D x1 x2 x3 x4 x5 x6 h1))))) := (jx_it_eq (tl_m144 D) (jx_mem [16, 42, 73, 102, 106, 107, 120, 122, 137, 140, 153, 200, 201, 226, 228]) 128 _ _ _ _).trans rfl
set_option maxRecDepth 1000000 in
set_option maxHeartbeats 4000000 in
theorem e144_200 (D : jx_D) (x1 : Int32) (x2 : Int32) (x3 : Int32) (x4 : Int32) (x5 : Int32) (x6 : Int32) (h : jx_H) : F144_200 D x1 x2 x3 x4 x5 x6 h = F144_201 D x1 x2 x3 x4 x5 x6 (0 : Int32) h := (jx_it_eq (tl_m144 D) (jx_mem [16, 42, 73, 102, 106, 107, 120, 122, 137, 140, 153, 200, 201, 226, 228]) 128 _ _ _ _).trans rfl
set_option maxRecDepth 1000000 in
set_option maxHeartbeats 4000000 in
theorem e144_120 (D : jx_D) (x1 : Int32) (x2 : Int32) (x4 : Int32) (x5 : Int32) (x6 : Int32) (s0 : Int32) (s1 : Int32) (h : jx_H) : F144_120 D x1 x2 x4 x5 x6 s0 s1 h = F144_122 D x1 x2 (s1 + s0) x4 x5 x6 h := (jx_it_eq (tl_m144 D) (jx_mem [16, 42, 73, 102, 106, 107, 120, 122, 137, 140, 153, 200, 201, 226, 228]) 128 _ _ _ _).trans rfl
set_option maxRecDepth 1000000 in
set_option maxHeartbeats 4000000 in
theorem e144_226 (D : jx_D) (x1 : Int32) (x2 : Int32) (x3 : Int32) (x4 : Int32) (x5 : Int32) (x6 : Int32) (h : jx_H) : F144_226 D x1 x2 x3 x4 x5 x6 h = F144_228 D x1 x2 x3 x4 x6 x5 h := (jx_it_eq (tl_m144 D) (jx_mem [16, 42, 73, 102, 106, 107, 120, 122, 137, 140, 153, 200, 201, 226, 228]) 128 _ _ _ _).trans rfl
set_option maxRecDepth 1000000 in
set_option maxHeartbeats 4000000 in
theorem e144_228 (D : jx_D) (x1 : Int32) (x2 : Int32) (x3 : Int32) (x4 : Int32) (x6 : Int32) (s0 : Int32) (h : jx_H) : F144_228 D x1 x2 x3 x4 x6 s0 h = F144_153 D x1 x2 x3 x4 s0 (x6 + 1) h := (jx_it_eq (tl_m144 D) (jx_mem [16, 42, 73, 102, 106, 107, 120, 122, 137, 140, 153, 200, 201, 226, 228]) 128 _ _ _ _).trans rfl
set_option maxRecDepth 1000000 in
set_option maxHeartbeats 4000000 in
theorem e144_122 (D : jx_D) (x1 : Int32) (x2 : Int32) (x3 : Int32) (x4 : Int32) (x5 : Int32) (x6 : Int32) (h : jx_H) : F144_122 D x1 x2 x3 x4 x5 x6 h = (jx_if (x6 = 0) (F144_137 D x1 x2 x3 x5 ((1 : Int32) <<< (x5 &&& 31)) x4 h) (F144_137 D x1 x2 x3 x5 (0 : Int32) x4 h)) := (jx_it_eq (tl_m144 D) (jx_mem [16, 42, 73, 102, 106, 107, 120, 122, 137, 140, 153, 200, 201, 226, 228]) 128 _ _ _ _).trans rfl
set_option maxRecDepth 1000000 in
set_option maxHeartbeats 4000000 in
theorem e144_137 (D : jx_D) (x1 : Int32) (x2 : Int32) (x3 : Int32) (x5 : Int32) (s0 : Int32) (s1 : Int32) (h : jx_H) : F144_137 D x1 x2 x3 x5 s0 s1 h = F144_140 D x1 x2 x3 (s1 ||| s0) x5 h := (jx_it_eq (tl_m144 D) (jx_mem [16, 42, 73, 102, 106, 107, 120, 122, 137, 140, 153, 200, 201, 226, 228]) 128 _ _ _ _).trans rfl
set_option maxRecDepth 1000000 in
set_option maxHeartbeats 4000000 in
theorem e144_140 (D : jx_D) (x1 : Int32) (x2 : Int32) (x3 : Int32) (x4 : Int32) (x5 : Int32) (h : jx_H) : F144_140 D x1 x2 x3 x4 x5 h = F144_42 D x1 x2 x3 x4 (x5 + 1) h := (jx_it_eq (tl_m144 D) (jx_mem [16, 42, 73, 102, 106, 107, 120, 122, 137, 140, 153, 200, 201, 226, 228]) 128 _ _ _ _).trans rfl
noncomputable def F145_0 (D : jx_D) (x1 : Int32) (x2 : Int32) (x3 : Int32) (h : jx_H) : Option jx_R := jx_den (jx_look (tb_145 D)) (jx_nms mk_145) 0 [vr 30 0, vi x1, vi x2, vi x3, vn, vn, vn] [] h
noncomputable def F145_15 (D : jx_D) (x2 : Int32) (x3 : Int32) (s0 : Int32) (h : jx_H) : Option jx_R := jx_den (jx_look (tb_145 D)) (jx_nms mk_145) 15 [vr 30 0, vn, vi x2, vi x3, vn, vn, vn] [vi s0] h
noncomputable def F145_17 (D : jx_D) (x2 : Int32) (x3 : Int32) (x4 : Int32) (h : jx_H) : Option jx_R := jx_den (jx_look (tb_145 D)) (jx_nms mk_145) 17 [vr 30 0, vn, vi x2, vi x3, vi x4, vn, vn] [] h
noncomputable def F145_20 (D : jx_D) (x2 : Int32) (x3 : Int32) (x4 : Int32) (x5 : Int32) (h : jx_H) : Option jx_R := jx_den (jx_look (tb_145 D)) (jx_nms mk_145) 20 [vr 30 0, vn, vi x2, vi x3, vi x4, vi x5, vn] [] h
noncomputable def F145_34 (D : jx_D) (x2 : Int32) (x3 : Int32) (x4 : Int32) (x5 : Int32) (x6 : Int32) (h : jx_H) : Option jx_R := jx_den (jx_look (tb_145 D)) (jx_nms mk_145) 34 [vr 30 0, vn, vi x2, vi x3, vi x4, vi x5, vi x6] [] h
noncomputable def F145_153 (D : jx_D) (x2 : Int32) (x3 : Int32) (x4 : Int32) (x5 : Int32) (x6 : Int32) (h : jx_H) : Option jx_R := jx_den (jx_look (tb_145 D)) (jx_nms mk_145) 153 [vr 30 0, vn, vi x2, vi x3, vi x4, vi x5, vi x6] [] h
noncomputable def F145_110 (D : jx_D) (x2 : Int32) (x3 : Int32) (x5 : Int32) (x6 : Int32) (s0 : Int32) (s1 : Int32) (h : jx_H) : Option jx_R := jx_den (jx_look (tb_145 D)) (jx_nms mk_145) 110 [vr 30 0, vn, vi x2, vi x3, vn, vi x5, vi x6] [vi s0, vi s1] h
noncomputable def F145_113 (D : jx_D) (x2 : Int32) (x3 : Int32) (x4 : Int32) (x5 : Int32) (x6 : Int32) (h : jx_H) : Option jx_R := jx_den (jx_look (tb_145 D)) (jx_nms mk_145) 113 [vr 30 0, vn, vi x2, vi x3, vi x4, vi x5, vi x6] [] h
noncomputable def F145_149 (D : jx_D) (x2 : Int32) (x3 : Int32) (x5 : Int32) (x6 : Int32) (s0 : Int32) (h : jx_H) : Option jx_R := jx_den (jx_look (tb_145 D)) (jx_nms mk_145) 149 [vr 30 0, vn, vi x2, vi x3, vn, vi x5, vi x6] [vi s0] h
noncomputable def F145_150 (D : jx_D) (x2 : Int32) (x3 : Int32) (x5 : Int32) (x6 : Int32) (s0 : Int32) (s1 : Int32) (h : jx_H) : Option jx_R := jx_den (jx_look (tb_145 D)) (jx_nms mk_145) 150 [vr 30 0, vn, vi x2, vi x3, vn, vi x5, vi x6] [vi s0, vi s1] h
set_option maxRecDepth 1000000 in
set_option maxHeartbeats 4000000 in
theorem e145_0 (D : jx_D) (x1 : Int32) (x2 : Int32) (x3 : Int32) (h : jx_H) : F145_0 D x1 x2 x3 h = (jx_bI (D 136 [vi x2, vi x1] h) fun y1 h1 => (jx_if (y1 = 0) (F145_15 D x2 x3 ((1 : Int32) <<< (x1 &&& 31)) h1) (F145_15 D x2 x3 (0 : Int32) h1))) := (jx_it_eq (tl_m145 D) (jx_mem [15, 17, 20, 34, 110, 113, 149, 150, 153]) 88 _ _ _ _).trans rfl
set_option maxRecDepth 1000000 in
set_option maxHeartbeats 4000000 in
theorem e145_15 (D : jx_D) (x2 : Int32) (x3 : Int32) (s0 : Int32) (h : jx_H) : F145_15 D x2 x3 s0 h = F145_17 D x2 x3 s0 h := (jx_it_eq (tl_m145 D) (jx_mem [15, 17, 20, 34, 110, 113, 149, 150, 153]) 88 _ _ _ _).trans rfl
set_option maxRecDepth 1000000 in
set_option maxHeartbeats 4000000 in
theorem e145_17 (D : jx_D) (x2 : Int32) (x3 : Int32) (x4 : Int32) (h : jx_H) : F145_17 D x2 x3 x4 h = F145_20 D x2 x3 x4 (0 : Int32) h := (jx_it_eq (tl_m145 D) (jx_mem [15, 17, 20, 34, 110, 113, 149, 150, 153]) 88 _ _ _ _).trans rfl
set_option maxRecDepth 1000000 in
set_option maxHeartbeats 4000000 in
theorem e145_20 (D : jx_D) (x2 : Int32) (x3 : Int32) (x4 : Int32) (x5 : Int32) (h : jx_H) : F145_20 D x2 x3 x4 x5 h = (jx_if (x4 = x5) (some ([vi x4], h)) (F145_34 D x2 x3 x4 x4 (0 : Int32) h)) := (jx_it_eq (tl_m145 D) (jx_mem [15, 17, 20, 34, 110, 113, 149, 150, 153]) 88 _ _ _ _).trans rfl
set_option maxRecDepth 1000000 in
set_option maxHeartbeats 4000000 in
theorem e145_34 (D : jx_D) (x2 : Int32) (x3 : Int32) (x4 : Int32) (x5 : Int32) (x6 : Int32) (h : jx_H) : F145_34 D x2 x3 x4 x5 x6 h = (jx_if (x6 < (h.1 30 0 1)) ((jx_bI (D 136 [vi x3, vi x6] h) fun y1 h1 => (jx_if (y1 = 0) (F145_153 D x2 x3 x4 x5 x6 h1) ((jx_if (jx_in x6 50) ((jx_bI (D 136 [vi x2, vi (h1.1 33 0 x6.toNatClampNeg)] h1) fun y2 h2 => (jx_if (y2 = 0) ((jx_if (jx_in x6 50) ((jx_bI (D 136 [vi x2, vi (h2.1 34 0 x6.toNatClampNeg)] h2) fun y3 h3 => (jx_if (y3 = 0) ((jx_if (jx_in x6 50) ((jx_bI (D 136 [vi x4, vi (h3.1 33 0 x6.toNatClampNeg)] h3) fun y4 h4 => (jx_if (y4 = 0) (F145_110 D x2 x3 x5 x6 (0 : Int32) x4 h4) ((jx_if (jx_in x6 50) (F145_110 D x2 x3 x5 x6 ((1 : Int32) <<< ((h4.1 34 0 x6.toNatClampNeg) &&& 31)) x4 h4) none))))) none)) (F145_153 D x2 x3 x4 x5 x6 h3)))) none)) (F145_153 D x2 x3 x4 x5 x6 h2)))) none))))) (F145_20 D x2 x3 x4 x5 h)) := (jx_it_eq (tl_m145 D) (jx_mem [15, 17, 20, 34, 110, 113, 149, 150, 153]) 88 _ _ _ _).trans rfl
set_option maxRecDepth 1000000 in
set_option maxHeartbeats 4000000 in
theorem e145_153 (D : jx_D) (x2 : Int32) (x3 : Int32) (x4 : Int32) (x5 : Int32) (x6 : Int32) (h : jx_H) : F145_153 D x2 x3 x4 x5 x6 h = F145_34 D x2 x3 x4 x5 (x6 + 1) h := (jx_it_eq (tl_m145 D) (jx_mem [15, 17, 20, 34, 110, 113, 149, 150, 153]) 88 _ _ _ _).trans rfl
set_option maxRecDepth 1000000 in
set_option maxHeartbeats 4000000 in
theorem e145_110 (D : jx_D) (x2 : Int32) (x3 : Int32) (x5 : Int32) (x6 : Int32) (s0 : Int32) (s1 : Int32) (h : jx_H) : F145_110 D x2 x3 x5 x6 s0 s1 h = F145_113 D x2 x3 (s1 ||| s0) x5 x6 h := (jx_it_eq (tl_m145 D) (jx_mem [15, 17, 20, 34, 110, 113, 149, 150, 153]) 88 _ _ _ _).trans rfl
set_option maxRecDepth 1000000 in
set_option maxHeartbeats 4000000 in
theorem e145_113 (D : jx_D) (x2 : Int32) (x3 : Int32) (x4 : Int32) (x5 : Int32) (x6 : Int32) (h : jx_H) : F145_113 D x2 x3 x4 x5 x6 h = (jx_if ((h.1 30 0 2) = 0) ((jx_if (jx_in x6 50) ((jx_bI (D 136 [vi x4, vi (h.1 34 0 x6.toNatClampNeg)] h) fun y1 h1 => (jx_if (y1 = 0) (F145_149 D x2 x3 x5 x6 x4 h1) ((jx_if (jx_in x6 50) (F145_150 D x2 x3 x5 x6 ((1 : Int32) <<< ((h1.1 33 0 x6.toNatClampNeg) &&& 31)) x4 h1) none))))) none)) (F145_149 D x2 x3 x5 x6 x4 h)) := (jx_it_eq (tl_m145 D) (jx_mem [15, 17, 20, 34, 110, 113, 149, 150, 153]) 88 _ _ _ _).trans rfl
set_option maxRecDepth 1000000 in
set_option maxHeartbeats 4000000 in
theorem e145_149 (D : jx_D) (x2 : Int32) (x3 : Int32) (x5 : Int32) (x6 : Int32) (s0 : Int32) (h : jx_H) : F145_149 D x2 x3 x5 x6 s0 h = F145_150 D x2 x3 x5 x6 (0 : Int32) s0 h := (jx_it_eq (tl_m145 D) (jx_mem [15, 17, 20, 34, 110, 113, 149, 150, 153]) 88 _ _ _ _).trans rfl
set_option maxRecDepth 1000000 in
set_option maxHeartbeats 4000000 in
theorem e145_150 (D : jx_D) (x2 : Int32) (x3 : Int32) (x5 : Int32) (x6 : Int32) (s0 : Int32) (s1 : Int32) (h : jx_H) : F145_150 D x2 x3 x5 x6 s0 s1 h = F145_153 D x2 x3 (s1 ||| s0) x5 x6 h := (jx_it_eq (tl_m145 D) (jx_mem [15, 17, 20, 34, 110, 113, 149, 150, 153]) 88 _ _ _ _).trans rfl
noncomputable def F146_0 (D : jx_D) (x1 : Int32) (x2 : Int32) (h : jx_H) : Option jx_R := jx_den (jx_look (tb_146 D)) (jx_nms mk_146) 0 [vr 30 0, vi x1, vi x2, vn, vn] [] h
noncomputable def F146_13 (D : jx_D) (h : jx_H) : Option jx_R := jx_den (jx_look (tb_146 D)) (jx_nms mk_146) 13 [vr 30 0, vn, vn, vn, vn] [] h
noncomputable def F146_43 (D : jx_D) (x1 : Int32) (x2 : Int32) (x3 : Int32) (x4 : Int32) (h : jx_H) : Option jx_R := jx_den (jx_look (tb_146 D)) (jx_nms mk_146) 43 [vr 30 0, vi x1, vi x2, vi x3, vi x4] [] h
noncomputable def F146_65 (D : jx_D) (x1 : Int32) (x2 : Int32) (x3 : Int32) (x4 : Int32) (h : jx_H) : Option jx_R := jx_den (jx_look (tb_146 D)) (jx_nms mk_146) 65 [vr 30 0, vi x1, vi x2, vi x3, vi x4] [] h
noncomputable def F146_81 (D : jx_D) (x1 : Int32) (x2 : Int32) (x4 : Int32) (s0 : Int32) (h : jx_H) : Option jx_R := jx_den (jx_look (tb_146 D)) (jx_nms mk_146) 81 [vr 30 0, vi x1, vi x2, vn, vi x4] [vi s0] h
set_option maxRecDepth 1000000 in
set_option maxHeartbeats 4000000 in
theorem e146_0 (D : jx_D) (x1 : Int32) (x2 : Int32) (h : jx_H) : F146_0 D x1 x2 h = (jx_bI (D 118 [vr 30 0, vi x1] h) fun y1 h1 => (jx_if (y1 = 0) (F146_13 D h1) ((jx_if (x2 < (1 : Int32)) (F146_13 D h1) ((jx_if ((h1.1 30 0 2) = 0) (F146_43 D x1 x2 x1 ((h1.1 30 0 0) - (1 : Int32)) h1) ((jx_bI (D 111 [vr 30 0, vi ((-8) : Int32)] h1) fun y2 h2 => some ([vi y2], h2))))))))) := (jx_it_eq (tl_m146 D) (jx_mem [13, 43, 65, 81]) 52 _ _ _ _).trans rfl
set_option maxRecDepth 1000000 in
set_option maxHeartbeats 4000000 in
theorem e146_13 (D : jx_D) (h : jx_H) : F146_13 D h = (jx_bI (D 111 [vr 30 0, vi ((-1) : Int32)] h) fun y1 h1 => some ([vi y1], h1)) := (jx_it_eq (tl_m146 D) (jx_mem [13, 43, 65, 81]) 52 _ _ _ _).trans rfl
set_option maxRecDepth 1000000 in
set_option maxHeartbeats 4000000 in
theorem e146_43 (D : jx_D) (x1 : Int32) (x2 : Int32) (x3 : Int32) (x4 : Int32) (h : jx_H) : F146_43 D x1 x2 x3 x4 h = (jx_if (x4 < 0) (some ([vi x3], h)) ((jx_if (x4 = x1) (F146_65 D x1 x2 x3 x4 h) ((jx_bI (D 134 [vr 30 0, vi x1, vi x4] h) fun y1 h1 => (jx_if (y1 < x2) (F146_81 D x1 x2 x4 x3 h1) (F146_65 D x1 x2 x3 x4 h1))))))) := (jx_it_eq (tl_m146 D) (jx_mem [13, 43, 65, 81]) 52 _ _ _ _).trans rfl
set_option maxRecDepth 1000000 in
set_option maxHeartbeats 4000000 in
theorem e146_65 (D : jx_D) (x1 : Int32) (x2 : Int32) (x3 : Int32) (x4 : Int32) (h : jx_H) : F146_65 D x1 x2 x3 x4 h = (jx_if (x4 < x3) (F146_81 D x1 x2 x4 x4 h) (F146_81 D x1 x2 x4 x3 h)) := (jx_it_eq (tl_m146 D) (jx_mem [13, 43, 65, 81]) 52 _ _ _ _).trans rfl
set_option maxRecDepth 1000000 in
set_option maxHeartbeats 4000000 in
theorem e146_81 (D : jx_D) (x1 : Int32) (x2 : Int32) (x4 : Int32) (s0 : Int32) (h : jx_H) : F146_81 D x1 x2 x4 s0 h = F146_43 D x1 x2 s0 (x4 + (-1)) h := (jx_it_eq (tl_m146 D) (jx_mem [13, 43, 65, 81]) 52 _ _ _ _).trans rfl
noncomputable def F147_0 (D : jx_D) (x1 : Int32) (x2 : Int32) (h : jx_H) : Option jx_R := jx_den (jx_look (tb_147 D)) (jx_nms mk_147) 0 [vr 30 0, vi x1, vi x2, vn] [] h
noncomputable def F147_15 (D : jx_D) (x1 : Int32) (x2 : Int32) (s0 : Int32) (h : jx_H) : Option jx_R := jx_den (jx_look (tb_147 D)) (jx_nms mk_147) 15 [vr 30 0, vi x1, vi x2, vn] [vi s0] h
noncomputable def F147_25 (D : jx_D) (h : jx_H) : Option jx_R := jx_den (jx_look (tb_147 D)) (jx_nms mk_147) 25 [vr 30 0, vn, vn, vn] [] h
noncomputable def F147_52 (D : jx_D) (x1 : Int32) (x2 : Int32) (h : jx_H) : Option jx_R := jx_den (jx_look (tb_147 D)) (jx_nms mk_147) 52 [vr 30 0, vi x1, vi x2, vn] [] h
noncomputable def F147_91 (D : jx_D) (h : jx_H) : Option jx_R := jx_den (jx_look (tb_147 D)) (jx_nms mk_147) 91 [vn, vn, vn, vn] [] h
noncomputable def F147_87 (D : jx_D) (h : jx_H) : Option jx_R := jx_den (jx_look (tb_147 D)) (jx_nms mk_147) 87 [vn, vn, vn, vn] [] h
noncomputable def F147_92 (D : jx_D) (s0 : Int32) (h : jx_H) : Option jx_R := jx_den (jx_look (tb_147 D)) (jx_nms mk_147) 92 [vn, vn, vn, vn] [vi s0] h
set_option maxRecDepth 1000000 in
set_option maxHeartbeats 4000000 in
theorem e147_0 (D : jx_D) (x1 : Int32) (x2 : Int32) (h : jx_H) : F147_0 D x1 x2 h = (jx_if (x1 = 0) ((jx_bI (D 137 [vr 30 0] h) fun y1 h1 => F147_15 D x1 x2 y1 h1)) ((jx_bI (D 135 [vr 30 0] h) fun y2 h2 => F147_15 D x1 x2 y2 h2))) := (jx_it_eq (tl_m147 D) (jx_mem [15, 25, 52, 87, 91, 92]) 56 _ _ _ _).trans rfl
set_option maxRecDepth 1000000 in
set_option maxHeartbeats 4000000 in
theorem e147_15 (D : jx_D) (x1 : Int32) (x2 : Int32) (s0 : Int32) (h : jx_H) : F147_15 D x1 x2 s0 h = (jx_if (x2 < 0) (F147_25 D h) ((jx_if (x2 ≤ s0) ((jx_if (x1 = 0) (F147_52 D x1 x2 h) ((jx_bI (D 135 [vr 30 0] h) fun y1 h1 => (jx_bI (D 140 [vi (y1 &&& (x2 ^^^ ((-1) : Int32)))] h1) fun y2 h2 => (jx_if (y2 ≤ (1 : Int32)) (some ([vi (1 : Int32)], h2)) (F147_52 D x1 x2 h2))))))) (F147_25 D h)))) := (jx_it_eq (tl_m147 D) (jx_mem [15, 25, 52, 87, 91, 92]) 56 _ _ _ _).trans rfl
set_option maxRecDepth 1000000 in
set_option maxHeartbeats 4000000 in
theorem e147_25 (D : jx_D) (h : jx_H) : F147_25 D h = (jx_bI (D 111 [vr 30 0, vi ((-1) : Int32)] h) fun y1 h1 => some ([vi y1], h1)) := (jx_it_eq (tl_m147 D) (jx_mem [15, 25, 52, 87, 91, 92]) 56 _ _ _ _).trans rfl
set_option maxRecDepth 1000000 in
set_option maxHeartbeats 4000000 in
theorem e147_52 (D : jx_D) (x1 : Int32) (x2 : Int32) (h : jx_H) : F147_52 D x1 x2 h = (jx_if (x1 = 0) ((jx_bI (D 137 [vr 30 0] h) fun y1 h1 => (jx_bI (D 148 [vr 30 0, vi (0 : Int32), vi (y1 &&& (x2 ^^^ ((-1) : Int32)))] h1) fun y2 h2 => (jx_if (y2 = 0) (F147_91 D h2) (F147_87 D h2))))) ((jx_bI (D 137 [vr 30 0] h) fun y3 h3 => (jx_bI (D 148 [vr 30 0, vi x2, vi y3] h3) fun y4 h4 => (jx_if (y4 = 0) (F147_91 D h4) (F147_87 D h4)))))) := (jx_it_eq (tl_m147 D) (jx_mem [15, 25, 52, 87, 91, 92]) 56 _ _ _ _).trans rfl
set_option maxRecDepth 1000000 in
set_option maxHeartbeats 4000000 in
theorem e147_91 (D : jx_D) (h : jx_H) : F147_91 D h = F147_92 D (0 : Int32) h := (jx_it_eq (tl_m147 D) (jx_mem [15, 25, 52, 87, 91, 92]) 56 _ _ _ _).trans rfl
set_option maxRecDepth 1000000 in
set_option maxHeartbeats 4000000 in
theorem e147_87 (D : jx_D) (h : jx_H) : F147_87 D h = F147_92 D (1 : Int32) h := (jx_it_eq (tl_m147 D) (jx_mem [15, 25, 52, 87, 91, 92]) 56 _ _ _ _).trans rfl
set_option maxRecDepth 1000000 in
set_option maxHeartbeats 4000000 in
theorem e147_92 (D : jx_D) (s0 : Int32) (h : jx_H) : F147_92 D s0 h = some ([vi s0], h) := (jx_it_eq (tl_m147 D) (jx_mem [15, 25, 52, 87, 91, 92]) 56 _ _ _ _).trans rfl
noncomputable def F148_0 (D : jx_D) (x1 : Int32) (x2 : Int32) (h : jx_H) : Option jx_R := jx_den (jx_look (tb_148 D)) (jx_nms mk_148) 0 [vr 30 0, vi x1, vi x2, vn, vn] [] h
noncomputable def F148_12 (D : jx_D) (x1 : Int32) (x2 : Int32) (s0 : Int32) (h : jx_H) : Option jx_R := jx_den (jx_look (tb_148 D)) (jx_nms mk_148) 12 [vr 30 0, vi x1, vi x2, vn, vn] [vi s0] h
noncomputable def F148_16 (D : jx_D) (x1 : Int32) (x2 : Int32) (x3 : Int32) (x4 : Int32) (h : jx_H) : Option jx_R := jx_den (jx_look (tb_148 D)) (jx_nms mk_148) 16 [vr 30 0, vi x1, vi x2, vi x3, vi x4] [] h
noncomputable def F148_54 (D : jx_D) (x1 : Int32) (x2 : Int32) (x4 : Int32) (s0 : Int32) (h : jx_H) : Option jx_R := jx_den (jx_look (tb_148 D)) (jx_nms mk_148) 54 [vr 30 0, vi x1, vi x2, vn, vi x4] [vi s0] h
noncomputable def F148_59 (D : jx_D) (x1 : Int32) (x2 : Int32) (x4 : Int32) (s0 : Int32) (s1 : Int32) (h : jx_H) : Option jx_R := jx_den (jx_look (tb_148 D)) (jx_nms mk_148) 59 [vr 30 0, vi x1, vi x2, vn, vi x4] [vi s0, vi s1] h
noncomputable def F148_61 (D : jx_D) (x1 : Int32) (x2 : Int32) (x3 : Int32) (x4 : Int32) (h : jx_H) : Option jx_R := jx_den (jx_look (tb_148 D)) (jx_nms mk_148) 61 [vr 30 0, vi x1, vi x2, vi x3, vi x4] [] h
set_option maxRecDepth 1000000 in
set_option maxHeartbeats 4000000 in
theorem e148_0 (D : jx_D) (x1 : Int32) (x2 : Int32) (h : jx_H) : F148_0 D x1 x2 h = (jx_if (0 < (h.1 30 0 0)) (F148_12 D x1 x2 (1 : Int32) h) (F148_12 D x1 x2 (0 : Int32) h)) := (jx_it_eq (tl_m148 D) (jx_mem [12, 16, 54, 59, 61]) 42 _ _ _ _).trans rfl
set_option maxRecDepth 1000000 in
set_option maxHeartbeats 4000000 in
theorem e148_12 (D : jx_D) (x1 : Int32) (x2 : Int32) (s0 : Int32) (h : jx_H) : F148_12 D x1 x2 s0 h = F148_16 D x1 x2 s0 (0 : Int32) h := (jx_it_eq (tl_m148 D) (jx_mem [12, 16, 54, 59, 61]) 42 _ _ _ _).trans rfl
set_option maxRecDepth 1000000 in
set_option maxHeartbeats 4000000 in
theorem e148_16 (D : jx_D) (x1 : Int32) (x2 : Int32) (x3 : Int32) (x4 : Int32) (h : jx_H) : F148_16 D x1 x2 x3 x4 h = (jx_if (x4 < (h.1 30 0 0)) ((jx_bI (D 136 [vi x1, vi x4] h) fun y1 h1 => (jx_if (y1 = 0) ((jx_bI (D 145 [vr 30 0, vi x4, vi x1, vi x2] h1) fun y2 h2 => (jx_bI (D 135 [vr 30 0] h2) fun y3 h3 => (jx_if (y2 = (y3 &&& (x1 ^^^ ((-1) : Int32)))) (F148_54 D x1 x2 x4 x3 h3) (F148_59 D x1 x2 x4 (0 : Int32) x3 h3))))) (F148_54 D x1 x2 x4 x3 h1)))) ((jx_if (x3 = 0 ∨ x3 = 1) (some ([vi x3], h)) none))) := (jx_it_eq (tl_m148 D) (jx_mem [12, 16, 54, 59, 61]) 42 _ _ _ _).trans rfl
set_option maxRecDepth 1000000 in
set_option maxHeartbeats 4000000 in
theorem e148_54 (D : jx_D) (x1 : Int32) (x2 : Int32) (x4 : Int32) (s0 : Int32) (h : jx_H) : F148_54 D x1 x2 x4 s0 h = F148_59 D x1 x2 x4 (1 : Int32) s0 h := (jx_it_eq (tl_m148 D) (jx_mem [12, 16, 54, 59, 61]) 42 _ _ _ _).trans rfl
set_option maxRecDepth 1000000 in
set_option maxHeartbeats 4000000 in
theorem e148_59 (D : jx_D) (x1 : Int32) (x2 : Int32) (x4 : Int32) (s0 : Int32) (s1 : Int32) (h : jx_H) : F148_59 D x1 x2 x4 s0 s1 h = F148_61 D x1 x2 (s1 &&& s0) x4 h := (jx_it_eq (tl_m148 D) (jx_mem [12, 16, 54, 59, 61]) 42 _ _ _ _).trans rfl
set_option maxRecDepth 1000000 in
set_option maxHeartbeats 4000000 in
theorem e148_61 (D : jx_D) (x1 : Int32) (x2 : Int32) (x3 : Int32) (x4 : Int32) (h : jx_H) : F148_61 D x1 x2 x3 x4 h = F148_16 D x1 x2 x3 (x4 + 1) h := (jx_it_eq (tl_m148 D) (jx_mem [12, 16, 54, 59, 61]) 42 _ _ _ _).trans rfl
noncomputable def F149_0 (D : jx_D) (h : jx_H) : Option jx_R := jx_den (jx_look (tb_149 D)) (jx_nms mk_149) 0 [vr 30 0, vn, vn] [] h
noncomputable def F149_18 (D : jx_D) (x1 : Int32) (x2 : Int32) (h : jx_H) : Option jx_R := jx_den (jx_look (tb_149 D)) (jx_nms mk_149) 18 [vr 30 0, vi x1, vi x2] [] h
noncomputable def F149_67 (D : jx_D) (x2 : Int32) (s0 : Int32) (s1 : Int32) (h : jx_H) : Option jx_R := jx_den (jx_look (tb_149 D)) (jx_nms mk_149) 67 [vr 30 0, vn, vi x2] [vi s0, vi s1] h
noncomputable def F149_69 (D : jx_D) (x1 : Int32) (x2 : Int32) (h : jx_H) : Option jx_R := jx_den (jx_look (tb_149 D)) (jx_nms mk_149) 69 [vr 30 0, vi x1, vi x2] [] h
set_option maxRecDepth 1000000 in
set_option maxHeartbeats 4000000 in
theorem e149_0 (D : jx_D) (h : jx_H) : F149_0 D h = (jx_if ((h.1 30 0 2) = 0) (F149_18 D (0 : Int32) (0 : Int32) h) ((jx_bI (D 111 [vr 30 0, vi ((-8) : Int32)] h) fun y1 h1 => some ([vi y1], h1)))) := (jx_it_eq (tl_m149 D) (jx_mem [18, 67, 69]) 51 _ _ _ _).trans rfl
set_option maxRecDepth 1000000 in
set_option maxHeartbeats 4000000 in
theorem e149_18 (D : jx_D) (x1 : Int32) (x2 : Int32) (h : jx_H) : F149_18 D x1 x2 h = (jx_if (x2 < (h.1 30 0 1)) ((jx_if (jx_in x2 50) ((jx_bI (D 137 [vr 30 0] h) fun y1 h1 => (jx_bI (D 145 [vr 30 0, vi (h.1 33 0 x2.toNatClampNeg), vi (0 : Int32), vi (y1 &&& (((1 : Int32) <<< (x2 &&& 31)) ^^^ ((-1) : Int32)))] h1) fun y2 h2 => (jx_if (jx_in x2 50) ((jx_bI (D 136 [vi y2, vi (h2.1 34 0 x2.toNatClampNeg)] h2) fun y3 h3 => (jx_if (y3 = 0) (F149_67 D x2 ((1 : Int32) <<< (x2 &&& 31)) x1 h3) (F149_67 D x2 (0 : Int32) x1 h3)))) none)))) none)) (some ([vi x1], h))) := (jx_it_eq (tl_m149 D) (jx_mem [18, 67, 69]) 51 _ _ _ _).trans rfl
set_option maxRecDepth 1000000 in
set_option maxHeartbeats 4000000 in
theorem e149_67 (D : jx_D) (x2 : Int32) (s0 : Int32) (s1 : Int32) (h : jx_H) : F149_67 D x2 s0 s1 h = F149_69 D (s1 ||| s0) x2 h := (jx_it_eq (tl_m149 D) (jx_mem [18, 67, 69]) 51 _ _ _ _).trans rfl
set_option maxRecDepth 1000000 in
set_option maxHeartbeats 4000000 in
theorem e149_69 (D : jx_D) (x1 : Int32) (x2 : Int32) (h : jx_H) : F149_69 D x1 x2 h = F149_18 D x1 (x2 + 1) h := (jx_it_eq (tl_m149 D) (jx_mem [18, 67, 69]) 51 _ _ _ _).trans rfl
noncomputable def F150_0 (D : jx_D) (h : jx_H) : Option jx_R := jx_den (jx_look (tb_150 D)) (jx_nms mk_150) 0 [vr 30 0, vn, vn, vn, vn] [] h
noncomputable def F150_18 (D : jx_D) (x1 : Int32) (x2 : Int32) (h : jx_H) : Option jx_R := jx_den (jx_look (tb_150 D)) (jx_nms mk_150) 18 [vr 30 0, vi x1, vi x2, vn, vn] [] h
noncomputable def F150_31 (D : jx_D) (x1 : Int32) (x2 : Int32) (x3 : Int32) (x4 : Int32) (h : jx_H) : Option jx_R := jx_den (jx_look (tb_150 D)) (jx_nms mk_150) 31 [vr 30 0, vi x1, vi x2, vi x3, vi x4] [] h
noncomputable def F150_84 (D : jx_D) (x1 : Int32) (x2 : Int32) (x4 : Int32) (s0 : Int32) (h : jx_H) : Option jx_R := jx_den (jx_look (tb_150 D)) (jx_nms mk_150) 84 [vr 30 0, vi x1, vi x2, vn, vi x4] [vi s0] h
noncomputable def F150_85 (D : jx_D) (x1 : Int32) (x2 : Int32) (x4 : Int32) (s0 : Int32) (s1 : Int32) (h : jx_H) : Option jx_R := jx_den (jx_look (tb_150 D)) (jx_nms mk_150) 85 [vr 30 0, vi x1, vi x2, vn, vi x4] [vi s0, vi s1] h
noncomputable def F150_105 (D : jx_D) (x2 : Int32) (s0 : Int32) (s1 : Int32) (h : jx_H) : Option jx_R := jx_den (jx_look (tb_150 D)) (jx_nms mk_150) 105 [vr 30 0, vn, vi x2, vn, vn] [vi s0, vi s1] h
noncomputable def F150_87 (D : jx_D) (x1 : Int32) (x2 : Int32) (x3 : Int32) (x4 : Int32) (h : jx_H) : Option jx_R := jx_den (jx_look (tb_150 D)) (jx_nms mk_150) 87 [vr 30 0, vi x1, vi x2, vi x3, vi x4] [] h
noncomputable def F150_107 (D : jx_D) (x1 : Int32) (x2 : Int32) (h : jx_H) : Option jx_R := jx_den (jx_look (tb_150 D)) (jx_nms mk_150) 107 [vr 30 0, vi x1, vi x2, vn, vn] [] h
set_option maxRecDepth 1000000 in
set_option maxHeartbeats 4000000 in
theorem e150_0 (D : jx_D) (h : jx_H) : F150_0 D h = (jx_if ((h.1 30 0 2) = 0) (F150_18 D (0 : Int32) (0 : Int32) h) ((jx_bI (D 111 [vr 30 0, vi ((-8) : Int32)] h) fun y1 h1 => some ([vi y1], h1)))) := (jx_it_eq (tl_m150 D) (jx_mem [18, 31, 84, 85, 87, 105, 107]) 72 _ _ _ _).trans rfl
set_option maxRecDepth 1000000 in
set_option maxHeartbeats 4000000 in
theorem e150_18 (D : jx_D) (x1 : Int32) (x2 : Int32) (h : jx_H) : F150_18 D x1 x2 h = (jx_if (x2 < (h.1 30 0 0)) (F150_31 D x1 x2 (0 : Int32) (0 : Int32) h) (some ([vi x1], h))) := (jx_it_eq (tl_m150 D) (jx_mem [18, 31, 84, 85, 87, 105, 107]) 72 _ _ _ _).trans rfl
set_option maxRecDepth 1000000 in
set_option maxHeartbeats 4000000 in
theorem e150_31 (D : jx_D) (x1 : Int32) (x2 : Int32) (x3 : Int32) (x4 : Int32) (h : jx_H) : F150_31 D x1 x2 x3 x4 h = (jx_if (x4 < (h.1 30 0 0)) ((jx_if (x4 = x2) (F150_84 D x1 x2 x4 x3 h) ((jx_bI (D 137 [vr 30 0] h) fun y1 h1 => (jx_bI (D 145 [vr 30 0, vi x4, vi ((1 : Int32) <<< (x2 &&& 31)), vi y1] h1) fun y2 h2 => (jx_bI (D 137 [vr 30 0] h2) fun y3 h3 => (jx_bI (D 145 [vr 30 0, vi x4, vi (0 : Int32), vi y3] h3) fun y4 h4 => (jx_if (y2 = (y4 &&& (((1 : Int32) <<< (x2 &&& 31)) ^^^ ((-1) : Int32)))) (F150_84 D x1 x2 x4 x3 h4) (F150_85 D x1 x2 x4 (1 : Int32) x3 h4))))))))) ((jx_if (x3 = 0) (F150_105 D x2 (0 : Int32) x1 h) (F150_105 D x2 ((1 : Int32) <<< (x2 &&& 31)) x1 h)))) := (jx_it_eq (tl_m150 D) (jx_mem [18, 31, 84, 85, 87, 105, 107]) 72 _ _ _ _).trans rfl
set_option maxRecDepth 1000000 in
set_option maxHeartbeats 4000000 in
theorem e150_84 (D : jx_D) (x1 : Int32) (x2 : Int32) (x4 : Int32) (s0 : Int32) (h : jx_H) : F150_84 D x1 x2 x4 s0 h = F150_85 D x1 x2 x4 (0 : Int32) s0 h := (jx_it_eq (tl_m150 D) (jx_mem [18, 31, 84, 85, 87, 105, 107]) 72 _ _ _ _).trans rfl
set_option maxRecDepth 1000000 in
set_option maxHeartbeats 4000000 in
theorem e150_85 (D : jx_D) (x1 : Int32) (x2 : Int32) (x4 : Int32) (s0 : Int32) (s1 : Int32) (h : jx_H) : F150_85 D x1 x2 x4 s0 s1 h = F150_87 D x1 x2 (s1 ||| s0) x4 h := (jx_it_eq (tl_m150 D) (jx_mem [18, 31, 84, 85, 87, 105, 107]) 72 _ _ _ _).trans rfl
set_option maxRecDepth 1000000 in
set_option maxHeartbeats 4000000 in
theorem e150_105 (D : jx_D) (x2 : Int32) (s0 : Int32) (s1 : Int32) (h : jx_H) : F150_105 D x2 s0 s1 h = F150_107 D (s1 ||| s0) x2 h := (jx_it_eq (tl_m150 D) (jx_mem [18, 31, 84, 85, 87, 105, 107]) 72 _ _ _ _).trans rfl
set_option maxRecDepth 1000000 in
set_option maxHeartbeats 4000000 in
theorem e150_87 (D : jx_D) (x1 : Int32) (x2 : Int32) (x3 : Int32) (x4 : Int32) (h : jx_H) : F150_87 D x1 x2 x3 x4 h = F150_31 D x1 x2 x3 (x4 + 1) h := (jx_it_eq (tl_m150 D) (jx_mem [18, 31, 84, 85, 87, 105, 107]) 72 _ _ _ _).trans rfl
set_option maxRecDepth 1000000 in
set_option maxHeartbeats 4000000 in
theorem e150_107 (D : jx_D) (x1 : Int32) (x2 : Int32) (h : jx_H) : F150_107 D x1 x2 h = F150_18 D x1 (x2 + 1) h := (jx_it_eq (tl_m150 D) (jx_mem [18, 31, 84, 85, 87, 105, 107]) 72 _ _ _ _).trans rfl
noncomputable def F151_0 (D : jx_D) (x1 : Int32) (h : jx_H) : Option jx_R := jx_den (jx_look (tb_151 D)) (jx_nms mk_151) 0 [vr 30 0, vi x1, vn] [] h
noncomputable def F151_30 (D : jx_D) (x1 : Int32) (x2 : Int32) (h : jx_H) : Option jx_R := jx_den (jx_look (tb_151 D)) (jx_nms mk_151) 30 [vr 30 0, vi x1, vi x2] [] h
set_option maxRecDepth 1000000 in
set_option maxHeartbeats 4000000 in
theorem e151_0 (D : jx_D) (x1 : Int32) (h : jx_H) : F151_0 D x1 h = (jx_bI (D 121 [vr 30 0, vi x1] h) fun y1 h1 => (jx_if (y1 = 0) ((jx_bI (D 111 [vr 30 0, vi ((-1) : Int32)] h1) fun y2 h2 => some ([vi y2], h2))) ((jx_if ((h1.1 30 0 2) = 0) (F151_30 D x1 (0 : Int32) h1) ((jx_bI (D 111 [vr 30 0, vi ((-8) : Int32)] h1) fun y3 h3 => some ([vi y3], h3))))))) := (jx_it_eq (tl_m151 D) (jx_mem [30]) 34 _ _ _ _).trans rfl
set_option maxRecDepth 1000000 in
set_option maxHeartbeats 4000000 in
theorem e151_30 (D : jx_D) (x1 : Int32) (x2 : Int32) (h : jx_H) : F151_30 D x1 x2 h = (jx_if (x2 < x1) ((jx_bI (D 152 [vr 30 0, vi x2, vi x1] h) fun y1 h1 => (jx_if (y1 = 0) (F151_30 D x1 (x2 + 1) h1) (some ([vi x2], h1))))) (some ([vi x1], h))) := (jx_it_eq (tl_m151 D) (jx_mem [30]) 34 _ _ _ _).trans rfl
noncomputable def F152_0 (D : jx_D) (x1 : Int32) (x2 : Int32) (h : jx_H) : Option jx_R := jx_den (jx_look (tb_152 D)) (jx_nms mk_152) 0 [vr 30 0, vi x1, vi x2, vn, vn, vn] [] h
noncomputable def F152_2 (D : jx_D) (x1 : Int32) (x2 : Int32) (x3 : Int32) (h : jx_H) : Option jx_R := jx_den (jx_look (tb_152 D)) (jx_nms mk_152) 2 [vr 30 0, vi x1, vi x2, vi x3, vn, vn] [] h
noncomputable def F152_35 (D : jx_D) (x1 : Int32) (x2 : Int32) (x3 : Int32) (s0 : Int32) (h : jx_H) : Option jx_R := jx_den (jx_look (tb_152 D)) (jx_nms mk_152) 35 [vr 30 0, vi x1, vi x2, vi x3, vn, vn] [vi s0] h
noncomputable def F152_62 (D : jx_D) (x1 : Int32) (x2 : Int32) (x3 : Int32) (x4 : Int32) (s0 : Int32) (h : jx_H) : Option jx_R := jx_den (jx_look (tb_152 D)) (jx_nms mk_152) 62 [vr 30 0, vi x1, vi x2, vi x3, vi x4, vn] [vi s0] h
set_option maxRecDepth 1000000 in
set_option maxHeartbeats 4000000 in
theorem e152_0 (D : jx_D) (x1 : Int32) (x2 : Int32) (h : jx_H) : F152_0 D x1 x2 h = F152_2 D x1 x2 (0 : Int32) h := (jx_it_eq (tl_m152 D) (jx_mem [2, 35, 62]) 58 _ _ _ _).trans rfl
set_option maxRecDepth 1000000 in
set_option maxHeartbeats 4000000 in
theorem e152_2 (D : jx_D) (x1 : Int32) (x2 : Int32) (x3 : Int32) (h : jx_H) : F152_2 D x1 x2 x3 h = (jx_if (x3 < (h.1 30 0 0)) ((jx_if (jx_in x1 50) ((jx_if ((h.1 33 0 x1.toNatClampNeg) = x3) ((jx_if (jx_in x1 50) (F152_35 D x1 x2 x3 (h.1 34 0 x1.toNatClampNeg) h) none)) ((jx_if (jx_in x1 50) (F152_35 D x1 x2 x3 (h.1 33 0 x1.toNatClampNeg) h) none)))) none)) ((jx_if ((1 : Int32) = 0 ∨ (1 : Int32) = 1) (some ([vi (1 : Int32)], h)) none))) := (jx_it_eq (tl_m152 D) (jx_mem [2, 35, 62]) 58 _ _ _ _).trans rfl
set_option maxRecDepth 1000000 in
set_option maxHeartbeats 4000000 in
theorem e152_35 (D : jx_D) (x1 : Int32) (x2 : Int32) (x3 : Int32) (s0 : Int32) (h : jx_H) : F152_35 D x1 x2 x3 s0 h = (jx_if (jx_in x2 50) ((jx_if ((h.1 33 0 x2.toNatClampNeg) = x3) ((jx_if (jx_in x2 50) (F152_62 D x1 x2 x3 s0 (h.1 34 0 x2.toNatClampNeg) h) none)) ((jx_if (jx_in x2 50) (F152_62 D x1 x2 x3 s0 (h.1 33 0 x2.toNatClampNeg) h) none)))) none) := (jx_it_eq (tl_m152 D) (jx_mem [2, 35, 62]) 58 _ _ _ _).trans rfl
set_option maxRecDepth 1000000 in
set_option maxHeartbeats 4000000 in
theorem e152_62 (D : jx_D) (x1 : Int32) (x2 : Int32) (x3 : Int32) (x4 : Int32) (s0 : Int32) (h : jx_H) : F152_62 D x1 x2 x3 x4 s0 h = (jx_bI (D 137 [vr 30 0] h) fun y1 h1 => (jx_bI (D 145 [vr 30 0, vi x4, vi ((1 : Int32) <<< (x3 &&& 31)), vi y1] h1) fun y2 h2 => (jx_bI (D 136 [vi y2, vi s0] h2) fun y3 h3 => (jx_if (y3 = 0) ((jx_if ((0 : Int32) = 0 ∨ (0 : Int32) = 1) (some ([vi (0 : Int32)], h3)) none)) (F152_2 D x1 x2 (x3 + 1) h3))))) := (jx_it_eq (tl_m152 D) (jx_mem [2, 35, 62]) 58 _ _ _ _).trans rfl
noncomputable def F153_0 (D : jx_D) (x1 : Int32) (h : jx_H) : Option jx_R := jx_den (jx_look (tb_153 D)) (jx_nms mk_153) 0 [vr 30 0, vi x1, vn, vn, vn] [] h
noncomputable def F153_11 (D : jx_D) (h : jx_H) : Option jx_R := jx_den (jx_look (tb_153 D)) (jx_nms mk_153) 11 [vr 30 0, vn, vn, vn, vn] [] h
noncomputable def F153_55 (D : jx_D) (x2 : Int32) (x3 : Int32) (h : jx_H) : Option jx_R := jx_den (jx_look (tb_153 D)) (jx_nms mk_153) 55 [vr 30 0, vn, vi x2, vi x3, vn] [] h
noncomputable def F153_106 (D : jx_D) (x1 : Int32) (x2 : Int32) (h : jx_H) : Option jx_R := jx_den (jx_look (tb_153 D)) (jx_nms mk_153) 106 [vr 30 0, vi x1, vi x2, vn, vn] [] h
noncomputable def F153_92 (D : jx_D) (x3 : Int32) (s0 : Int32) (s1 : Int32) (h : jx_H) : Option jx_R := jx_den (jx_look (tb_153 D)) (jx_nms mk_153) 92 [vr 30 0, vn, vn, vi x3, vn] [vi s0, vi s1] h
noncomputable def F153_123 (D : jx_D) (x1 : Int32) (x2 : Int32) (x3 : Int32) (h : jx_H) : Option jx_R := jx_den (jx_look (tb_153 D)) (jx_nms mk_153) 123 [vr 30 0, vi x1, vi x2, vi x3, vn] [] h
noncomputable def F153_94 (D : jx_D) (x2 : Int32) (x3 : Int32) (h : jx_H) : Option jx_R := jx_den (jx_look (tb_153 D)) (jx_nms mk_153) 94 [vr 30 0, vn, vi x2, vi x3, vn] [] h
noncomputable def F153_213 (D : jx_D) (x1 : Int32) (x2 : Int32) (x3 : Int32) (h : jx_H) : Option jx_R := jx_den (jx_look (tb_153 D)) (jx_nms mk_153) 213 [vr 30 0, vi x1, vi x2, vi x3, vn] [] h
noncomputable def F153_161 (D : jx_D) (x1 : Int32) (x2 : Int32) (x3 : Int32) (x4 : Int32) (h : jx_H) : Option jx_R := jx_den (jx_look (tb_153 D)) (jx_nms mk_153) 161 [vr 30 0, vi x1, vi x2, vi x3, vi x4] [] h
noncomputable def F153_172 (D : jx_D) (x1 : Int32) (x2 : Int32) (x3 : Int32) (s0 : Int32) (h : jx_H) : Option jx_R := jx_den (jx_look (tb_153 D)) (jx_nms mk_153) 172 [vr 30 0, vi x1, vi x2, vi x3, vn] [vi s0] h
noncomputable def F153_185 (D : jx_D) (x1 : Int32) (x2 : Int32) (x3 : Int32) (x4 : Int32) (h : jx_H) : Option jx_R := jx_den (jx_look (tb_153 D)) (jx_nms mk_153) 185 [vr 30 0, vi x1, vi x2, vi x3, vi x4] [] h
noncomputable def F153_212 (D : jx_D) (x1 : Int32) (x2 : Int32) (x3 : Int32) (s0 : Int32) (s1 : Int32) (h : jx_H) : Option jx_R := jx_den (jx_look (tb_153 D)) (jx_nms mk_153) 212 [vr 30 0, vi x1, vi x2, vi x3, vn] [vi s0, vi s1, vr 48 0] h
set_option maxRecDepth 1000000 in
set_option maxHeartbeats 4000000 in
theorem e153_0 (D : jx_D) (x1 : Int32) (h : jx_H) : F153_0 D x1 h = (jx_if (x1 < (1 : Int32)) (F153_11 D h) ((jx_if (x1 ≤ (8 : Int32)) ((jx_if ((h.1 30 0 2) = 0) ((jx_if ((h.1 30 0 0) < (2 : Int32)) ((jx_bI (D 111 [vr 30 0, vi ((-6) : Int32)] h) fun y1 h1 => some ([vi y1], h1))) ((jx_if (x1 = (1 : Int32)) (F153_55 D (0 : Int32) (0 : Int32) h) (F153_106 D x1 (0 : Int32) h))))) ((jx_bI (D 111 [vr 30 0, vi ((-8) : Int32)] h) fun y2 h2 => some ([vi y2], h2))))) (F153_11 D h)))) := (jx_it_eq (tl_m153 D) (jx_mem [11, 55, 92, 94, 106, 123, 161, 172, 185, 212, 213]) 147 _ _ _ _).trans rfl
set_option maxRecDepth 1000000 in
set_option maxHeartbeats 4000000 in
theorem e153_11 (D : jx_D) (h : jx_H) : F153_11 D h = (jx_bI (D 111 [vr 30 0, vi ((-1) : Int32)] h) fun y1 h1 => some ([vi y1], h1)) := (jx_it_eq (tl_m153 D) (jx_mem [11, 55, 92, 94, 106, 123, 161, 172, 185, 212, 213]) 147 _ _ _ _).trans rfl
set_option maxRecDepth 1000000 in
set_option maxHeartbeats 4000000 in
theorem e153_55 (D : jx_D) (x2 : Int32) (x3 : Int32) (h : jx_H) : F153_55 D x2 x3 h = (jx_if (x3 < (h.1 30 0 0)) ((jx_bI (D 137 [vr 30 0] h) fun y1 h1 => (jx_bI (D 145 [vr 30 0, vi x3, vi (0 : Int32), vi y1] h1) fun y2 h2 => (jx_if ((y2 &&& (((1 : Int32) <<< (x3 &&& 31)) - (1 : Int32))) = 0) (F153_92 D x3 (1 : Int32) x2 h2) (F153_92 D x3 (0 : Int32) x2 h2))))) (some ([vi (x2 - (1 : Int32))], h))) := (jx_it_eq (tl_m153 D) (jx_mem [11, 55, 92, 94, 106, 123, 161, 172, 185, 212, 213]) 147 _ _ _ _).trans rfl
set_option maxRecDepth 1000000 in
set_option maxHeartbeats 4000000 in
theorem e153_106 (D : jx_D) (x1 : Int32) (x2 : Int32) (h : jx_H) : F153_106 D x1 x2 h = (jx_bI (D 135 [vr 30 0] h) fun y1 h1 => (jx_if (x2 ≤ y1) ((jx_if (jx_in x2 256) (F153_123 D x1 x2 (1 : Int32) (jx_sI h1 48 0 x2.toNatClampNeg (0 : Int32))) none)) ((jx_bI (D 135 [vr 30 0] h1) fun y2 h2 => (jx_if (jx_in y2 256) ((jx_if ((2 : Int32) = 0) none (some ([vi (((h2.1 48 0 y2.toNatClampNeg) + (1 : Int32)) / (2 : Int32))], h2)))) none))))) := (jx_it_eq (tl_m153 D) (jx_mem [11, 55, 92, 94, 106, 123, 161, 172, 185, 212, 213]) 147 _ _ _ _).trans rfl
set_option maxRecDepth 1000000 in
set_option maxHeartbeats 4000000 in
theorem e153_92 (D : jx_D) (x3 : Int32) (s0 : Int32) (s1 : Int32) (h : jx_H) : F153_92 D x3 s0 s1 h = F153_94 D (s1 + s0) x3 h := (jx_it_eq (tl_m153 D) (jx_mem [11, 55, 92, 94, 106, 123, 161, 172, 185, 212, 213]) 147 _ _ _ _).trans rfl
set_option maxRecDepth 1000000 in
set_option maxHeartbeats 4000000 in
theorem e153_123 (D : jx_D) (x1 : Int32) (x2 : Int32) (x3 : Int32) (h : jx_H) : F153_123 D x1 x2 x3 h = (jx_if (x3 ≤ x2) ((jx_if ((x3 &&& (x2 ^^^ ((-1) : Int32))) = 0) ((jx_bI (D 135 [vr 30 0] h) fun y1 h1 => (jx_if (x3 = y1) (F153_213 D x1 x2 x3 h1) ((jx_bI (D 137 [vr 30 0] h1) fun y2 h2 => (jx_bI (D 138 [vr 30 0, vi x3, vi (h1.1 30 0 1), vi y2] h2) fun y3 h3 => F153_161 D x1 x2 x3 (x1 - y3) h3)))))) (F153_213 D x1 x2 x3 h))) (F153_106 D x1 (x2 + 1) h)) := (jx_it_eq (tl_m153 D) (jx_mem [11, 55, 92, 94, 106, 123, 161, 172, 185, 212, 213]) 147 _ _ _ _).trans rfl
set_option maxRecDepth 1000000 in
set_option maxHeartbeats 4000000 in
theorem e153_94 (D : jx_D) (x2 : Int32) (x3 : Int32) (h : jx_H) : F153_94 D x2 x3 h = F153_55 D x2 (x3 + 1) h := (jx_it_eq (tl_m153 D) (jx_mem [11, 55, 92, 94, 106, 123, 161, 172, 185, 212, 213]) 147 _ _ _ _).trans rfl
set_option maxRecDepth 1000000 in
set_option maxHeartbeats 4000000 in
theorem e153_213 (D : jx_D) (x1 : Int32) (x2 : Int32) (x3 : Int32) (h : jx_H) : F153_213 D x1 x2 x3 h = F153_123 D x1 x2 (x3 + 1) h := (jx_it_eq (tl_m153 D) (jx_mem [11, 55, 92, 94, 106, 123, 161, 172, 185, 212, 213]) 147 _ _ _ _).trans rfl
set_option maxRecDepth 1000000 in
set_option maxHeartbeats 4000000 in
theorem e153_161 (D : jx_D) (x1 : Int32) (x2 : Int32) (x3 : Int32) (x4 : Int32) (h : jx_H) : F153_161 D x1 x2 x3 x4 h = (jx_if (0 < x4) (F153_172 D x1 x2 x3 x4 h) (F153_172 D x1 x2 x3 (0 : Int32) h)) := (jx_it_eq (tl_m153 D) (jx_mem [11, 55, 92, 94, 106, 123, 161, 172, 185, 212, 213]) 147 _ _ _ _).trans rfl
set_option maxRecDepth 1000000 in
set_option maxHeartbeats 4000000 in
theorem e153_172 (D : jx_D) (x1 : Int32) (x2 : Int32) (x3 : Int32) (s0 : Int32) (h : jx_H) : F153_172 D x1 x2 x3 s0 h = (jx_if (jx_in (x2 &&& (x3 ^^^ ((-1) : Int32))) 256) (F153_185 D x1 x2 x3 (s0 + (h.1 48 0 ((x2 &&& (x3 ^^^ ((-1) : Int32))).toNatClampNeg))) h) none) := (jx_it_eq (tl_m153 D) (jx_mem [11, 55, 92, 94, 106, 123, 161, 172, 185, 212, 213]) 147 _ _ _ _).trans rfl
set_option maxRecDepth 1000000 in
set_option maxHeartbeats 4000000 in
theorem e153_185 (D : jx_D) (x1 : Int32) (x2 : Int32) (x3 : Int32) (x4 : Int32) (h : jx_H) : F153_185 D x1 x2 x3 x4 h = (jx_if (jx_in x2 256) ((jx_if (x4 ≤ (h.1 48 0 x2.toNatClampNeg)) ((jx_if (jx_in x2 256) (F153_212 D x1 x2 x3 (h.1 48 0 x2.toNatClampNeg) x2 h) none)) (F153_212 D x1 x2 x3 x4 x2 h))) none) := (jx_it_eq (tl_m153 D) (jx_mem [11, 55, 92, 94, 106, 123, 161, 172, 185, 212, 213]) 147 _ _ _ _).trans rfl
set_option maxRecDepth 1000000 in
set_option maxHeartbeats 4000000 in
theorem e153_212 (D : jx_D) (x1 : Int32) (x2 : Int32) (x3 : Int32) (s0 : Int32) (s1 : Int32) (h : jx_H) : F153_212 D x1 x2 x3 s0 s1 h = (jx_if (jx_in s1 256) (F153_213 D x1 x2 x3 (jx_sI h 48 0 s1.toNatClampNeg s0)) none) := (jx_it_eq (tl_m153 D) (jx_mem [11, 55, 92, 94, 106, 123, 161, 172, 185, 212, 213]) 147 _ _ _ _).trans rfl
noncomputable def F154_0 (D : jx_D) (x1 : Int32) (h : jx_H) : Option jx_R := jx_den (jx_look (tb_154 D)) (jx_nms mk_154) 0 [vr 30 0, vi x1, vn, vn] [] h
noncomputable def F154_11 (D : jx_D) (h : jx_H) : Option jx_R := jx_den (jx_look (tb_154 D)) (jx_nms mk_154) 11 [vr 30 0, vn, vn, vn] [] h
noncomputable def F154_49 (D : jx_D) (h : jx_H) : Option jx_R := jx_den (jx_look (tb_154 D)) (jx_nms mk_154) 49 [vr 30 0, vn, vn, vn] [] h
noncomputable def F154_66 (D : jx_D) (x1 : Int32) (x2 : Int32) (x3 : Int32) (h : jx_H) : Option jx_R := jx_den (jx_look (tb_154 D)) (jx_nms mk_154) 66 [vr 30 0, vi x1, vi x2, vi x3] [] h
noncomputable def F154_98 (D : jx_D) (x1 : Int32) (x2 : Int32) (x3 : Int32) (h : jx_H) : Option jx_R := jx_den (jx_look (tb_154 D)) (jx_nms mk_154) 98 [vr 30 0, vi x1, vi x2, vi x3] [] h
set_option maxRecDepth 1000000 in
set_option maxHeartbeats 4000000 in
theorem e154_0 (D : jx_D) (x1 : Int32) (h : jx_H) : F154_0 D x1 h = (jx_if (x1 < (1 : Int32)) (F154_11 D h) ((jx_if (x1 ≤ (8 : Int32)) ((jx_if ((h.1 30 0 1) ≤ (12 : Int32)) ((jx_if ((h.1 30 0 0) < (2 : Int32)) (F154_49 D h) ((jx_bI (D 141 [vr 30 0] h) fun y1 h1 => (jx_if (y1 < x1) (F154_49 D h1) ((jx_bI (D 137 [vr 30 0] h1) fun y2 h2 => (jx_bI (D 137 [vr 30 0] h2) fun y3 h3 => F154_66 D x1 y2 y3 h3)))))))) ((jx_bI (D 111 [vr 30 0, vi ((-7) : Int32)] h) fun y4 h4 => some ([vi y4], h4))))) (F154_11 D h)))) := (jx_it_eq (tl_m154 D) (jx_mem [11, 49, 66, 98]) 61 _ _ _ _).trans rfl
set_option maxRecDepth 1000000 in
set_option maxHeartbeats 4000000 in
theorem e154_11 (D : jx_D) (h : jx_H) : F154_11 D h = (jx_bI (D 111 [vr 30 0, vi ((-1) : Int32)] h) fun y1 h1 => some ([vi y1], h1)) := (jx_it_eq (tl_m154 D) (jx_mem [11, 49, 66, 98]) 61 _ _ _ _).trans rfl
set_option maxRecDepth 1000000 in
set_option maxHeartbeats 4000000 in
theorem e154_49 (D : jx_D) (h : jx_H) : F154_49 D h = (jx_bI (D 111 [vr 30 0, vi ((-6) : Int32)] h) fun y1 h1 => some ([vi y1], h1)) := (jx_it_eq (tl_m154 D) (jx_mem [11, 49, 66, 98]) 61 _ _ _ _).trans rfl
set_option maxRecDepth 1000000 in
set_option maxHeartbeats 4000000 in
theorem e154_66 (D : jx_D) (x1 : Int32) (x2 : Int32) (x3 : Int32) (h : jx_H) : F154_66 D x1 x2 x3 h = (jx_if (x3 < 0) (some ([vi x2], h)) ((jx_bI (D 155 [vr 30 0, vi x3] h) fun y1 h1 => (jx_bI (D 155 [vr 30 0, vi x2] h1) fun y2 h2 => (jx_if (y1 ≤ y2) ((jx_bI (D 142 [vr 30 0, vi (h2.1 30 0 1), vi x3] h2) fun y3 h3 => (jx_if (y3 < x1) (F154_98 D x1 x2 x3 h3) (F154_98 D x1 x3 x3 h3)))) (F154_98 D x1 x2 x3 h2)))))) := (jx_it_eq (tl_m154 D) (jx_mem [11, 49, 66, 98]) 61 _ _ _ _).trans rfl
set_option maxRecDepth 1000000 in
set_option maxHeartbeats 4000000 in
theorem e154_98 (D : jx_D) (x1 : Int32) (x2 : Int32) (x3 : Int32) (h : jx_H) : F154_98 D x1 x2 x3 h = F154_66 D x1 x2 (x3 + (-1)) h := (jx_it_eq (tl_m154 D) (jx_mem [11, 49, 66, 98]) 61 _ _ _ _).trans rfl
noncomputable def F155_0 (D : jx_D) (x1 : Int32) (h : jx_H) : Option jx_R := jx_den (jx_look (tb_155 D)) (jx_nms mk_155) 0 [vr 30 0, vi x1, vn, vn] [] h
noncomputable def F155_4 (D : jx_D) (x1 : Int32) (x2 : Int32) (x3 : Int32) (h : jx_H) : Option jx_R := jx_den (jx_look (tb_155 D)) (jx_nms mk_155) 4 [vr 30 0, vi x1, vi x2, vi x3] [] h
noncomputable def F155_31 (D : jx_D) (x1 : Int32) (x3 : Int32) (s0 : Int32) (s1 : Int32) (h : jx_H) : Option jx_R := jx_den (jx_look (tb_155 D)) (jx_nms mk_155) 31 [vr 30 0, vi x1, vn, vi x3] [vi s0, vi s1] h
noncomputable def F155_33 (D : jx_D) (x1 : Int32) (x2 : Int32) (x3 : Int32) (h : jx_H) : Option jx_R := jx_den (jx_look (tb_155 D)) (jx_nms mk_155) 33 [vr 30 0, vi x1, vi x2, vi x3] [] h
set_option maxRecDepth 1000000 in
set_option maxHeartbeats 4000000 in
theorem e155_0 (D : jx_D) (x1 : Int32) (h : jx_H) : F155_0 D x1 h = F155_4 D x1 (0 : Int32) (0 : Int32) h := (jx_it_eq (tl_m155 D) (jx_mem [4, 31, 33]) 28 _ _ _ _).trans rfl
set_option maxRecDepth 1000000 in
set_option maxHeartbeats 4000000 in
theorem e155_4 (D : jx_D) (x1 : Int32) (x2 : Int32) (x3 : Int32) (h : jx_H) : F155_4 D x1 x2 x3 h = (jx_if (x3 < (h.1 30 0 1)) ((jx_bI (D 136 [vi x1, vi x3] h) fun y1 h1 => (jx_if (y1 = 0) (F155_31 D x1 x3 (0 : Int32) x2 h1) ((jx_if (jx_in x3 20) (F155_31 D x1 x3 (h1.1 35 0 x3.toNatClampNeg) x2 h1) none))))) (some ([vi x2], h))) := (jx_it_eq (tl_m155 D) (jx_mem [4, 31, 33]) 28 _ _ _ _).trans rfl
set_option maxRecDepth 1000000 in
set_option maxHeartbeats 4000000 in
theorem e155_31 (D : jx_D) (x1 : Int32) (x3 : Int32) (s0 : Int32) (s1 : Int32) (h : jx_H) : F155_31 D x1 x3 s0 s1 h = F155_33 D x1 (s1 + s0) x3 h := (jx_it_eq (tl_m155 D) (jx_mem [4, 31, 33]) 28 _ _ _ _).trans rfl
set_option maxRecDepth 1000000 in
set_option maxHeartbeats 4000000 in
theorem e155_33 (D : jx_D) (x1 : Int32) (x2 : Int32) (x3 : Int32) (h : jx_H) : F155_33 D x1 x2 x3 h = F155_4 D x1 x2 (x3 + 1) h := (jx_it_eq (tl_m155 D) (jx_mem [4, 31, 33]) 28 _ _ _ _).trans rfl
noncomputable def F156_0 (D : jx_D) (h : jx_H) : Option jx_R := jx_den (jx_look (tb_156 D)) (jx_nms mk_156) 0 [vr 30 0, vn, vn, vn] [] h
noncomputable def F156_13 (D : jx_D) (x1 : Int32) (x2 : Int32) (x3 : Int32) (h : jx_H) : Option jx_R := jx_den (jx_look (tb_156 D)) (jx_nms mk_156) 13 [vr 30 0, vi x1, vi x2, vi x3] [] h
set_option maxRecDepth 1000000 in
set_option maxHeartbeats 4000000 in
theorem e156_0 (D : jx_D) (h : jx_H) : F156_0 D h = (jx_bV (D 114 [vr 30 0] h) fun h1 => (jx_bI (D 141 [vr 30 0] h1) fun y2 h2 => F156_13 D y2 (0 : Int32) (0 : Int32) h2)) := (jx_it_eq (tl_m156 D) (jx_mem [13]) 39 _ _ _ _).trans rfl
set_option maxRecDepth 1000000 in
set_option maxHeartbeats 4000000 in
theorem e156_13 (D : jx_D) (x1 : Int32) (x2 : Int32) (x3 : Int32) (h : jx_H) : F156_13 D x1 x2 x3 h = (jx_if (x3 < (h.1 30 0 1)) ((jx_bI (D 137 [vr 30 0] h) fun y1 h1 => (jx_bI (D 142 [vr 30 0, vi (h.1 30 0 1), vi (y1 &&& (((1 : Int32) <<< (x3 &&& 31)) ^^^ ((-1) : Int32)))] h1) fun y2 h2 => (jx_if (y2 = x1) ((jx_bV (D 123 [vr 30 0, vi x3] h2) fun h3 => F156_13 D x1 (x2 + 1) x3 h3)) (F156_13 D x1 x2 (x3 + 1) h2))))) (some ([vi x2], h))) := (jx_it_eq (tl_m156 D) (jx_mem [13]) 39 _ _ _ _).trans rfl
noncomputable def F157_0 (D : jx_D) (h : jx_H) : Option jx_R := jx_den (jx_look (tb_157 D)) (jx_nms mk_157) 0 [vr 30 0, vn, vn, vn, vn] [] h
noncomputable def F157_26 (D : jx_D) (x1 : Int32) (h : jx_H) : Option jx_R := jx_den (jx_look (tb_157 D)) (jx_nms mk_157) 26 [vr 30 0, vi x1, vn, vn, vn] [] h
noncomputable def F157_50 (D : jx_D) (x1 : Int32) (h : jx_H) : Option jx_R := jx_den (jx_look (tb_157 D)) (jx_nms mk_157) 50 [vr 30 0, vi x1, vn, vn, vn] [] h
noncomputable def F157_64 (D : jx_D) (x1 : Int32) (x2 : Int32) (x3 : Int32) (x4 : Int32) (h : jx_H) : Option jx_R := jx_den (jx_look (tb_157 D)) (jx_nms mk_157) 64 [vr 30 0, vi x1, vi x2, vi x3, vi x4] [] h
noncomputable def F157_95 (D : jx_D) (x1 : Int32) (x3 : Int32) (x4 : Int32) (s0 : Int32) (h : jx_H) : Option jx_R := jx_den (jx_look (tb_157 D)) (jx_nms mk_157) 95 [vr 30 0, vi x1, vn, vi x3, vi x4] [vi s0] h
noncomputable def F157_105 (D : jx_D) (x1 : Int32) (x2 : Int32) (x3 : Int32) (x4 : Int32) (h : jx_H) : Option jx_R := jx_den (jx_look (tb_157 D)) (jx_nms mk_157) 105 [vr 30 0, vi x1, vi x2, vi x3, vi x4] [] h
noncomputable def F157_147 (D : jx_D) (x1 : Int32) (x2 : Int32) (x4 : Int32) (s0 : Int32) (s1 : Int32) (h : jx_H) : Option jx_R := jx_den (jx_look (tb_157 D)) (jx_nms mk_157) 147 [vr 30 0, vi x1, vi x2, vn, vi x4] [vi s0, vi s1] h
noncomputable def F157_169 (D : jx_D) (s0 : Int32) (h : jx_H) : Option jx_R := jx_den (jx_look (tb_157 D)) (jx_nms mk_157) 169 [vr 30 0, vn, vn, vn, vn] [vi s0] h
noncomputable def F157_149 (D : jx_D) (x1 : Int32) (x2 : Int32) (x3 : Int32) (x4 : Int32) (h : jx_H) : Option jx_R := jx_den (jx_look (tb_157 D)) (jx_nms mk_157) 149 [vr 30 0, vi x1, vi x2, vi x3, vi x4] [] h
set_option maxRecDepth 1000000 in
set_option maxHeartbeats 4000000 in
theorem e157_0 (D : jx_D) (h : jx_H) : F157_0 D h = (jx_if ((h.1 30 0 2) = 0) ((jx_if ((h.1 30 0 0) < (2 : Int32)) (some ([vi (0 : Int32)], h)) (F157_26 D (0 : Int32) h))) ((jx_bI (D 111 [vr 30 0, vi ((-8) : Int32)] h) fun y1 h1 => some ([vi y1], h1)))) := (jx_it_eq (tl_m157 D) (jx_mem [26, 50, 64, 95, 105, 147, 149, 169]) 102 _ _ _ _).trans rfl
set_option maxRecDepth 1000000 in
set_option maxHeartbeats 4000000 in
theorem e157_26 (D : jx_D) (x1 : Int32) (h : jx_H) : F157_26 D x1 h = (jx_if (x1 < (h.1 30 0 0)) ((jx_if (jx_in x1 8) (F157_26 D (x1 + 1) (jx_sI h 49 0 x1.toNatClampNeg (0 : Int32))) none)) (F157_50 D (20 : Int32) h)) := (jx_it_eq (tl_m157 D) (jx_mem [26, 50, 64, 95, 105, 147, 149, 169]) 102 _ _ _ _).trans rfl
set_option maxRecDepth 1000000 in
set_option maxHeartbeats 4000000 in
theorem e157_50 (D : jx_D) (x1 : Int32) (h : jx_H) : F157_50 D x1 h = (jx_bI (D 158 [vr 30 0] h) fun y1 h1 => (jx_if (y1 = 0) (some ([vi x1], h1)) (F157_64 D x1 (0 : Int32) (0 : Int32) (0 : Int32) h1))) := (jx_it_eq (tl_m157 D) (jx_mem [26, 50, 64, 95, 105, 147, 149, 169]) 102 _ _ _ _).trans rfl
set_option maxRecDepth 1000000 in
set_option maxHeartbeats 4000000 in
theorem e157_64 (D : jx_D) (x1 : Int32) (x2 : Int32) (x3 : Int32) (x4 : Int32) (h : jx_H) : F157_64 D x1 x2 x3 x4 h = (jx_if (x4 < (h.1 30 0 0)) ((jx_if (jx_in x4 8) ((jx_if ((h.1 49 0 x4.toNatClampNeg) ≤ x2) (F157_95 D x1 x3 x4 x2 h) ((jx_if (jx_in x4 8) (F157_95 D x1 x3 x4 (h.1 49 0 x4.toNatClampNeg) h) none)))) none)) (F157_105 D x1 x2 x3 (0 : Int32) h)) := (jx_it_eq (tl_m157 D) (jx_mem [26, 50, 64, 95, 105, 147, 149, 169]) 102 _ _ _ _).trans rfl
set_option maxRecDepth 1000000 in
set_option maxHeartbeats 4000000 in
theorem e157_95 (D : jx_D) (x1 : Int32) (x3 : Int32) (x4 : Int32) (s0 : Int32) (h : jx_H) : F157_95 D x1 x3 x4 s0 h = F157_64 D x1 s0 x3 (x4 + 1) h := (jx_it_eq (tl_m157 D) (jx_mem [26, 50, 64, 95, 105, 147, 149, 169]) 102 _ _ _ _).trans rfl
set_option maxRecDepth 1000000 in
set_option maxHeartbeats 4000000 in
theorem e157_105 (D : jx_D) (x1 : Int32) (x2 : Int32) (x3 : Int32) (x4 : Int32) (h : jx_H) : F157_105 D x1 x2 x3 x4 h = (jx_if (x4 < (h.1 30 0 1)) ((jx_if (jx_in x4 50) ((jx_if (jx_in (h.1 33 0 x4.toNatClampNeg) 8) ((jx_if (jx_in x4 50) ((jx_if (jx_in (h.1 34 0 x4.toNatClampNeg) 8) ((jx_if ((h.1 49 0 ((h.1 33 0 x4.toNatClampNeg).toNatClampNeg)) = (h.1 49 0 ((h.1 34 0 x4.toNatClampNeg).toNatClampNeg))) (F157_147 D x1 x2 x4 (0 : Int32) x3 h) (F157_147 D x1 x2 x4 (1 : Int32) x3 h))) none)) none)) none)) none)) ((jx_if (x2 = 0) none ((jx_if ((x3 / x2) < x1) ((jx_if (x2 = 0) none (F157_169 D (x3 / x2) h))) (F157_169 D x1 h)))))) := (jx_it_eq (tl_m157 D) (jx_mem [26, 50, 64, 95, 105, 147, 149, 169]) 102 _ _ _ _).trans rfl
set_option maxRecDepth 1000000 in
set_option maxHeartbeats 4000000 in
theorem e157_147 (D : jx_D) (x1 : Int32) (x2 : Int32) (x4 : Int32) (s0 : Int32) (s1 : Int32) (h : jx_H) : F157_147 D x1 x2 x4 s0 s1 h = F157_149 D x1 x2 (s1 + s0) x4 h := (jx_it_eq (tl_m157 D) (jx_mem [26, 50, 64, 95, 105, 147, 149, 169]) 102 _ _ _ _).trans rfl
set_option maxRecDepth 1000000 in
set_option maxHeartbeats 4000000 in
theorem e157_169 (D : jx_D) (s0 : Int32) (h : jx_H) : F157_169 D s0 h = F157_50 D s0 h := (jx_it_eq (tl_m157 D) (jx_mem [26, 50, 64, 95, 105, 147, 149, 169]) 102 _ _ _ _).trans rfl
set_option maxRecDepth 1000000 in
set_option maxHeartbeats 4000000 in
theorem e157_149 (D : jx_D) (x1 : Int32) (x2 : Int32) (x3 : Int32) (x4 : Int32) (h : jx_H) : F157_149 D x1 x2 x3 x4 h = F157_105 D x1 x2 x3 (x4 + 1) h := (jx_it_eq (tl_m157 D) (jx_mem [26, 50, 64, 95, 105, 147, 149, 169]) 102 _ _ _ _).trans rfl
noncomputable def F158_0 (D : jx_D) (h : jx_H) : Option jx_R := jx_den (jx_look (tb_158 D)) (jx_nms mk_158) 0 [vr 30 0, vn, vn, vn] [] h
noncomputable def F158_7 (D : jx_D) (x1 : Int32) (h : jx_H) : Option jx_R := jx_den (jx_look (tb_158 D)) (jx_nms mk_158) 7 [vr 30 0, vi x1, vn, vn] [] h
noncomputable def F158_15 (D : jx_D) (x1 : Int32) (x2 : Int32) (x3 : Int32) (h : jx_H) : Option jx_R := jx_den (jx_look (tb_158 D)) (jx_nms mk_158) 15 [vr 30 0, vi x1, vi x2, vi x3] [] h
noncomputable def F158_40 (D : jx_D) (x1 : Int32) (x3 : Int32) (s0 : Int32) (h : jx_H) : Option jx_R := jx_den (jx_look (tb_158 D)) (jx_nms mk_158) 40 [vr 30 0, vi x1, vn, vi x3] [vi s0] h
noncomputable def F158_71 (D : jx_D) (x3 : Int32) (h : jx_H) : Option jx_R := jx_den (jx_look (tb_158 D)) (jx_nms mk_158) 71 [vr 30 0, vn, vn, vi x3] [] h
set_option maxRecDepth 1000000 in
set_option maxHeartbeats 4000000 in
theorem e158_0 (D : jx_D) (h : jx_H) : F158_0 D h = F158_7 D ((h.1 30 0 0) - (1 : Int32)) h := (jx_it_eq (tl_m158 D) (jx_mem [7, 15, 40, 71]) 67 _ _ _ _).trans rfl
set_option maxRecDepth 1000000 in
set_option maxHeartbeats 4000000 in
theorem e158_7 (D : jx_D) (x1 : Int32) (h : jx_H) : F158_7 D x1 h = (jx_if (0 < x1) (F158_15 D x1 (0 : Int32) (0 : Int32) h) ((jx_if ((0 : Int32) = 0 ∨ (0 : Int32) = 1) (some ([vi (0 : Int32)], h)) none))) := (jx_it_eq (tl_m158 D) (jx_mem [7, 15, 40, 71]) 67 _ _ _ _).trans rfl
set_option maxRecDepth 1000000 in
set_option maxHeartbeats 4000000 in
theorem e158_15 (D : jx_D) (x1 : Int32) (x2 : Int32) (x3 : Int32) (h : jx_H) : F158_15 D x1 x2 x3 h = (jx_if (x3 < x1) ((jx_if (jx_in x3 8) ((jx_if ((h.1 49 0 x3.toNatClampNeg) ≤ x2) (F158_40 D x1 x3 x2 h) ((jx_if (jx_in x3 8) (F158_40 D x1 x3 (h.1 49 0 x3.toNatClampNeg) h) none)))) none)) ((jx_if (jx_in x1 8) ((jx_if ((h.1 49 0 x1.toNatClampNeg) ≤ x2) ((jx_if (jx_in x1 8) ((jx_if (jx_in x1 8) (F158_71 D (x1 + (1 : Int32)) (jx_sI h 49 0 x1.toNatClampNeg ((h.1 49 0 x1.toNatClampNeg) + (1 : Int32)))) none)) none)) (F158_7 D (x1 + (-1)) h))) none))) := (jx_it_eq (tl_m158 D) (jx_mem [7, 15, 40, 71]) 67 _ _ _ _).trans rfl
set_option maxRecDepth 1000000 in
set_option maxHeartbeats 4000000 in
theorem e158_40 (D : jx_D) (x1 : Int32) (x3 : Int32) (s0 : Int32) (h : jx_H) : F158_40 D x1 x3 s0 h = F158_15 D x1 s0 (x3 + 1) h := (jx_it_eq (tl_m158 D) (jx_mem [7, 15, 40, 71]) 67 _ _ _ _).trans rfl
set_option maxRecDepth 1000000 in
set_option maxHeartbeats 4000000 in
theorem e158_71 (D : jx_D) (x3 : Int32) (h : jx_H) : F158_71 D x3 h = (jx_if (x3 < (h.1 30 0 0)) ((jx_if (jx_in x3 8) (F158_71 D (x3 + 1) (jx_sI h 49 0 x3.toNatClampNeg (0 : Int32))) none)) ((jx_if ((1 : Int32) = 0 ∨ (1 : Int32) = 1) (some ([vi (1 : Int32)], h)) none))) := (jx_it_eq (tl_m158 D) (jx_mem [7, 15, 40, 71]) 67 _ _ _ _).trans rfl
noncomputable def F159_0 (D : jx_D) (h : jx_H) : Option jx_R := jx_den (jx_look (tb_159 D)) (jx_nms mk_159) 0 [vr 30 0, vn, vn, vn, vn] [] h
noncomputable def F159_18 (D : jx_D) (x1 : Int32) (x2 : Int32) (h : jx_H) : Option jx_R := jx_den (jx_look (tb_159 D)) (jx_nms mk_159) 18 [vr 30 0, vi x1, vi x2, vn, vn] [] h
noncomputable def F159_33 (D : jx_D) (x1 : Int32) (x2 : Int32) (x3 : Int32) (h : jx_H) : Option jx_R := jx_den (jx_look (tb_159 D)) (jx_nms mk_159) 33 [vr 30 0, vi x1, vi x2, vi x3, vn] [] h
noncomputable def F159_53 (D : jx_D) (x1 : Int32) (x2 : Int32) (s0 : Int32) (h : jx_H) : Option jx_R := jx_den (jx_look (tb_159 D)) (jx_nms mk_159) 53 [vr 30 0, vi x1, vi x2, vn, vn] [vi s0] h
noncomputable def F159_55 (D : jx_D) (x1 : Int32) (x2 : Int32) (x4 : Int32) (h : jx_H) : Option jx_R := jx_den (jx_look (tb_159 D)) (jx_nms mk_159) 55 [vr 30 0, vi x1, vi x2, vn, vi x4] [] h
noncomputable def F159_67 (D : jx_D) (x2 : Int32) (s0 : Int32) (h : jx_H) : Option jx_R := jx_den (jx_look (tb_159 D)) (jx_nms mk_159) 67 [vr 30 0, vn, vi x2, vn, vn] [vi s0] h
set_option maxRecDepth 1000000 in
set_option maxHeartbeats 4000000 in
theorem e159_0 (D : jx_D) (h : jx_H) : F159_0 D h = (jx_if ((h.1 30 0 2) = 0) (F159_18 D (0 : Int32) (0 : Int32) h) ((jx_bI (D 111 [vr 30 0, vi ((-8) : Int32)] h) fun y1 h1 => some ([vi y1], h1)))) := (jx_it_eq (tl_m159 D) (jx_mem [18, 33, 53, 55, 67]) 49 _ _ _ _).trans rfl
set_option maxRecDepth 1000000 in
set_option maxHeartbeats 4000000 in
theorem e159_18 (D : jx_D) (x1 : Int32) (x2 : Int32) (h : jx_H) : F159_18 D x1 x2 h = (jx_bI (D 135 [vr 30 0] h) fun y1 h1 => (jx_if (x2 ≤ y1) ((jx_bI (D 140 [vi x2] h1) fun y2 h2 => F159_33 D x1 x2 (y2 - (1 : Int32)) h2)) (some ([vi x1], h1)))) := (jx_it_eq (tl_m159 D) (jx_mem [18, 33, 53, 55, 67]) 49 _ _ _ _).trans rfl
set_option maxRecDepth 1000000 in
set_option maxHeartbeats 4000000 in
theorem e159_33 (D : jx_D) (x1 : Int32) (x2 : Int32) (x3 : Int32) (h : jx_H) : F159_33 D x1 x2 x3 h = (jx_if (x3 < (1 : Int32)) (F159_53 D x1 x2 (0 : Int32) h) ((jx_bI (D 160 [vr 30 0, vi x2] h) fun y1 h1 => (jx_if (x3 = 0) none (F159_53 D x1 x2 (((y1 + x3) - (1 : Int32)) / x3) h1))))) := (jx_it_eq (tl_m159 D) (jx_mem [18, 33, 53, 55, 67]) 49 _ _ _ _).trans rfl
set_option maxRecDepth 1000000 in
set_option maxHeartbeats 4000000 in
theorem e159_53 (D : jx_D) (x1 : Int32) (x2 : Int32) (s0 : Int32) (h : jx_H) : F159_53 D x1 x2 s0 h = F159_55 D x1 x2 s0 h := (jx_it_eq (tl_m159 D) (jx_mem [18, 33, 53, 55, 67]) 49 _ _ _ _).trans rfl
set_option maxRecDepth 1000000 in
set_option maxHeartbeats 4000000 in
theorem e159_55 (D : jx_D) (x1 : Int32) (x2 : Int32) (x4 : Int32) (h : jx_H) : F159_55 D x1 x2 x4 h = (jx_if (x4 ≤ x1) (F159_67 D x2 x1 h) (F159_67 D x2 x4 h)) := (jx_it_eq (tl_m159 D) (jx_mem [18, 33, 53, 55, 67]) 49 _ _ _ _).trans rfl
set_option maxRecDepth 1000000 in
set_option maxHeartbeats 4000000 in
theorem e159_67 (D : jx_D) (x2 : Int32) (s0 : Int32) (h : jx_H) : F159_67 D x2 s0 h = F159_18 D s0 (x2 + 1) h := (jx_it_eq (tl_m159 D) (jx_mem [18, 33, 53, 55, 67]) 49 _ _ _ _).trans rfl
noncomputable def F160_0 (D : jx_D) (x1 : Int32) (h : jx_H) : Option jx_R := jx_den (jx_look (tb_160 D)) (jx_nms mk_160) 0 [vr 30 0, vi x1, vn, vn] [] h
noncomputable def F160_4 (D : jx_D) (x1 : Int32) (x2 : Int32) (x3 : Int32) (h : jx_H) : Option jx_R := jx_den (jx_look (tb_160 D)) (jx_nms mk_160) 4 [vr 30 0, vi x1, vi x2, vi x3] [] h
noncomputable def F160_43 (D : jx_D) (x1 : Int32) (x3 : Int32) (s0 : Int32) (h : jx_H) : Option jx_R := jx_den (jx_look (tb_160 D)) (jx_nms mk_160) 43 [vr 30 0, vi x1, vn, vi x3] [vi s0] h
noncomputable def F160_44 (D : jx_D) (x1 : Int32) (x3 : Int32) (s0 : Int32) (s1 : Int32) (h : jx_H) : Option jx_R := jx_den (jx_look (tb_160 D)) (jx_nms mk_160) 44 [vr 30 0, vi x1, vn, vi x3] [vi s0, vi s1] h
noncomputable def F160_46 (D : jx_D) (x1 : Int32) (x2 : Int32) (x3 : Int32) (h : jx_H) : Option jx_R := jx_den (jx_look (tb_160 D)) (jx_nms mk_160) 46 [vr 30 0, vi x1, vi x2, vi x3] [] h
set_option maxRecDepth 1000000 in
set_option maxHeartbeats 4000000 in
theorem e160_0 (D : jx_D) (x1 : Int32) (h : jx_H) : F160_0 D x1 h = F160_4 D x1 (0 : Int32) (0 : Int32) h := (jx_it_eq (tl_m160 D) (jx_mem [4, 43, 44, 46]) 35 _ _ _ _).trans rfl
set_option maxRecDepth 1000000 in
set_option maxHeartbeats 4000000 in
theorem e160_4 (D : jx_D) (x1 : Int32) (x2 : Int32) (x3 : Int32) (h : jx_H) : F160_4 D x1 x2 x3 h = (jx_if (x3 < (h.1 30 0 1)) ((jx_if (jx_in x3 50) ((jx_bI (D 136 [vi x1, vi (h.1 33 0 x3.toNatClampNeg)] h) fun y1 h1 => (jx_if (y1 = 0) (F160_43 D x1 x3 x2 h1) ((jx_if (jx_in x3 50) ((jx_bI (D 136 [vi x1, vi (h1.1 34 0 x3.toNatClampNeg)] h1) fun y2 h2 => (jx_if (y2 = 0) (F160_43 D x1 x3 x2 h2) (F160_44 D x1 x3 (1 : Int32) x2 h2)))) none))))) none)) (some ([vi x2], h))) := (jx_it_eq (tl_m160 D) (jx_mem [4, 43, 44, 46]) 35 _ _ _ _).trans rfl
set_option maxRecDepth 1000000 in
set_option maxHeartbeats 4000000 in
theorem e160_43 (D : jx_D) (x1 : Int32) (x3 : Int32) (s0 : Int32) (h : jx_H) : F160_43 D x1 x3 s0 h = F160_44 D x1 x3 (0 : Int32) s0 h := (jx_it_eq (tl_m160 D) (jx_mem [4, 43, 44, 46]) 35 _ _ _ _).trans rfl
set_option maxRecDepth 1000000 in
set_option maxHeartbeats 4000000 in
theorem e160_44 (D : jx_D) (x1 : Int32) (x3 : Int32) (s0 : Int32) (s1 : Int32) (h : jx_H) : F160_44 D x1 x3 s0 s1 h = F160_46 D x1 (s1 + s0) x3 h := (jx_it_eq (tl_m160 D) (jx_mem [4, 43, 44, 46]) 35 _ _ _ _).trans rfl
set_option maxRecDepth 1000000 in
set_option maxHeartbeats 4000000 in
theorem e160_46 (D : jx_D) (x1 : Int32) (x2 : Int32) (x3 : Int32) (h : jx_H) : F160_46 D x1 x2 x3 h = F160_4 D x1 x2 (x3 + 1) h := (jx_it_eq (tl_m160 D) (jx_mem [4, 43, 44, 46]) 35 _ _ _ _).trans rfl
noncomputable def F161_0 (D : jx_D) (h : jx_H) : Option jx_R := jx_den (jx_look (tb_161 D)) (jx_nms mk_161) 0 [vr 30 0] [] h
set_option maxRecDepth 1000000 in
set_option maxHeartbeats 4000000 in
theorem e161_0 (D : jx_D) (h : jx_H) : F161_0 D h = (jx_if ((h.1 30 0 2) = 0) ((jx_if ((h.1 30 0 0) < (2 : Int32)) (some ([vl (((h.1 30 0 0)).toInt64)], h)) ((jx_bL (D 162 [vr 30 0, vi ((h.1 30 0 0) - (1 : Int32))] h) fun y1 h1 => some ([vl y1], h1))))) ((jx_bI (D 111 [vr 30 0, vi ((-8) : Int32)] h) fun y2 h2 => some ([vl ((y2).toInt64)], h2)))) := (jx_it_eq (tl_m161 D) (jx_mem []) 26 _ _ _ _).trans rfl
noncomputable def F163_0 (D : jx_D) (x1 : Int32) (h : jx_H) : Option jx_R := jx_den (jx_look (tb_163 D)) (jx_nms mk_163) 0 [vr 30 0, vi x1, vn, vn, vn] [] h
noncomputable def F163_48 (D : jx_D) (x1 : Int32) (x2 : Int32) (x3 : Int32) (h : jx_H) : Option jx_R := jx_den (jx_look (tb_163 D)) (jx_nms mk_163) 48 [vr 30 0, vi x1, vi x2, vi x3, vn] [] h
noncomputable def F163_71 (D : jx_D) (x1 : Int32) (x2 : Int32) (x3 : Int32) (s0 : Int32) (h : jx_H) : Option jx_R := jx_den (jx_look (tb_163 D)) (jx_nms mk_163) 71 [vr 30 0, vi x1, vi x2, vi x3, vn] [vi s0] h
noncomputable def F163_85 (D : jx_D) (x1 : Int32) (x3 : Int32) (s0 : Int32) (h : jx_H) : Option jx_R := jx_den (jx_look (tb_163 D)) (jx_nms mk_163) 85 [vr 30 0, vi x1, vn, vi x3, vn] [vi s0] h
set_option maxRecDepth 1000000 in
set_option maxHeartbeats 4000000 in
theorem e163_0 (D : jx_D) (x1 : Int32) (h : jx_H) : F163_0 D x1 h = (jx_bI (D 118 [vr 30 0, vi x1] h) fun y1 h1 => (jx_if (y1 = 0) ((jx_bI (D 111 [vr 30 0, vi ((-1) : Int32)] h1) fun y2 h2 => some ([vi y2], h2))) ((jx_if ((h1.1 30 0 2) = 0) ((jx_bI (D 111 [vr 30 0, vi ((-4) : Int32)] h1) fun y3 h3 => some ([vi y3], h3))) ((jx_if ((h1.1 30 0 0) = (1 : Int32)) ((jx_bI (D 111 [vr 30 0, vi ((-3) : Int32)] h1) fun y4 h4 => some ([vi y4], h4))) (F163_48 D x1 (20 : Int32) (0 : Int32) h1))))))) := (jx_it_eq (tl_m163 D) (jx_mem [48, 71, 85]) 55 _ _ _ _).trans rfl
set_option maxRecDepth 1000000 in
set_option maxHeartbeats 4000000 in
theorem e163_48 (D : jx_D) (x1 : Int32) (x2 : Int32) (x3 : Int32) (h : jx_H) : F163_48 D x1 x2 x3 h = (jx_if (x3 < (h.1 30 0 0)) ((jx_if (x3 = x1) (F163_71 D x1 x2 x3 x2 h) ((jx_bI (D 134 [vr 30 0, vi x1, vi x3] h) fun y1 h1 => F163_71 D x1 x2 x3 y1 h1)))) (some ([vi x2], h))) := (jx_it_eq (tl_m163 D) (jx_mem [48, 71, 85]) 55 _ _ _ _).trans rfl
set_option maxRecDepth 1000000 in
set_option maxHeartbeats 4000000 in
theorem e163_71 (D : jx_D) (x1 : Int32) (x2 : Int32) (x3 : Int32) (s0 : Int32) (h : jx_H) : F163_71 D x1 x2 x3 s0 h = (jx_if (s0 < x2) (F163_85 D x1 x3 s0 h) (F163_85 D x1 x3 x2 h)) := (jx_it_eq (tl_m163 D) (jx_mem [48, 71, 85]) 55 _ _ _ _).trans rfl
set_option maxRecDepth 1000000 in
set_option maxHeartbeats 4000000 in
theorem e163_85 (D : jx_D) (x1 : Int32) (x3 : Int32) (s0 : Int32) (h : jx_H) : F163_85 D x1 x3 s0 h = F163_48 D x1 s0 (x3 + 1) h := (jx_it_eq (tl_m163 D) (jx_mem [48, 71, 85]) 55 _ _ _ _).trans rfl
noncomputable def F164_0 (D : jx_D) (h : jx_H) : Option jx_R := jx_den (jx_look (tb_164 D)) (jx_nms mk_164) 0 [vr 30 0] [] h
noncomputable def F164_34 (D : jx_D) (s0 : Int32) (h : jx_H) : Option jx_R := jx_den (jx_look (tb_164 D)) (jx_nms mk_164) 34 [vn] [vi s0] h
set_option maxRecDepth 1000000 in
set_option maxHeartbeats 4000000 in
theorem e164_0 (D : jx_D) (h : jx_H) : F164_0 D h = (jx_if ((h.1 30 0 2) = 0) ((jx_if ((h.1 30 0 1) = 0) ((jx_bI (D 111 [vr 30 0, vi ((-6) : Int32)] h) fun y1 h1 => F164_34 D y1 h1)) ((jx_bI (D 165 [vr 30 0] h) fun y2 h2 => F164_34 D y2 h2)))) ((jx_bI (D 111 [vr 30 0, vi ((-8) : Int32)] h) fun y3 h3 => some ([vi y3], h3)))) := (jx_it_eq (tl_m164 D) (jx_mem [34]) 20 _ _ _ _).trans rfl
set_option maxRecDepth 1000000 in
set_option maxHeartbeats 4000000 in
theorem e164_34 (D : jx_D) (s0 : Int32) (h : jx_H) : F164_34 D s0 h = some ([vi s0], h) := (jx_it_eq (tl_m164 D) (jx_mem [34]) 20 _ _ _ _).trans rfl
noncomputable def F165_0 (D : jx_D) (h : jx_H) : Option jx_R := jx_den (jx_look (tb_165 D)) (jx_nms mk_165) 0 [vr 30 0, vn, vn, vn, vn, vn, vn, vn] [] h
noncomputable def F165_6 (D : jx_D) (x1 : Int32) (x2 : Int32) (x3 : Int32) (h : jx_H) : Option jx_R := jx_den (jx_look (tb_165 D)) (jx_nms mk_165) 6 [vr 30 0, vi x1, vi x2, vi x3, vn, vn, vn, vn] [] h
noncomputable def F165_29 (D : jx_D) (x1 : Int32) (x2 : Int32) (x3 : Int32) (h : jx_H) : Option jx_R := jx_den (jx_look (tb_165 D)) (jx_nms mk_165) 29 [vr 30 0, vi x1, vi x2, vi x3, vn, vn, vn, vn] [] h
noncomputable def F165_51 (D : jx_D) (x1 : Int32) (x2 : Int32) (x3 : Int32) (s0 : Int32) (h : jx_H) : Option jx_R := jx_den (jx_look (tb_165 D)) (jx_nms mk_165) 51 [vr 30 0, vi x1, vi x2, vi x3, vn, vn, vn, vn] [vi s0] h
noncomputable def F165_67 (D : jx_D) (x1 : Int32) (x2 : Int32) (x3 : Int32) (x4 : Int32) (h : jx_H) : Option jx_R := jx_den (jx_look (tb_165 D)) (jx_nms mk_165) 67 [vr 30 0, vi x1, vi x2, vi x3, vi x4, vn, vn, vn] [] h
noncomputable def F165_83 (D : jx_D) (x1 : Int32) (x2 : Int32) (x3 : Int32) (x4 : Int32) (x5 : Int32) (h : jx_H) : Option jx_R := jx_den (jx_look (tb_165 D)) (jx_nms mk_165) 83 [vr 30 0, vi x1, vi x2, vi x3, vi x4, vi x5, vn, vn] [] h
noncomputable def F165_94 (D : jx_D) (x1 : Int32) (x2 : Int32) (x3 : Int32) (x4 : Int32) (x5 : Int32) (x6 : Int32) (x7 : Int32) (h : jx_H) : Option jx_R := jx_den (jx_look (tb_165 D)) (jx_nms mk_165) 94 [vr 30 0, vi x1, vi x2, vi x3, vi x4, vi x5, vi x6, vi x7] [] h
noncomputable def F165_249 (D : jx_D) (x1 : Int32) (x2 : Int32) (x3 : Int32) (x4 : Int32) (h : jx_H) : Option jx_R := jx_den (jx_look (tb_165 D)) (jx_nms mk_165) 249 [vr 30 0, vi x1, vi x2, vi x3, vi x4, vn, vn, vn] [] h
noncomputable def F165_165 (D : jx_D) (x1 : Int32) (x2 : Int32) (x3 : Int32) (x4 : Int32) (x5 : Int32) (x6 : Int32) (h : jx_H) : Option jx_R := jx_den (jx_look (tb_165 D)) (jx_nms mk_165) 165 [vr 30 0, vi x1, vi x2, vi x3, vi x4, vi x5, vi x6, vn] [] h
noncomputable def F165_132 (D : jx_D) (x1 : Int32) (x2 : Int32) (x3 : Int32) (x4 : Int32) (x5 : Int32) (x7 : Int32) (h : jx_H) : Option jx_R := jx_den (jx_look (tb_165 D)) (jx_nms mk_165) 132 [vr 30 0, vi x1, vi x2, vi x3, vi x4, vi x5, vn, vi x7] [] h
noncomputable def F165_137 (D : jx_D) (x1 : Int32) (x2 : Int32) (x3 : Int32) (x4 : Int32) (x5 : Int32) (x6 : Int32) (x7 : Int32) (h : jx_H) : Option jx_R := jx_den (jx_look (tb_165 D)) (jx_nms mk_165) 137 [vr 30 0, vi x1, vi x2, vi x3, vi x4, vi x5, vi x6, vi x7] [] h
noncomputable def F165_186 (D : jx_D) (x2 : Int32) (x3 : Int32) (x4 : Int32) (x5 : Int32) (x6 : Int32) (s0 : Int32) (s1 : Int32) (h : jx_H) : Option jx_R := jx_den (jx_look (tb_165 D)) (jx_nms mk_165) 186 [vr 30 0, vn, vi x2, vi x3, vi x4, vi x5, vi x6, vn] [vi s0, vi s1] h
noncomputable def F165_139 (D : jx_D) (x1 : Int32) (x2 : Int32) (x3 : Int32) (x4 : Int32) (x5 : Int32) (x7 : Int32) (s0 : Int32) (h : jx_H) : Option jx_R := jx_den (jx_look (tb_165 D)) (jx_nms mk_165) 139 [vr 30 0, vi x1, vi x2, vi x3, vi x4, vi x5, vn, vi x7] [vi s0] h
noncomputable def F165_188 (D : jx_D) (x1 : Int32) (x2 : Int32) (x3 : Int32) (x4 : Int32) (x5 : Int32) (x6 : Int32) (h : jx_H) : Option jx_R := jx_den (jx_look (tb_165 D)) (jx_nms mk_165) 188 [vr 30 0, vi x1, vi x2, vi x3, vi x4, vi x5, vi x6, vn] [] h
noncomputable def F165_217 (D : jx_D) (x1 : Int32) (x2 : Int32) (x3 : Int32) (x4 : Int32) (s0 : Int32) (h : jx_H) : Option jx_R := jx_den (jx_look (tb_165 D)) (jx_nms mk_165) 217 [vr 30 0, vi x1, vi x2, vi x3, vi x4, vn, vn, vn] [vi s0] h
noncomputable def F165_219 (D : jx_D) (x1 : Int32) (x2 : Int32) (x3 : Int32) (x4 : Int32) (x7 : Int32) (h : jx_H) : Option jx_R := jx_den (jx_look (tb_165 D)) (jx_nms mk_165) 219 [vr 30 0, vi x1, vi x2, vi x3, vi x4, vn, vn, vi x7] [] h
set_option maxRecDepth 1000000 in
set_option maxHeartbeats 4000000 in
theorem e165_0 (D : jx_D) (h : jx_H) : F165_0 D h = F165_6 D (0 : Int32) (0 : Int32) (0 : Int32) h := (jx_it_eq (tl_m165 D) (jx_mem [6, 29, 51, 67, 83, 94, 132, 137, 139, 165, 186, 188, 217, 219, 249]) 146 _ _ _ _).trans rfl
set_option maxRecDepth 1000000 in
set_option maxHeartbeats 4000000 in
theorem e165_6 (D : jx_D) (x1 : Int32) (x2 : Int32) (x3 : Int32) (h : jx_H) : F165_6 D x1 x2 x3 h = (jx_if (x3 < (h.1 30 0 0)) ((jx_if (jx_in x3 8) (jx_if ((1 : Int32) = 0 ∨ (1 : Int32) = 1) (F165_6 D x1 x2 (x3 + 1) (jx_sI h 51 0 x3.toNatClampNeg (1 : Int32))) none) none)) (F165_29 D x1 x2 (0 : Int32) h)) := (jx_it_eq (tl_m165 D) (jx_mem [6, 29, 51, 67, 83, 94, 132, 137, 139, 165, 186, 188, 217, 219, 249]) 146 _ _ _ _).trans rfl
set_option maxRecDepth 1000000 in
set_option maxHeartbeats 4000000 in
theorem e165_29 (D : jx_D) (x1 : Int32) (x2 : Int32) (x3 : Int32) (h : jx_H) : F165_29 D x1 x2 x3 h = (jx_if (x3 < (h.1 30 0 0)) ((jx_if (jx_in x3 8) ((jx_if ((h.1 51 0 x3.toNatClampNeg) = 0) (F165_51 D x1 x2 x3 (0 : Int32) h) (F165_51 D x1 x2 x3 (1 : Int32) h))) none)) (some ([vi x1], h))) := (jx_it_eq (tl_m165 D) (jx_mem [6, 29, 51, 67, 83, 94, 132, 137, 139, 165, 186, 188, 217, 219, 249]) 146 _ _ _ _).trans rfl
set_option maxRecDepth 1000000 in
set_option maxHeartbeats 4000000 in
theorem e165_51 (D : jx_D) (x1 : Int32) (x2 : Int32) (x3 : Int32) (s0 : Int32) (h : jx_H) : F165_51 D x1 x2 x3 s0 h = (jx_if (jx_in (0 : Int32) 8) ((jx_if (jx_in x3 8) (jx_if ((0 : Int32) = 0 ∨ (0 : Int32) = 1) (F165_67 D x1 x2 x3 s0 (jx_sI (jx_sI h 52 0 ((0 : Int32).toNatClampNeg) x3) 51 0 x3.toNatClampNeg (0 : Int32))) none) none)) none) := (jx_it_eq (tl_m165 D) (jx_mem [6, 29, 51, 67, 83, 94, 132, 137, 139, 165, 186, 188, 217, 219, 249]) 146 _ _ _ _).trans rfl
set_option maxRecDepth 1000000 in
set_option maxHeartbeats 4000000 in
theorem e165_67 (D : jx_D) (x1 : Int32) (x2 : Int32) (x3 : Int32) (x4 : Int32) (h : jx_H) : F165_67 D x1 x2 x3 x4 h = (jx_if (0 < x4) ((jx_if (jx_in (x4 - (1 : Int32)) 8) (F165_83 D x1 x2 x3 x4 (h.1 52 0 ((x4 - (1 : Int32)).toNatClampNeg)) h) none)) (F165_29 D x1 x2 (x3 + 1) h)) := (jx_it_eq (tl_m165 D) (jx_mem [6, 29, 51, 67, 83, 94, 132, 137, 139, 165, 186, 188, 217, 219, 249]) 146 _ _ _ _).trans rfl
set_option maxRecDepth 1000000 in
set_option maxHeartbeats 4000000 in
theorem e165_83 (D : jx_D) (x1 : Int32) (x2 : Int32) (x3 : Int32) (x4 : Int32) (x5 : Int32) (h : jx_H) : F165_83 D x1 x2 x3 x4 x5 h = F165_94 D x1 x2 x3 x4 x5 ((-1) : Int32) ((h.1 30 0 1) - (1 : Int32)) h := (jx_it_eq (tl_m165 D) (jx_mem [6, 29, 51, 67, 83, 94, 132, 137, 139, 165, 186, 188, 217, 219, 249]) 146 _ _ _ _).trans rfl
set_option maxRecDepth 1000000 in
set_option maxHeartbeats 4000000 in
theorem e165_94 (D : jx_D) (x1 : Int32) (x2 : Int32) (x3 : Int32) (x4 : Int32) (x5 : Int32) (x6 : Int32) (x7 : Int32) (h : jx_H) : F165_94 D x1 x2 x3 x4 x5 x6 x7 h = (jx_if (x7 < 0) ((jx_if (x6 < 0) (F165_249 D x1 x2 x3 (x4 + (-1)) h) (F165_165 D x1 (x2 ||| ((1 : Int32) <<< (x6 &&& 31))) x3 x4 x5 x6 h))) ((jx_bI (D 136 [vi x2, vi x7] h) fun y1 h1 => (jx_if (y1 = 0) ((jx_if (jx_in x7 50) ((jx_if ((h1.1 33 0 x7.toNatClampNeg) = x5) (F165_132 D x1 x2 x3 x4 x5 x7 h1) ((jx_if (jx_in x7 50) ((jx_if ((h1.1 34 0 x7.toNatClampNeg) = x5) (F165_132 D x1 x2 x3 x4 x5 x7 h1) (F165_137 D x1 x2 x3 x4 x5 x6 x7 h1))) none)))) none)) (F165_137 D x1 x2 x3 x4 x5 x6 x7 h1))))) := (jx_it_eq (tl_m165 D) (jx_mem [6, 29, 51, 67, 83, 94, 132, 137, 139, 165, 186, 188, 217, 219, 249]) 146 _ _ _ _).trans rfl
set_option maxRecDepth 1000000 in
set_option maxHeartbeats 4000000 in
theorem e165_249 (D : jx_D) (x1 : Int32) (x2 : Int32) (x3 : Int32) (x4 : Int32) (h : jx_H) : F165_249 D x1 x2 x3 x4 h = F165_67 D x1 x2 x3 x4 h := (jx_it_eq (tl_m165 D) (jx_mem [6, 29, 51, 67, 83, 94, 132, 137, 139, 165, 186, 188, 217, 219, 249]) 146 _ _ _ _).trans rfl
set_option maxRecDepth 1000000 in
set_option maxHeartbeats 4000000 in
theorem e165_165 (D : jx_D) (x1 : Int32) (x2 : Int32) (x3 : Int32) (x4 : Int32) (x5 : Int32) (x6 : Int32) (h : jx_H) : F165_165 D x1 x2 x3 x4 x5 x6 h = (jx_if (jx_in x6 50) ((jx_if ((h.1 34 0 x6.toNatClampNeg) = x5) (F165_186 D x2 x3 x4 x5 x6 ((1 : Int32) <<< (x6 &&& 31)) x1 h) (F165_186 D x2 x3 x4 x5 x6 (0 : Int32) x1 h))) none) := (jx_it_eq (tl_m165 D) (jx_mem [6, 29, 51, 67, 83, 94, 132, 137, 139, 165, 186, 188, 217, 219, 249]) 146 _ _ _ _).trans rfl
set_option maxRecDepth 1000000 in
set_option maxHeartbeats 4000000 in
theorem e165_132 (D : jx_D) (x1 : Int32) (x2 : Int32) (x3 : Int32) (x4 : Int32) (x5 : Int32) (x7 : Int32) (h : jx_H) : F165_132 D x1 x2 x3 x4 x5 x7 h = F165_139 D x1 x2 x3 x4 x5 x7 x7 h := (jx_it_eq (tl_m165 D) (jx_mem [6, 29, 51, 67, 83, 94, 132, 137, 139, 165, 186, 188, 217, 219, 249]) 146 _ _ _ _).trans rfl
set_option maxRecDepth 1000000 in
set_option maxHeartbeats 4000000 in
theorem e165_137 (D : jx_D) (x1 : Int32) (x2 : Int32) (x3 : Int32) (x4 : Int32) (x5 : Int32) (x6 : Int32) (x7 : Int32) (h : jx_H) : F165_137 D x1 x2 x3 x4 x5 x6 x7 h = F165_139 D x1 x2 x3 x4 x5 x7 x6 h := (jx_it_eq (tl_m165 D) (jx_mem [6, 29, 51, 67, 83, 94, 132, 137, 139, 165, 186, 188, 217, 219, 249]) 146 _ _ _ _).trans rfl
set_option maxRecDepth 1000000 in
set_option maxHeartbeats 4000000 in
theorem e165_186 (D : jx_D) (x2 : Int32) (x3 : Int32) (x4 : Int32) (x5 : Int32) (x6 : Int32) (s0 : Int32) (s1 : Int32) (h : jx_H) : F165_186 D x2 x3 x4 x5 x6 s0 s1 h = F165_188 D (s1 ||| s0) x2 x3 x4 x5 x6 h := (jx_it_eq (tl_m165 D) (jx_mem [6, 29, 51, 67, 83, 94, 132, 137, 139, 165, 186, 188, 217, 219, 249]) 146 _ _ _ _).trans rfl
set_option maxRecDepth 1000000 in
set_option maxHeartbeats 4000000 in
theorem e165_139 (D : jx_D) (x1 : Int32) (x2 : Int32) (x3 : Int32) (x4 : Int32) (x5 : Int32) (x7 : Int32) (s0 : Int32) (h : jx_H) : F165_139 D x1 x2 x3 x4 x5 x7 s0 h = F165_94 D x1 x2 x3 x4 x5 s0 (x7 + (-1)) h := (jx_it_eq (tl_m165 D) (jx_mem [6, 29, 51, 67, 83, 94, 132, 137, 139, 165, 186, 188, 217, 219, 249]) 146 _ _ _ _).trans rfl
set_option maxRecDepth 1000000 in
set_option maxHeartbeats 4000000 in
theorem e165_188 (D : jx_D) (x1 : Int32) (x2 : Int32) (x3 : Int32) (x4 : Int32) (x5 : Int32) (x6 : Int32) (h : jx_H) : F165_188 D x1 x2 x3 x4 x5 x6 h = (jx_if (jx_in x6 50) ((jx_if ((h.1 33 0 x6.toNatClampNeg) = x5) ((jx_if (jx_in x6 50) (F165_217 D x1 x2 x3 x4 (h.1 34 0 x6.toNatClampNeg) h) none)) ((jx_if (jx_in x6 50) (F165_217 D x1 x2 x3 x4 (h.1 33 0 x6.toNatClampNeg) h) none)))) none) := (jx_it_eq (tl_m165 D) (jx_mem [6, 29, 51, 67, 83, 94, 132, 137, 139, 165, 186, 188, 217, 219, 249]) 146 _ _ _ _).trans rfl
set_option maxRecDepth 1000000 in
set_option maxHeartbeats 4000000 in
theorem e165_217 (D : jx_D) (x1 : Int32) (x2 : Int32) (x3 : Int32) (x4 : Int32) (s0 : Int32) (h : jx_H) : F165_217 D x1 x2 x3 x4 s0 h = F165_219 D x1 x2 x3 x4 s0 h := (jx_it_eq (tl_m165 D) (jx_mem [6, 29, 51, 67, 83, 94, 132, 137, 139, 165, 186, 188, 217, 219, 249]) 146 _ _ _ _).trans rfl
set_option maxRecDepth 1000000 in
set_option maxHeartbeats 4000000 in
theorem e165_219 (D : jx_D) (x1 : Int32) (x2 : Int32) (x3 : Int32) (x4 : Int32) (x7 : Int32) (h : jx_H) : F165_219 D x1 x2 x3 x4 x7 h = (jx_if (jx_in x7 8) ((jx_if ((h.1 51 0 x7.toNatClampNeg) = 0) (F165_249 D x1 x2 x3 x4 h) ((jx_if (jx_in x7 8) (jx_if ((0 : Int32) = 0 ∨ (0 : Int32) = 1) ((jx_if (jx_in x4 8) (F165_249 D x1 x2 x3 (x4 + 1) (jx_sI (jx_sI h 51 0 x7.toNatClampNeg (0 : Int32)) 52 0 x4.toNatClampNeg x7)) none)) none) none)))) none) := (jx_it_eq (tl_m165 D) (jx_mem [6, 29, 51, 67, 83, 94, 132, 137, 139, 165, 186, 188, 217, 219, 249]) 146 _ _ _ _).trans rfl
noncomputable def F166_0 (D : jx_D) (h : jx_H) : Option jx_R := jx_den (jx_look (tb_166 D)) (jx_nms mk_166) 0 [vr 30 0, vn, vn] [] h
noncomputable def F166_58 (D : jx_D) (s0 : Int32) (h : jx_H) : Option jx_R := jx_den (jx_look (tb_166 D)) (jx_nms mk_166) 58 [vn, vn, vn] [vi s0] h
set_option maxRecDepth 1000000 in
set_option maxHeartbeats 4000000 in
theorem e166_0 (D : jx_D) (h : jx_H) : F166_0 D h = (jx_if ((h.1 30 0 2) = 0) ((jx_bI (D 165 [vr 30 0] h) fun y1 h1 => (jx_bV (D 167 [vr 30 0, vi y1] h1) fun h2 => (jx_if ((1 : Int32) = 0 ∨ (1 : Int32) = 1) ((jx_bI (D 137 [vr 30 0] (jx_sI h2 30 0 2 (1 : Int32))) fun y3 h3 => (jx_bI (D 148 [vr 30 0, vi (0 : Int32), vi y3] h3) fun y4 h4 => (jx_if ((0 : Int32) = 0 ∨ (0 : Int32) = 1) ((jx_bV (D 167 [vr 30 0, vi y1] (jx_sI h4 30 0 2 (0 : Int32))) fun h5 => (jx_if (y4 = 0) (F166_58 D (0 : Int32) h5) (F166_58 D (1 : Int32) h5)))) none)))) none)))) ((jx_bI (D 111 [vr 30 0, vi ((-8) : Int32)] h) fun y6 h6 => some ([vi y6], h6)))) := (jx_it_eq (tl_m166 D) (jx_mem [58]) 37 _ _ _ _).trans rfl
set_option maxRecDepth 1000000 in
set_option maxHeartbeats 4000000 in
theorem e166_58 (D : jx_D) (s0 : Int32) (h : jx_H) : F166_58 D s0 h = some ([vi s0], h) := (jx_it_eq (tl_m166 D) (jx_mem [58]) 37 _ _ _ _).trans rfl
noncomputable def F167_0 (D : jx_D) (x1 : Int32) (h : jx_H) : Option jx_R := jx_den (jx_look (tb_167 D)) (jx_nms mk_167) 0 [vr 30 0, vi x1, vn, vn] [] h
noncomputable def F167_2 (D : jx_D) (x1 : Int32) (x2 : Int32) (h : jx_H) : Option jx_R := jx_den (jx_look (tb_167 D)) (jx_nms mk_167) 2 [vr 30 0, vi x1, vi x2, vn] [] h
noncomputable def F167_44 (D : jx_D) (x1 : Int32) (x2 : Int32) (h : jx_H) : Option jx_R := jx_den (jx_look (tb_167 D)) (jx_nms mk_167) 44 [vr 30 0, vi x1, vi x2, vn] [] h
noncomputable def F167_37 (D : jx_D) (x1 : Int32) (x2 : Int32) (x3 : Int32) (h : jx_H) : Option jx_R := jx_den (jx_look (tb_167 D)) (jx_nms mk_167) 37 [vr 30 0, vi x1, vi x2, vi x3] [] h
set_option maxRecDepth 1000000 in
set_option maxHeartbeats 4000000 in
theorem e167_0 (D : jx_D) (x1 : Int32) (h : jx_H) : F167_0 D x1 h = F167_2 D x1 (0 : Int32) h := (jx_it_eq (tl_m167 D) (jx_mem [2, 37, 44]) 34 _ _ _ _).trans rfl
set_option maxRecDepth 1000000 in
set_option maxHeartbeats 4000000 in
theorem e167_2 (D : jx_D) (x1 : Int32) (x2 : Int32) (h : jx_H) : F167_2 D x1 x2 h = (jx_if (x2 < (h.1 30 0 1)) ((jx_bI (D 136 [vi x1, vi x2] h) fun y1 h1 => (jx_if (y1 = 0) (F167_44 D x1 x2 h1) ((jx_if (jx_in x2 50) ((jx_if (jx_in x2 50) ((jx_if (jx_in x2 50) (F167_37 D x1 x2 (h1.1 33 0 x2.toNatClampNeg) (jx_sI h1 33 0 x2.toNatClampNeg (h1.1 34 0 x2.toNatClampNeg))) none)) none)) none))))) (some ([], h))) := (jx_it_eq (tl_m167 D) (jx_mem [2, 37, 44]) 34 _ _ _ _).trans rfl
set_option maxRecDepth 1000000 in
set_option maxHeartbeats 4000000 in
theorem e167_44 (D : jx_D) (x1 : Int32) (x2 : Int32) (h : jx_H) : F167_44 D x1 x2 h = F167_2 D x1 (x2 + 1) h := (jx_it_eq (tl_m167 D) (jx_mem [2, 37, 44]) 34 _ _ _ _).trans rfl
set_option maxRecDepth 1000000 in
set_option maxHeartbeats 4000000 in
theorem e167_37 (D : jx_D) (x1 : Int32) (x2 : Int32) (x3 : Int32) (h : jx_H) : F167_37 D x1 x2 x3 h = (jx_if (jx_in x2 50) (F167_44 D x1 x2 (jx_sI h 34 0 x2.toNatClampNeg x3)) none) := (jx_it_eq (tl_m167 D) (jx_mem [2, 37, 44]) 34 _ _ _ _).trans rfl
noncomputable def F168_0 (D : jx_D) (h : jx_H) : Option jx_R := jx_den (jx_look (tb_168 D)) (jx_nms mk_168) 0 [vr 30 0] [] h
noncomputable def F168_24 (D : jx_D) (h : jx_H) : Option jx_R := jx_den (jx_look (tb_168 D)) (jx_nms mk_168) 24 [vr 30 0] [] h
noncomputable def F168_53 (D : jx_D) (s0 : Int64) (h : jx_H) : Option jx_R := jx_den (jx_look (tb_168 D)) (jx_nms mk_168) 53 [vn] [vl s0] h
set_option maxRecDepth 1000000 in
set_option maxHeartbeats 4000000 in
theorem e168_0 (D : jx_D) (h : jx_H) : F168_0 D h = (jx_if ((h.1 30 0 2) = 0) (F168_24 D h) ((jx_if ((h.1 30 0 1) ≤ (12 : Int32)) (F168_24 D h) ((jx_bI (D 111 [vr 30 0, vi ((-7) : Int32)] h) fun y1 h1 => some ([vl ((y1).toInt64)], h1)))))) := (jx_it_eq (tl_m168 D) (jx_mem [24, 53]) 29 _ _ _ _).trans rfl
set_option maxRecDepth 1000000 in
set_option maxHeartbeats 4000000 in
theorem e168_24 (D : jx_D) (h : jx_H) : F168_24 D h = (jx_if ((h.1 30 0 0) = 0) (F168_53 D (0 : Int64) h) ((jx_if ((h.1 30 0 2) = 0) ((jx_bL (D 170 [vr 30 0] h) fun y1 h1 => F168_53 D y1 h1)) ((jx_bL (D 169 [vr 30 0] h) fun y2 h2 => F168_53 D y2 h2))))) := (jx_it_eq (tl_m168 D) (jx_mem [24, 53]) 29 _ _ _ _).trans rfl
set_option maxRecDepth 1000000 in
set_option maxHeartbeats 4000000 in
theorem e168_53 (D : jx_D) (s0 : Int64) (h : jx_H) : F168_53 D s0 h = some ([vl s0], h) := (jx_it_eq (tl_m168 D) (jx_mem [24, 53]) 29 _ _ _ _).trans rfl
noncomputable def F169_0 (D : jx_D) (h : jx_H) : Option jx_R := jx_den (jx_look (tb_169 D)) (jx_nms mk_169) 0 [vr 30 0, vn, vn, vn, vn, vn, vn] [] h
noncomputable def F169_4 (D : jx_D) (x1 : Int64) (x3 : Int32) (h : jx_H) : Option jx_R := jx_den (jx_look (tb_169 D)) (jx_nms mk_169) 4 [vr 30 0, vl x1, vn, vi x3, vn, vn, vn] [] h
noncomputable def F169_26 (D : jx_D) (x1 : Int64) (x3 : Int32) (s0 : Int64) (h : jx_H) : Option jx_R := jx_den (jx_look (tb_169 D)) (jx_nms mk_169) 26 [vr 30 0, vl x1, vn, vi x3, vn, vn, vn] [vl s0] h
noncomputable def F169_31 (D : jx_D) (x1 : Int64) (x3 : Int32) (x4 : Int64) (x6 : Int32) (h : jx_H) : Option jx_R := jx_den (jx_look (tb_169 D)) (jx_nms mk_169) 31 [vr 30 0, vl x1, vn, vi x3, vl x4, vn, vi x6] [] h
noncomputable def F169_80 (D : jx_D) (x1 : Int64) (x3 : Int32) (x6 : Int32) (s0 : Int64) (s1 : Int64) (h : jx_H) : Option jx_R := jx_den (jx_look (tb_169 D)) (jx_nms mk_169) 80 [vr 30 0, vl x1, vn, vi x3, vn, vn, vi x6] [vl s0, vl s1] h
noncomputable def F169_89 (D : jx_D) (x1 : Int64) (x3 : Int32) (x4 : Int64) (h : jx_H) : Option jx_R := jx_den (jx_look (tb_169 D)) (jx_nms mk_169) 89 [vr 30 0, vl x1, vn, vi x3, vl x4, vn, vn] [] h
noncomputable def F169_83 (D : jx_D) (x1 : Int64) (x3 : Int32) (x4 : Int64) (x6 : Int32) (h : jx_H) : Option jx_R := jx_den (jx_look (tb_169 D)) (jx_nms mk_169) 83 [vr 30 0, vl x1, vn, vi x3, vl x4, vn, vi x6] [] h
noncomputable def F169_94 (D : jx_D) (x1 : Int64) (x3 : Int32) (h : jx_H) : Option jx_R := jx_den (jx_look (tb_169 D)) (jx_nms mk_169) 94 [vr 30 0, vl x1, vn, vi x3, vn, vn, vn] [] h
set_option maxRecDepth 1000000 in
set_option maxHeartbeats 4000000 in
theorem e169_0 (D : jx_D) (h : jx_H) : F169_0 D h = F169_4 D (0 : Int64) (0 : Int32) h := (jx_it_eq (tl_m169 D) (jx_mem [4, 26, 31, 80, 83, 89, 94]) 60 _ _ _ _).trans rfl
set_option maxRecDepth 1000000 in
set_option maxHeartbeats 4000000 in
theorem e169_4 (D : jx_D) (x1 : Int64) (x3 : Int32) (h : jx_H) : F169_4 D x1 x3 h = (jx_bI (D 137 [vr 30 0] h) fun y1 h1 => (jx_if (x3 ≤ y1) ((jx_bI (D 148 [vr 30 0, vi (0 : Int32), vi x3] h1) fun y2 h2 => (jx_if (y2 = 0) (F169_26 D x1 x3 (0 : Int64) h2) (F169_26 D x1 x3 (1 : Int64) h2)))) (some ([vl x1], h1)))) := (jx_it_eq (tl_m169 D) (jx_mem [4, 26, 31, 80, 83, 89, 94]) 60 _ _ _ _).trans rfl
set_option maxRecDepth 1000000 in
set_option maxHeartbeats 4000000 in
theorem e169_26 (D : jx_D) (x1 : Int64) (x3 : Int32) (s0 : Int64) (h : jx_H) : F169_26 D x1 x3 s0 h = F169_31 D x1 x3 s0 (0 : Int32) h := (jx_it_eq (tl_m169 D) (jx_mem [4, 26, 31, 80, 83, 89, 94]) 60 _ _ _ _).trans rfl
set_option maxRecDepth 1000000 in
set_option maxHeartbeats 4000000 in
theorem e169_31 (D : jx_D) (x1 : Int64) (x3 : Int32) (x4 : Int64) (x6 : Int32) (h : jx_H) : F169_31 D x1 x3 x4 x6 h = (jx_if (x6 < (h.1 30 0 1)) ((jx_if (0 < (lg_cmp x4 (0 : Int64))) ((jx_bI (D 136 [vi x3, vi x6] h) fun y1 h1 => (jx_if (y1 = 0) ((jx_if (jx_in x6 20) (F169_80 D x1 x3 x6 ((((8 : Int32) - (h1.1 36 0 x6.toNatClampNeg))).toInt64) x4 h1) none)) ((jx_if (jx_in x6 20) (F169_80 D x1 x3 x6 (((h1.1 36 0 x6.toNatClampNeg)).toInt64) x4 h1) none))))) (F169_89 D x1 x3 x4 h))) (F169_89 D x1 x3 x4 h)) := (jx_it_eq (tl_m169 D) (jx_mem [4, 26, 31, 80, 83, 89, 94]) 60 _ _ _ _).trans rfl
set_option maxRecDepth 1000000 in
set_option maxHeartbeats 4000000 in
theorem e169_80 (D : jx_D) (x1 : Int64) (x3 : Int32) (x6 : Int32) (s0 : Int64) (s1 : Int64) (h : jx_H) : F169_80 D x1 x3 x6 s0 s1 h = F169_83 D x1 x3 (s1 * s0) x6 h := (jx_it_eq (tl_m169 D) (jx_mem [4, 26, 31, 80, 83, 89, 94]) 60 _ _ _ _).trans rfl
set_option maxRecDepth 1000000 in
set_option maxHeartbeats 4000000 in
theorem e169_89 (D : jx_D) (x1 : Int64) (x3 : Int32) (x4 : Int64) (h : jx_H) : F169_89 D x1 x3 x4 h = F169_94 D (x1 + x4) x3 h := (jx_it_eq (tl_m169 D) (jx_mem [4, 26, 31, 80, 83, 89, 94]) 60 _ _ _ _).trans rfl
set_option maxRecDepth 1000000 in
set_option maxHeartbeats 4000000 in
theorem e169_83 (D : jx_D) (x1 : Int64) (x3 : Int32) (x4 : Int64) (x6 : Int32) (h : jx_H) : F169_83 D x1 x3 x4 x6 h = F169_31 D x1 x3 x4 (x6 + 1) h := (jx_it_eq (tl_m169 D) (jx_mem [4, 26, 31, 80, 83, 89, 94]) 60 _ _ _ _).trans rfl
set_option maxRecDepth 1000000 in
set_option maxHeartbeats 4000000 in
theorem e169_94 (D : jx_D) (x1 : Int64) (x3 : Int32) (h : jx_H) : F169_94 D x1 x3 h = F169_4 D x1 (x3 + 1) h := (jx_it_eq (tl_m169 D) (jx_mem [4, 26, 31, 80, 83, 89, 94]) 60 _ _ _ _).trans rfl
noncomputable def F170_0 (D : jx_D) (h : jx_H) : Option jx_R := jx_den (jx_look (tb_170 D)) (jx_nms mk_170) 0 [vr 30 0, vn, vn, vn, vn, vn] [] h
noncomputable def F170_2 (D : jx_D) (x1 : Int32) (h : jx_H) : Option jx_R := jx_den (jx_look (tb_170 D)) (jx_nms mk_170) 2 [vr 30 0, vi x1, vn, vn, vn, vn] [] h
noncomputable def F170_28 (D : jx_D) (x1 : Int32) (x2 : Int32) (x3 : Int64) (x5 : Int32) (h : jx_H) : Option jx_R := jx_den (jx_look (tb_170 D)) (jx_nms mk_170) 28 [vr 30 0, vi x1, vi x2, vl x3, vn, vi x5] [] h
noncomputable def F170_88 (D : jx_D) (x1 : Int32) (x2 : Int32) (x3 : Int64) (x5 : Int32) (h : jx_H) : Option jx_R := jx_den (jx_look (tb_170 D)) (jx_nms mk_170) 88 [vr 30 0, vi x1, vi x2, vl x3, vn, vi x5] [] h
set_option maxRecDepth 1000000 in
set_option maxHeartbeats 4000000 in
theorem e170_0 (D : jx_D) (h : jx_H) : F170_0 D h = F170_2 D (1 : Int32) h := (jx_it_eq (tl_m170 D) (jx_mem [2, 28, 88]) 76 _ _ _ _).trans rfl
set_option maxRecDepth 1000000 in
set_option maxHeartbeats 4000000 in
theorem e170_2 (D : jx_D) (x1 : Int32) (h : jx_H) : F170_2 D x1 h = (jx_bI (D 135 [vr 30 0] h) fun y1 h1 => (jx_if (x1 ≤ y1) ((jx_bI (D 160 [vr 30 0, vi x1] h1) fun y2 h2 => (jx_bL (D 171 [vr 30 0, vi y2] h2) fun y3 h3 => F170_28 D x1 (x1 &&& (-x1)) y3 (1 : Int32) h3))) ((jx_bI (D 135 [vr 30 0] h1) fun y4 h4 => (jx_if (jx_in y4 256) (some ([vl (h4.2 53 0 y4.toNatClampNeg)], h4)) none))))) := (jx_it_eq (tl_m170 D) (jx_mem [2, 28, 88]) 76 _ _ _ _).trans rfl
set_option maxRecDepth 1000000 in
set_option maxHeartbeats 4000000 in
theorem e170_28 (D : jx_D) (x1 : Int32) (x2 : Int32) (x3 : Int64) (x5 : Int32) (h : jx_H) : F170_28 D x1 x2 x3 x5 h = (jx_if (x5 < x1) ((jx_if ((x5 &&& (x1 ^^^ ((-1) : Int32))) = 0) ((jx_if ((x5 &&& x2) = 0) (F170_88 D x1 x2 x3 x5 h) ((jx_if (jx_in x5 256) ((jx_bL (D 172 [vr 30 0, vi x5, vi (x1 &&& (x5 ^^^ ((-1) : Int32)))] h) fun y1 h1 => (jx_bI (D 160 [vr 30 0, vi (x1 &&& (x5 ^^^ ((-1) : Int32)))] h1) fun y2 h2 => (jx_bL (D 171 [vr 30 0, vi y2] h2) fun y3 h3 => F170_88 D x1 x2 (x3 - (((h.2 53 0 x5.toNatClampNeg) * y1) * y3)) x5 h3)))) none)))) (F170_88 D x1 x2 x3 x5 h))) ((jx_if (jx_in x1 256) (F170_2 D (x1 + 1) (jx_sL h 53 0 x1.toNatClampNeg x3)) none))) := (jx_it_eq (tl_m170 D) (jx_mem [2, 28, 88]) 76 _ _ _ _).trans rfl
set_option maxRecDepth 1000000 in
set_option maxHeartbeats 4000000 in
theorem e170_88 (D : jx_D) (x1 : Int32) (x2 : Int32) (x3 : Int64) (x5 : Int32) (h : jx_H) : F170_88 D x1 x2 x3 x5 h = F170_28 D x1 x2 x3 (x5 + 1) h := (jx_it_eq (tl_m170 D) (jx_mem [2, 28, 88]) 76 _ _ _ _).trans rfl
noncomputable def F171_0 (D : jx_D) (x1 : Int32) (h : jx_H) : Option jx_R := jx_den (jx_look (tb_171 D)) (jx_nms mk_171) 0 [vr 30 0, vi x1] [] h
set_option maxRecDepth 1000000 in
set_option maxHeartbeats 4000000 in
theorem e171_0 (D : jx_D) (x1 : Int32) (h : jx_H) : F171_0 D x1 h = some ([vl ((1 : Int64) <<< (((3 : Int32) * x1).toInt64 &&& 63))], h) := (jx_it_eq (tl_m171 D) (jx_mem []) 9 _ _ _ _).trans rfl
noncomputable def F172_0 (D : jx_D) (x1 : Int32) (x2 : Int32) (h : jx_H) : Option jx_R := jx_den (jx_look (tb_172 D)) (jx_nms mk_172) 0 [vr 30 0, vi x1, vi x2, vn, vn, vn, vn] [] h
noncomputable def F172_5 (D : jx_D) (x1 : Int32) (x2 : Int32) (x3 : Int64) (x5 : Int32) (h : jx_H) : Option jx_R := jx_den (jx_look (tb_172 D)) (jx_nms mk_172) 5 [vr 30 0, vi x1, vi x2, vl x3, vn, vi x5, vn] [] h
noncomputable def F172_42 (D : jx_D) (x1 : Int32) (x2 : Int32) (x3 : Int64) (x5 : Int32) (h : jx_H) : Option jx_R := jx_den (jx_look (tb_172 D)) (jx_nms mk_172) 42 [vr 30 0, vi x1, vi x2, vl x3, vn, vi x5, vn] [] h
noncomputable def F172_70 (D : jx_D) (x1 : Int32) (x2 : Int32) (x3 : Int64) (x5 : Int32) (h : jx_H) : Option jx_R := jx_den (jx_look (tb_172 D)) (jx_nms mk_172) 70 [vr 30 0, vi x1, vi x2, vl x3, vn, vi x5, vn] [] h
noncomputable def F172_74 (D : jx_D) (x1 : Int32) (x2 : Int32) (x3 : Int64) (x5 : Int32) (h : jx_H) : Option jx_R := jx_den (jx_look (tb_172 D)) (jx_nms mk_172) 74 [vr 30 0, vi x1, vi x2, vl x3, vn, vi x5, vn] [] h
noncomputable def F172_75 (D : jx_D) (x1 : Int32) (x2 : Int32) (x3 : Int64) (x5 : Int32) (s0 : Int32) (h : jx_H) : Option jx_R := jx_den (jx_look (tb_172 D)) (jx_nms mk_172) 75 [vr 30 0, vi x1, vi x2, vl x3, vn, vi x5, vn] [vi s0] h
noncomputable def F172_99 (D : jx_D) (x1 : Int32) (x2 : Int32) (x5 : Int32) (s0 : Int64) (s1 : Int64) (h : jx_H) : Option jx_R := jx_den (jx_look (tb_172 D)) (jx_nms mk_172) 99 [vr 30 0, vi x1, vi x2, vn, vn, vi x5, vn] [vl s0, vl s1] h
noncomputable def F172_101 (D : jx_D) (x1 : Int32) (x2 : Int32) (x3 : Int64) (x5 : Int32) (h : jx_H) : Option jx_R := jx_den (jx_look (tb_172 D)) (jx_nms mk_172) 101 [vr 30 0, vi x1, vi x2, vl x3, vn, vi x5, vn] [] h
set_option maxRecDepth 1000000 in
set_option maxHeartbeats 4000000 in
theorem e172_0 (D : jx_D) (x1 : Int32) (x2 : Int32) (h : jx_H) : F172_0 D x1 x2 h = F172_5 D x1 x2 (1 : Int64) (0 : Int32) h := (jx_it_eq (tl_m172 D) (jx_mem [5, 42, 70, 74, 75, 99, 101]) 61 _ _ _ _).trans rfl
set_option maxRecDepth 1000000 in
set_option maxHeartbeats 4000000 in
theorem e172_5 (D : jx_D) (x1 : Int32) (x2 : Int32) (x3 : Int64) (x5 : Int32) (h : jx_H) : F172_5 D x1 x2 x3 x5 h = (jx_if (x5 < (h.1 30 0 1)) ((jx_if (jx_in x5 50) ((jx_bI (D 136 [vi x1, vi (h.1 33 0 x5.toNatClampNeg)] h) fun y1 h1 => (jx_if (y1 = 0) (F172_42 D x1 x2 x3 x5 h1) ((jx_if (jx_in x5 50) ((jx_bI (D 136 [vi x2, vi (h1.1 34 0 x5.toNatClampNeg)] h1) fun y2 h2 => (jx_if (y2 = 0) (F172_42 D x1 x2 x3 x5 h2) (F172_70 D x1 x2 x3 x5 h2)))) none))))) none)) (some ([vl x3], h))) := (jx_it_eq (tl_m172 D) (jx_mem [5, 42, 70, 74, 75, 99, 101]) 61 _ _ _ _).trans rfl
set_option maxRecDepth 1000000 in
set_option maxHeartbeats 4000000 in
theorem e172_42 (D : jx_D) (x1 : Int32) (x2 : Int32) (x3 : Int64) (x5 : Int32) (h : jx_H) : F172_42 D x1 x2 x3 x5 h = (jx_if (jx_in x5 50) ((jx_bI (D 136 [vi x2, vi (h.1 33 0 x5.toNatClampNeg)] h) fun y1 h1 => (jx_if (y1 = 0) (F172_74 D x1 x2 x3 x5 h1) ((jx_if (jx_in x5 50) ((jx_bI (D 136 [vi x1, vi (h1.1 34 0 x5.toNatClampNeg)] h1) fun y2 h2 => (jx_if (y2 = 0) (F172_74 D x1 x2 x3 x5 h2) (F172_70 D x1 x2 x3 x5 h2)))) none))))) none) := (jx_it_eq (tl_m172 D) (jx_mem [5, 42, 70, 74, 75, 99, 101]) 61 _ _ _ _).trans rfl
set_option maxRecDepth 1000000 in
set_option maxHeartbeats 4000000 in
theorem e172_70 (D : jx_D) (x1 : Int32) (x2 : Int32) (x3 : Int64) (x5 : Int32) (h : jx_H) : F172_70 D x1 x2 x3 x5 h = F172_75 D x1 x2 x3 x5 (1 : Int32) h := (jx_it_eq (tl_m172 D) (jx_mem [5, 42, 70, 74, 75, 99, 101]) 61 _ _ _ _).trans rfl
set_option maxRecDepth 1000000 in
set_option maxHeartbeats 4000000 in
theorem e172_74 (D : jx_D) (x1 : Int32) (x2 : Int32) (x3 : Int64) (x5 : Int32) (h : jx_H) : F172_74 D x1 x2 x3 x5 h = F172_75 D x1 x2 x3 x5 (0 : Int32) h := (jx_it_eq (tl_m172 D) (jx_mem [5, 42, 70, 74, 75, 99, 101]) 61 _ _ _ _).trans rfl
set_option maxRecDepth 1000000 in
set_option maxHeartbeats 4000000 in
theorem e172_75 (D : jx_D) (x1 : Int32) (x2 : Int32) (x3 : Int64) (x5 : Int32) (s0 : Int32) (h : jx_H) : F172_75 D x1 x2 x3 x5 s0 h = (jx_if (s0 = 0) (F172_99 D x1 x2 x5 (1 : Int64) x3 h) ((jx_if (jx_in x5 20) (F172_99 D x1 x2 x5 ((8 : Int64) - (((h.1 36 0 x5.toNatClampNeg)).toInt64)) x3 h) none))) := (jx_it_eq (tl_m172 D) (jx_mem [5, 42, 70, 74, 75, 99, 101]) 61 _ _ _ _).trans rfl
set_option maxRecDepth 1000000 in
set_option maxHeartbeats 4000000 in
theorem e172_99 (D : jx_D) (x1 : Int32) (x2 : Int32) (x5 : Int32) (s0 : Int64) (s1 : Int64) (h : jx_H) : F172_99 D x1 x2 x5 s0 s1 h = F172_101 D x1 x2 (s1 * s0) x5 h := (jx_it_eq (tl_m172 D) (jx_mem [5, 42, 70, 74, 75, 99, 101]) 61 _ _ _ _).trans rfl
set_option maxRecDepth 1000000 in
set_option maxHeartbeats 4000000 in
theorem e172_101 (D : jx_D) (x1 : Int32) (x2 : Int32) (x3 : Int64) (x5 : Int32) (h : jx_H) : F172_101 D x1 x2 x3 x5 h = F172_5 D x1 x2 x3 (x5 + 1) h := (jx_it_eq (tl_m172 D) (jx_mem [5, 42, 70, 74, 75, 99, 101]) 61 _ _ _ _).trans rfl
noncomputable def F173_0 (D : jx_D) (x1 : Int32) (h : jx_H) : Option jx_R := jx_den (jx_look (tb_173 D)) (jx_nms mk_173) 0 [vr 30 0, vi x1] [] h
set_option maxRecDepth 1000000 in
set_option maxHeartbeats 4000000 in
theorem e173_0 (D : jx_D) (x1 : Int32) (h : jx_H) : F173_0 D x1 h = (jx_if ((h.1 30 0 14) = (60 : Int32)) ((jx_bI (D 111 [vr 30 0, vi ((-5) : Int32)] h) fun y1 h1 => some ([vi y1], h1))) ((jx_if (jx_in (h.1 30 0 14) 60) (some ([vi (((h.1 30 0 14) + (1 : Int32)))], (jx_sI (jx_sI h 45 0 ((h.1 30 0 14).toNatClampNeg) x1) 30 0 14 ((h.1 30 0 14) + (1 : Int32))))) none))) := (jx_it_eq (tl_m173 D) (jx_mem []) 26 _ _ _ _).trans rfl
noncomputable def F174_0 (D : jx_D) (h : jx_H) : Option jx_R := jx_den (jx_look (tb_174 D)) (jx_nms mk_174) 0 [vr 30 0, vn, vn] [] h
noncomputable def F174_25 (D : jx_D) (x1 : Int32) (x2 : Int32) (h : jx_H) : Option jx_R := jx_den (jx_look (tb_174 D)) (jx_nms mk_174) 25 [vr 30 0, vi x1, vi x2] [] h
noncomputable def F174_75 (D : jx_D) (h : jx_H) : Option jx_R := jx_den (jx_look (tb_174 D)) (jx_nms mk_174) 75 [vr 30 0, vn, vn] [] h
noncomputable def F174_89 (D : jx_D) (x1 : Int32) (x2 : Int32) (h : jx_H) : Option jx_R := jx_den (jx_look (tb_174 D)) (jx_nms mk_174) 89 [vr 30 0, vi x1, vi x2] [] h
set_option maxRecDepth 1000000 in
set_option maxHeartbeats 4000000 in
theorem e174_0 (D : jx_D) (h : jx_H) : F174_0 D h = (jx_if ((2 : Int32) = 0) none ((jx_if (((h.1 30 0 14) - (h.1 30 0 14) / (2 : Int32) * (2 : Int32)) = 0) (F174_25 D (h.1 30 0 14) (0 : Int32) (jx_sI h 30 0 14 (0 : Int32))) ((jx_bI (D 111 [vr 30 0, vi ((-3) : Int32)] (jx_sI h 30 0 14 (0 : Int32))) fun y1 h1 => some ([vi y1], h1)))))) := (jx_it_eq (tl_m174 D) (jx_mem [25, 75, 89]) 98 _ _ _ _).trans rfl
set_option maxRecDepth 1000000 in
set_option maxHeartbeats 4000000 in
theorem e174_25 (D : jx_D) (x1 : Int32) (x2 : Int32) (h : jx_H) : F174_25 D x1 x2 h = (jx_if (x2 < x1) ((jx_if (jx_in x2 60) ((jx_bI (D 118 [vr 30 0, vi (h.1 45 0 x2.toNatClampNeg)] h) fun y1 h1 => (jx_if (y1 = 0) (F174_75 D h1) ((jx_if (jx_in (x2 + (1 : Int32)) 60) ((jx_bI (D 118 [vr 30 0, vi (h1.1 45 0 ((x2 + (1 : Int32)).toNatClampNeg))] h1) fun y2 h2 => (jx_if (y2 = 0) (F174_75 D h2) ((jx_if (jx_in x2 60) ((jx_if (jx_in (x2 + (1 : Int32)) 60) ((jx_if ((h2.1 45 0 x2.toNatClampNeg) = (h2.1 45 0 ((x2 + (1 : Int32)).toNatClampNeg))) (F174_75 D h2) (F174_25 D x1 (x2 + 2) h2))) none)) none))))) none))))) none)) (F174_89 D x1 (0 : Int32) h)) := (jx_it_eq (tl_m174 D) (jx_mem [25, 75, 89]) 98 _ _ _ _).trans rfl
set_option maxRecDepth 1000000 in
set_option maxHeartbeats 4000000 in
theorem e174_75 (D : jx_D) (h : jx_H) : F174_75 D h = (jx_bI (D 111 [vr 30 0, vi ((-1) : Int32)] h) fun y1 h1 => some ([vi y1], h1)) := (jx_it_eq (tl_m174 D) (jx_mem [25, 75, 89]) 98 _ _ _ _).trans rfl
set_option maxRecDepth 1000000 in
set_option maxHeartbeats 4000000 in
theorem e174_89 (D : jx_D) (x1 : Int32) (x2 : Int32) (h : jx_H) : F174_89 D x1 x2 h = (jx_if (x2 < x1) ((jx_if ((2 : Int32) = 0) none ((jx_if (jx_in x2 60) ((jx_if (jx_in ((20 : Int32) + (x2 / (2 : Int32))) 50) ((jx_if ((2 : Int32) = 0) none ((jx_if (jx_in (x2 + (1 : Int32)) 60) ((jx_if (jx_in ((20 : Int32) + (x2 / (2 : Int32))) 50) (F174_89 D x1 (x2 + 2) (jx_sI (jx_sI h 33 0 (((20 : Int32) + (x2 / (2 : Int32))).toNatClampNeg) (h.1 45 0 x2.toNatClampNeg)) 34 0 (((20 : Int32) + (x2 / (2 : Int32))).toNatClampNeg) (h.1 45 0 ((x2 + (1 : Int32)).toNatClampNeg)))) none)) none)))) none)) none)))) ((jx_if ((2 : Int32) = 0) none ((jx_bI (D 137 [vr 30 0] h) fun y1 h1 => (jx_bI (D 142 [vr 30 0, vi ((20 : Int32) + (x1 / (2 : Int32))), vi y1] h1) fun y2 h2 => some ([vi y2], h2))))))) := (jx_it_eq (tl_m174 D) (jx_mem [25, 75, 89]) 98 _ _ _ _).trans rfl
noncomputable def F175_0 (D : jx_D) (x1 : Int32) (x2 : Int32) (h : jx_H) : Option jx_R := jx_den (jx_look (tb_175 D)) (jx_nms mk_175) 0 [vr 30 0, vi x1, vi x2, vn, vn, vn, vn, vn] [] h
noncomputable def F175_26 (D : jx_D) (h : jx_H) : Option jx_R := jx_den (jx_look (tb_175 D)) (jx_nms mk_175) 26 [vr 30 0, vn, vn, vn, vn, vn, vn, vn] [] h
noncomputable def F175_52 (D : jx_D) (x2 : Int32) (x3 : Int32) (x4 : Int32) (x5 : Int32) (h : jx_H) : Option jx_R := jx_den (jx_look (tb_175 D)) (jx_nms mk_175) 52 [vr 30 0, vn, vi x2, vi x3, vi x4, vi x5, vn, vn] [] h
noncomputable def F175_55 (D : jx_D) (x2 : Int32) (x3 : Int32) (x4 : Int32) (x5 : Int32) (x6 : Int32) (h : jx_H) : Option jx_R := jx_den (jx_look (tb_175 D)) (jx_nms mk_175) 55 [vr 30 0, vn, vi x2, vi x3, vi x4, vi x5, vi x6, vn] [] h
noncomputable def F175_70 (D : jx_D) (x2 : Int32) (x3 : Int32) (x4 : Int32) (x5 : Int32) (x6 : Int32) (x7 : Int32) (h : jx_H) : Option jx_R := jx_den (jx_look (tb_175 D)) (jx_nms mk_175) 70 [vr 30 0, vn, vi x2, vi x3, vi x4, vi x5, vi x6, vi x7] [] h
noncomputable def F175_181 (D : jx_D) (s0 : Int32) (h : jx_H) : Option jx_R := jx_den (jx_look (tb_175 D)) (jx_nms mk_175) 181 [vn, vn, vn, vn, vn, vn, vn, vn] [vi s0] h
noncomputable def F175_110 (D : jx_D) (h : jx_H) : Option jx_R := jx_den (jx_look (tb_175 D)) (jx_nms mk_175) 110 [vn, vn, vn, vn, vn, vn, vn, vn] [] h
noncomputable def F175_112 (D : jx_D) (x2 : Int32) (x3 : Int32) (x4 : Int32) (x5 : Int32) (x6 : Int32) (x7 : Int32) (h : jx_H) : Option jx_R := jx_den (jx_look (tb_175 D)) (jx_nms mk_175) 112 [vr 30 0, vn, vi x2, vi x3, vi x4, vi x5, vi x6, vi x7] [] h
noncomputable def F175_141 (D : jx_D) (x2 : Int32) (x3 : Int32) (x5 : Int32) (x6 : Int32) (s0 : Int32) (h : jx_H) : Option jx_R := jx_den (jx_look (tb_175 D)) (jx_nms mk_175) 141 [vr 30 0, vn, vi x2, vi x3, vn, vi x5, vi x6, vn] [vi s0] h
noncomputable def F175_143 (D : jx_D) (x2 : Int32) (x3 : Int32) (x4 : Int32) (x5 : Int32) (x6 : Int32) (h : jx_H) : Option jx_R := jx_den (jx_look (tb_175 D)) (jx_nms mk_175) 143 [vr 30 0, vn, vi x2, vi x3, vi x4, vi x5, vi x6, vn] [] h
noncomputable def F175_164 (D : jx_D) (x2 : Int32) (x3 : Int32) (x4 : Int32) (x5 : Int32) (x6 : Int32) (h : jx_H) : Option jx_R := jx_den (jx_look (tb_175 D)) (jx_nms mk_175) 164 [vr 30 0, vn, vi x2, vi x3, vi x4, vi x5, vi x6, vn] [] h
set_option maxRecDepth 1000000 in
set_option maxHeartbeats 4000000 in
theorem e175_0 (D : jx_D) (x1 : Int32) (x2 : Int32) (h : jx_H) : F175_0 D x1 x2 h = (jx_bI (D 118 [vr 30 0, vi x1] (jx_sI h 30 0 14 (0 : Int32))) fun y1 h1 => (jx_if (y1 = 0) (F175_26 D h1) ((jx_bI (D 118 [vr 30 0, vi x2] h1) fun y2 h2 => (jx_if (y2 = 0) (F175_26 D h2) ((jx_if (x1 = x2) ((jx_bI (D 111 [vr 30 0, vi ((-3) : Int32)] h2) fun y3 h3 => some ([vi y3], h3))) (F175_52 D x2 (h.1 30 0 14) x1 ((1 : Int32) <<< (x1 &&& 31)) h2)))))))) := (jx_it_eq (tl_m175 D) (jx_mem [26, 52, 55, 70, 110, 112, 141, 143, 164, 181]) 102 _ _ _ _).trans rfl
set_option maxRecDepth 1000000 in
set_option maxHeartbeats 4000000 in
theorem e175_26 (D : jx_D) (h : jx_H) : F175_26 D h = (jx_bI (D 111 [vr 30 0, vi ((-1) : Int32)] h) fun y1 h1 => some ([vi y1], h1)) := (jx_it_eq (tl_m175 D) (jx_mem [26, 52, 55, 70, 110, 112, 141, 143, 164, 181]) 102 _ _ _ _).trans rfl
set_option maxRecDepth 1000000 in
set_option maxHeartbeats 4000000 in
theorem e175_52 (D : jx_D) (x2 : Int32) (x3 : Int32) (x4 : Int32) (x5 : Int32) (h : jx_H) : F175_52 D x2 x3 x4 x5 h = F175_55 D x2 x3 x4 x5 (0 : Int32) h := (jx_it_eq (tl_m175 D) (jx_mem [26, 52, 55, 70, 110, 112, 141, 143, 164, 181]) 102 _ _ _ _).trans rfl
set_option maxRecDepth 1000000 in
set_option maxHeartbeats 4000000 in
theorem e175_55 (D : jx_D) (x2 : Int32) (x3 : Int32) (x4 : Int32) (x5 : Int32) (x6 : Int32) (h : jx_H) : F175_55 D x2 x3 x4 x5 x6 h = (jx_if (x6 < x3) ((jx_if (jx_in x6 60) (F175_70 D x2 x3 x4 x5 x6 (h.1 45 0 x6.toNatClampNeg) h) none)) ((jx_if (x4 = x2) (F175_181 D (1 : Int32) h) (F175_181 D (0 : Int32) h)))) := (jx_it_eq (tl_m175 D) (jx_mem [26, 52, 55, 70, 110, 112, 141, 143, 164, 181]) 102 _ _ _ _).trans rfl
set_option maxRecDepth 1000000 in
set_option maxHeartbeats 4000000 in
theorem e175_70 (D : jx_D) (x2 : Int32) (x3 : Int32) (x4 : Int32) (x5 : Int32) (x6 : Int32) (x7 : Int32) (h : jx_H) : F175_70 D x2 x3 x4 x5 x6 x7 h = (jx_bI (D 121 [vr 30 0, vi x7] h) fun y1 h1 => (jx_if (y1 = 0) (F175_110 D h1) ((jx_if (jx_in x7 50) ((jx_if ((h1.1 33 0 x7.toNatClampNeg) = x4) (F175_112 D x2 x3 x4 x5 x6 x7 h1) ((jx_if ((h1.1 30 0 2) = 0) ((jx_if (jx_in x7 50) ((jx_if ((h1.1 34 0 x7.toNatClampNeg) = x4) (F175_112 D x2 x3 x4 x5 x6 x7 h1) (F175_110 D h1))) none)) (F175_110 D h1))))) none)))) := (jx_it_eq (tl_m175 D) (jx_mem [26, 52, 55, 70, 110, 112, 141, 143, 164, 181]) 102 _ _ _ _).trans rfl
set_option maxRecDepth 1000000 in
set_option maxHeartbeats 4000000 in
theorem e175_181 (D : jx_D) (s0 : Int32) (h : jx_H) : F175_181 D s0 h = some ([vi s0], h) := (jx_it_eq (tl_m175 D) (jx_mem [26, 52, 55, 70, 110, 112, 141, 143, 164, 181]) 102 _ _ _ _).trans rfl
set_option maxRecDepth 1000000 in
set_option maxHeartbeats 4000000 in
theorem e175_110 (D : jx_D) (h : jx_H) : F175_110 D h = some ([vi (0 : Int32)], h) := (jx_it_eq (tl_m175 D) (jx_mem [26, 52, 55, 70, 110, 112, 141, 143, 164, 181]) 102 _ _ _ _).trans rfl
set_option maxRecDepth 1000000 in
set_option maxHeartbeats 4000000 in
theorem e175_112 (D : jx_D) (x2 : Int32) (x3 : Int32) (x4 : Int32) (x5 : Int32) (x6 : Int32) (x7 : Int32) (h : jx_H) : F175_112 D x2 x3 x4 x5 x6 x7 h = (jx_if (jx_in x7 50) ((jx_if ((h.1 33 0 x7.toNatClampNeg) = x4) ((jx_if (jx_in x7 50) (F175_141 D x2 x3 x5 x6 (h.1 34 0 x7.toNatClampNeg) h) none)) ((jx_if (jx_in x7 50) (F175_141 D x2 x3 x5 x6 (h.1 33 0 x7.toNatClampNeg) h) none)))) none) := (jx_it_eq (tl_m175 D) (jx_mem [26, 52, 55, 70, 110, 112, 141, 143, 164, 181]) 102 _ _ _ _).trans rfl
set_option maxRecDepth 1000000 in
set_option maxHeartbeats 4000000 in
theorem e175_141 (D : jx_D) (x2 : Int32) (x3 : Int32) (x5 : Int32) (x6 : Int32) (s0 : Int32) (h : jx_H) : F175_141 D x2 x3 x5 x6 s0 h = F175_143 D x2 x3 s0 x5 x6 h := (jx_it_eq (tl_m175 D) (jx_mem [26, 52, 55, 70, 110, 112, 141, 143, 164, 181]) 102 _ _ _ _).trans rfl
set_option maxRecDepth 1000000 in
set_option maxHeartbeats 4000000 in
theorem e175_143 (D : jx_D) (x2 : Int32) (x3 : Int32) (x4 : Int32) (x5 : Int32) (x6 : Int32) (h : jx_H) : F175_143 D x2 x3 x4 x5 x6 h = (jx_bI (D 136 [vi x5, vi x4] h) fun y1 h1 => (jx_if (y1 = 0) (F175_164 D x2 x3 x4 (x5 ||| ((1 : Int32) <<< (x4 &&& 31))) x6 h1) (some ([vi (0 : Int32)], h1)))) := (jx_it_eq (tl_m175 D) (jx_mem [26, 52, 55, 70, 110, 112, 141, 143, 164, 181]) 102 _ _ _ _).trans rfl
set_option maxRecDepth 1000000 in
set_option maxHeartbeats 4000000 in
theorem e175_164 (D : jx_D) (x2 : Int32) (x3 : Int32) (x4 : Int32) (x5 : Int32) (x6 : Int32) (h : jx_H) : F175_164 D x2 x3 x4 x5 x6 h = F175_55 D x2 x3 x4 x5 (x6 + 1) h := (jx_it_eq (tl_m175 D) (jx_mem [26, 52, 55, 70, 110, 112, 141, 143, 164, 181]) 102 _ _ _ _).trans rfl
noncomputable def F176_0 (D : jx_D) (x1 : Int32) (h : jx_H) : Option jx_R := jx_den (jx_look (tb_176 D)) (jx_nms mk_176) 0 [vr 30 0, vi x1, vn] [] h
noncomputable def F176_48 (D : jx_D) (x1 : Int32) (h : jx_H) : Option jx_R := jx_den (jx_look (tb_176 D)) (jx_nms mk_176) 48 [vr 30 0, vi x1, vn] [] h
noncomputable def F176_49 (D : jx_D) (x1 : Int32) (s0 : Int32) (h : jx_H) : Option jx_R := jx_den (jx_look (tb_176 D)) (jx_nms mk_176) 49 [vr 30 0, vi x1, vn] [vi s0] h
noncomputable def F176_93 (D : jx_D) (x1 : Int32) (x2 : Int32) (s0 : Int32) (h : jx_H) : Option jx_R := jx_den (jx_look (tb_176 D)) (jx_nms mk_176) 93 [vr 30 0, vi x1, vi x2] [vi s0, vr 40 0] h
noncomputable def F176_102 (D : jx_D) (x1 : Int32) (s0 : Int32) (s1 : Int32) (h : jx_H) : Option jx_R := jx_den (jx_look (tb_176 D)) (jx_nms mk_176) 102 [vr 30 0, vi x1, vn] [vi s0, vi s1, vr 40 0] h
set_option maxRecDepth 1000000 in
set_option maxHeartbeats 4000000 in
theorem e176_0 (D : jx_D) (x1 : Int32) (h : jx_H) : F176_0 D x1 h = (jx_bI (D 177 [vi x1] h) fun y1 h1 => (jx_if (y1 = 0) ((jx_bI (D 111 [vr 30 0, vi ((-1) : Int32)] h1) fun y2 h2 => some ([vi y2], h2))) ((jx_bV (D 115 [vr 30 0, vr 39 0, vi ((84 : Int32) * x1)] h1) fun h3 => (jx_if ((h3.1 30 0 2) = 0) ((jx_bI (D 137 [vr 30 0] h3) fun y4 h4 => (jx_bI (D 148 [vr 30 0, vi (0 : Int32), vi y4] h4) fun y5 h5 => (jx_if (y5 = 0) (F176_48 D x1 h5) (F176_49 D x1 (1 : Int32) h5))))) (F176_48 D x1 h3)))))) := (jx_it_eq (tl_m176 D) (jx_mem [48, 49, 93, 102]) 62 _ _ _ _).trans rfl
set_option maxRecDepth 1000000 in
set_option maxHeartbeats 4000000 in
theorem e176_48 (D : jx_D) (x1 : Int32) (h : jx_H) : F176_48 D x1 h = F176_49 D x1 (0 : Int32) h := (jx_it_eq (tl_m176 D) (jx_mem [48, 49, 93, 102]) 62 _ _ _ _).trans rfl
set_option maxRecDepth 1000000 in
set_option maxHeartbeats 4000000 in
theorem e176_49 (D : jx_D) (x1 : Int32) (s0 : Int32) (h : jx_H) : F176_49 D x1 s0 h = (jx_if ((h.1 30 0 2) = 0) ((jx_if ((h.1 30 0 2) = 0) ((jx_if ((h.1 30 0 0) ≤ (1 : Int32)) (F176_93 D x1 s0 x1 h) ((jx_bI (D 141 [vr 30 0] h) fun y1 h1 => (jx_if (y1 < (2 : Int32)) (F176_93 D x1 s0 x1 h1) (F176_102 D x1 (2 : Int32) x1 h1)))))) (F176_93 D x1 s0 x1 h))) (F176_102 D x1 (3 : Int32) x1 h)) := (jx_it_eq (tl_m176 D) (jx_mem [48, 49, 93, 102]) 62 _ _ _ _).trans rfl
set_option maxRecDepth 1000000 in
set_option maxHeartbeats 4000000 in
theorem e176_93 (D : jx_D) (x1 : Int32) (x2 : Int32) (s0 : Int32) (h : jx_H) : F176_93 D x1 x2 s0 h = (jx_if (x2 = 0) (F176_102 D x1 (0 : Int32) s0 h) (F176_102 D x1 (1 : Int32) s0 h)) := (jx_it_eq (tl_m176 D) (jx_mem [48, 49, 93, 102]) 62 _ _ _ _).trans rfl
set_option maxRecDepth 1000000 in
set_option maxHeartbeats 4000000 in
theorem e176_102 (D : jx_D) (x1 : Int32) (s0 : Int32) (s1 : Int32) (h : jx_H) : F176_102 D x1 s0 s1 h = (jx_if (jx_in s1 4) ((jx_if (jx_in x1 4) (some ([vi ((jx_sI h 40 0 s1.toNatClampNeg s0).1 40 0 x1.toNatClampNeg)], (jx_sI h 40 0 s1.toNatClampNeg s0))) none)) none) := (jx_it_eq (tl_m176 D) (jx_mem [48, 49, 93, 102]) 62 _ _ _ _).trans rfl
noncomputable def F177_0 (D : jx_D) (x0 : Int32) (h : jx_H) : Option jx_R := jx_den (jx_look (tb_177 D)) (jx_nms mk_177) 0 [vi x0] [] h
noncomputable def F177_13 (D : jx_D) (h : jx_H) : Option jx_R := jx_den (jx_look (tb_177 D)) (jx_nms mk_177) 13 [vn] [] h
noncomputable def F177_14 (D : jx_D) (s0 : Int32) (h : jx_H) : Option jx_R := jx_den (jx_look (tb_177 D)) (jx_nms mk_177) 14 [vn] [vi s0] h
set_option maxRecDepth 1000000 in
set_option maxHeartbeats 4000000 in
theorem e177_0 (D : jx_D) (x0 : Int32) (h : jx_H) : F177_0 D x0 h = (jx_if (x0 < 0) (F177_13 D h) ((jx_if (x0 < (4 : Int32)) (F177_14 D (1 : Int32) h) (F177_13 D h)))) := (jx_it_eq (tl_m177 D) (jx_mem [13, 14]) 12 _ _ _ _).trans rfl
set_option maxRecDepth 1000000 in
set_option maxHeartbeats 4000000 in
theorem e177_13 (D : jx_D) (h : jx_H) : F177_13 D h = F177_14 D (0 : Int32) h := (jx_it_eq (tl_m177 D) (jx_mem [13, 14]) 12 _ _ _ _).trans rfl
set_option maxRecDepth 1000000 in
set_option maxHeartbeats 4000000 in
theorem e177_14 (D : jx_D) (s0 : Int32) (h : jx_H) : F177_14 D s0 h = (jx_if (s0 = 0 ∨ s0 = 1) (some ([vi s0], h)) none) := (jx_it_eq (tl_m177 D) (jx_mem [13, 14]) 12 _ _ _ _).trans rfl
noncomputable def F178_0 (D : jx_D) (x1 : Int32) (h : jx_H) : Option jx_R := jx_den (jx_look (tb_178 D)) (jx_nms mk_178) 0 [vr 30 0, vi x1] [] h
set_option maxRecDepth 1000000 in
set_option maxHeartbeats 4000000 in
theorem e178_0 (D : jx_D) (x1 : Int32) (h : jx_H) : F178_0 D x1 h = (jx_bI (D 177 [vi x1] h) fun y1 h1 => (jx_if (y1 = 0) ((jx_bI (D 111 [vr 30 0, vi ((-1) : Int32)] h1) fun y2 h2 => some ([vi y2], h2))) ((jx_if (jx_in x1 4) ((jx_if ((h1.1 40 0 x1.toNatClampNeg) < 0) ((jx_bI (D 111 [vr 30 0, vi ((-6) : Int32)] h1) fun y3 h3 => some ([vi y3], h3))) ((jx_bV (D 114 [vr 30 0] h1) fun h4 => (jx_bV (D 112 [vr 30 0, vr 39 0, vi ((84 : Int32) * x1)] h4) fun h5 => some ([vi (h5.1 30 0 0)], h5)))))) none)))) := (jx_it_eq (tl_m178 D) (jx_mem []) 31 _ _ _ _).trans rfl
noncomputable def F179_0 (D : jx_D) (x1 : Int32) (x2 : Int32) (h : jx_H) : Option jx_R := jx_den (jx_look (tb_179 D)) (jx_nms mk_179) 0 [vr 30 0, vi x1, vi x2, vn, vn] [] h
noncomputable def F179_16 (D : jx_D) (h : jx_H) : Option jx_R := jx_den (jx_look (tb_179 D)) (jx_nms mk_179) 16 [vr 30 0, vn, vn, vn, vn] [] h
noncomputable def F179_45 (D : jx_D) (x1 : Int32) (x2 : Int32) (x3 : Int32) (h : jx_H) : Option jx_R := jx_den (jx_look (tb_179 D)) (jx_nms mk_179) 45 [vr 30 0, vi x1, vi x2, vi x3, vn] [] h
noncomputable def F179_64 (D : jx_D) (x1 : Int32) (h : jx_H) : Option jx_R := jx_den (jx_look (tb_179 D)) (jx_nms mk_179) 64 [vr 30 0, vi x1, vn, vn, vn] [] h
noncomputable def F179_68 (D : jx_D) (x1 : Int32) (h : jx_H) : Option jx_R := jx_den (jx_look (tb_179 D)) (jx_nms mk_179) 68 [vr 30 0, vi x1, vn, vn, vn] [] h
noncomputable def F179_69 (D : jx_D) (x1 : Int32) (s0 : Int32) (h : jx_H) : Option jx_R := jx_den (jx_look (tb_179 D)) (jx_nms mk_179) 69 [vr 30 0, vi x1, vn, vn, vn] [vi s0] h
noncomputable def F179_96 (D : jx_D) (s0 : Int32) (h : jx_H) : Option jx_R := jx_den (jx_look (tb_179 D)) (jx_nms mk_179) 96 [vn, vn, vn, vn, vn] [vi s0] h
set_option maxRecDepth 1000000 in
set_option maxHeartbeats 4000000 in
theorem e179_0 (D : jx_D) (x1 : Int32) (x2 : Int32) (h : jx_H) : F179_0 D x1 x2 h = (jx_bI (D 177 [vi x1] h) fun y1 h1 => (jx_if (y1 = 0) (F179_16 D h1) ((jx_if (x2 < 0) (F179_16 D h1) ((jx_if (x2 ≤ (3 : Int32)) ((jx_if (jx_in x1 4) ((jx_if ((h1.1 40 0 x1.toNatClampNeg) < 0) ((jx_bI (D 111 [vr 30 0, vi ((-6) : Int32)] h1) fun y2 h2 => some ([vi y2], h2))) ((jx_if (jx_in x1 4) (F179_45 D x1 x2 (h1.1 40 0 x1.toNatClampNeg) h1) none)))) none)) (F179_16 D h1))))))) := (jx_it_eq (tl_m179 D) (jx_mem [16, 45, 64, 68, 69, 96]) 59 _ _ _ _).trans rfl
set_option maxRecDepth 1000000 in
set_option maxHeartbeats 4000000 in
theorem e179_16 (D : jx_D) (h : jx_H) : F179_16 D h = (jx_bI (D 111 [vr 30 0, vi ((-1) : Int32)] h) fun y1 h1 => some ([vi y1], h1)) := (jx_it_eq (tl_m179 D) (jx_mem [16, 45, 64, 68, 69, 96]) 59 _ _ _ _).trans rfl
set_option maxRecDepth 1000000 in
set_option maxHeartbeats 4000000 in
theorem e179_45 (D : jx_D) (x1 : Int32) (x2 : Int32) (x3 : Int32) (h : jx_H) : F179_45 D x1 x2 x3 h = (jx_if (x3 = x2) (F179_64 D x1 h) ((jx_if (x2 = 0) (F179_64 D x1 h) ((jx_if (x2 = (1 : Int32)) ((jx_if (x3 = (2 : Int32)) (F179_64 D x1 h) (F179_68 D x1 h))) (F179_68 D x1 h)))))) := (jx_it_eq (tl_m179 D) (jx_mem [16, 45, 64, 68, 69, 96]) 59 _ _ _ _).trans rfl
set_option maxRecDepth 1000000 in
set_option maxHeartbeats 4000000 in
theorem e179_64 (D : jx_D) (x1 : Int32) (h : jx_H) : F179_64 D x1 h = F179_69 D x1 (1 : Int32) h := (jx_it_eq (tl_m179 D) (jx_mem [16, 45, 64, 68, 69, 96]) 59 _ _ _ _).trans rfl
set_option maxRecDepth 1000000 in
set_option maxHeartbeats 4000000 in
theorem e179_68 (D : jx_D) (x1 : Int32) (h : jx_H) : F179_68 D x1 h = F179_69 D x1 (0 : Int32) h := (jx_it_eq (tl_m179 D) (jx_mem [16, 45, 64, 68, 69, 96]) 59 _ _ _ _).trans rfl
set_option maxRecDepth 1000000 in
set_option maxHeartbeats 4000000 in
theorem e179_69 (D : jx_D) (x1 : Int32) (s0 : Int32) (h : jx_H) : F179_69 D x1 s0 h = (jx_if (s0 = 0) ((jx_bI (D 111 [vr 30 0, vi ((-4) : Int32)] h) fun y1 h1 => F179_96 D y1 h1)) ((jx_if (jx_in (((84 : Int32) * x1) + (1 : Int32)) 336) (F179_96 D (h.1 39 0 ((((84 : Int32) * x1) + (1 : Int32)).toNatClampNeg)) h) none))) := (jx_it_eq (tl_m179 D) (jx_mem [16, 45, 64, 68, 69, 96]) 59 _ _ _ _).trans rfl
set_option maxRecDepth 1000000 in
set_option maxHeartbeats 4000000 in
theorem e179_96 (D : jx_D) (s0 : Int32) (h : jx_H) : F179_96 D s0 h = some ([vi s0], h) := (jx_it_eq (tl_m179 D) (jx_mem [16, 45, 64, 68, 69, 96]) 59 _ _ _ _).trans rfl
noncomputable def F180_0 (D : jx_D) (x1 : Int32) (h : jx_H) : Option jx_R := jx_den (jx_look (tb_180 D)) (jx_nms mk_180) 0 [vr 30 0, vi x1] [] h
noncomputable def F180_10 (D : jx_D) (h : jx_H) : Option jx_R := jx_den (jx_look (tb_180 D)) (jx_nms mk_180) 10 [vr 30 0, vn] [] h
noncomputable def F180_78 (D : jx_D) (s0 : Int32) (h : jx_H) : Option jx_R := jx_den (jx_look (tb_180 D)) (jx_nms mk_180) 78 [vn, vn] [vi s0] h
noncomputable def F180_96 (D : jx_D) (s0 : Int32) (h : jx_H) : Option jx_R := jx_den (jx_look (tb_180 D)) (jx_nms mk_180) 96 [vn, vn] [vi s0] h
set_option maxRecDepth 1000000 in
set_option maxHeartbeats 4000000 in
theorem e180_0 (D : jx_D) (x1 : Int32) (h : jx_H) : F180_0 D x1 h = (jx_if (x1 < 0) (F180_10 D h) ((jx_if (x1 ≤ (6 : Int32)) ((jx_if (x1 = 0) (some ([vi (h.1 30 0 0)], h)) (jx_if (x1 = 1) (some ([vi (h.1 30 0 1)], h)) (jx_if (x1 = 2) ((jx_if ((h.1 30 0 2) = 0) (F180_78 D (0 : Int32) h) (F180_78 D (1 : Int32) h))) (jx_if (x1 = 3) ((jx_bI (D 137 [vr 30 0] h) fun y1 h1 => (jx_bI (D 148 [vr 30 0, vi (0 : Int32), vi y1] h1) fun y2 h2 => (jx_if (y2 = 0) (F180_96 D (0 : Int32) h2) (F180_96 D (1 : Int32) h2))))) (jx_if (x1 = 4) (some ([vi (h.1 30 0 14)], h)) (jx_if (x1 = 5) ((jx_bI (D 137 [vr 30 0] h) fun y3 h3 => (jx_bI (D 155 [vr 30 0, vi y3] h3) fun y4 h4 => some ([vi y4], h4)))) (some ([vi (h.1 30 0 16)], h))))))))) (F180_10 D h)))) := (jx_it_eq (tl_m180 D) (jx_mem [10, 78, 96]) 48 _ _ _ _).trans rfl
set_option maxRecDepth 1000000 in
set_option maxHeartbeats 4000000 in
theorem e180_10 (D : jx_D) (h : jx_H) : F180_10 D h = (jx_bI (D 111 [vr 30 0, vi ((-1) : Int32)] h) fun y1 h1 => some ([vi y1], h1)) := (jx_it_eq (tl_m180 D) (jx_mem [10, 78, 96]) 48 _ _ _ _).trans rfl
set_option maxRecDepth 1000000 in
set_option maxHeartbeats 4000000 in
theorem e180_78 (D : jx_D) (s0 : Int32) (h : jx_H) : F180_78 D s0 h = some ([vi s0], h) := (jx_it_eq (tl_m180 D) (jx_mem [10, 78, 96]) 48 _ _ _ _).trans rfl
set_option maxRecDepth 1000000 in
set_option maxHeartbeats 4000000 in
theorem e180_96 (D : jx_D) (s0 : Int32) (h : jx_H) : F180_96 D s0 h = some ([vi s0], h) := (jx_it_eq (tl_m180 D) (jx_mem [10, 78, 96]) 48 _ _ _ _).trans rfl
