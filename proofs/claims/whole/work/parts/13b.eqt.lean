noncomputable def F162_0 (D : jx_D) (x1 : Int32) (h : jx_H) : Option jx_R := jx_den (jx_look (tb_162 D)) (jx_nms mk_162) 0 [vr 30 0, vi x1, vn, vn, vn, vn, vn] [] h
noncomputable def F162_19 (D : jx_D) (x1 : Int32) (x2 : Int64) (x5 : Int32) (x6 : Int32) (h : jx_H) : Option jx_R := jx_den (jx_look (tb_162 D)) (jx_nms mk_162) 19 [vr 30 0, vi x1, vl x2, vn, vr 50 0, vi x5, vi x6] [] h
noncomputable def F162_51 (D : jx_D) (x1 : Int32) (x5 : Int32) (x6 : Int32) (s0 : Int64) (s1 : Int64) (h : jx_H) : Option jx_R := jx_den (jx_look (tb_162 D)) (jx_nms mk_162) 51 [vr 30 0, vi x1, vn, vn, vr 50 0, vi x5, vi x6] [vl s0, vl s1] h
noncomputable def F162_145 (D : jx_D) (x1 : Int32) (x2 : Int64) (x5 : Int32) (x6 : Int32) (h : jx_H) : Option jx_R := jx_den (jx_look (tb_162 D)) (jx_nms mk_162) 145 [vr 30 0, vi x1, vl x2, vn, vr 50 0, vi x5, vi x6] [] h
noncomputable def F162_121 (D : jx_D) (x1 : Int32) (x2 : Int64) (x5 : Int32) (x6 : Int32) (h : jx_H) : Option jx_R := jx_den (jx_look (tb_162 D)) (jx_nms mk_162) 121 [vr 30 0, vi x1, vl x2, vn, vr 50 0, vi x5, vi x6] [] h
noncomputable def F162_53 (D : jx_D) (x1 : Int32) (x2 : Int64) (x5 : Int32) (x6 : Int32) (h : jx_H) : Option jx_R := jx_den (jx_look (tb_162 D)) (jx_nms mk_162) 53 [vr 30 0, vi x1, vl x2, vn, vr 50 0, vi x5, vi x6] [] h
noncomputable def F162_75 (D : jx_D) (x1 : Int32) (x2 : Int64) (x5 : Int32) (x6 : Int32) (h : jx_H) : Option jx_R := jx_den (jx_look (tb_162 D)) (jx_nms mk_162) 75 [vr 30 0, vi x1, vl x2, vn, vr 50 0, vi x5, vi x6] [] h
set_option maxRecDepth 1000000 in
set_option maxHeartbeats 4000000 in
theorem e162_0 (D : jx_D) (x1 : Int32) (h : jx_H) : F162_0 D x1 h = (jx_if (jx_in (0 : Int32) 12) (F162_19 D x1 (0 : Int64) (0 : Int32) (0 : Int32) (jx_sI h 50 0 ((0 : Int32).toNatClampNeg) (0 : Int32))) none) := (jx_it_eq (tl_m162 D) (jx_mem [19, 51, 53, 75, 121, 145]) 105 _ _ _ _).trans rfl
set_option maxRecDepth 1000000 in
set_option maxHeartbeats 4000000 in
theorem e162_19 (D : jx_D) (x1 : Int32) (x2 : Int64) (x5 : Int32) (x6 : Int32) (h : jx_H) : F162_19 D x1 x2 x5 x6 h = (jx_if (x5 < 0) (some ([vl x2], h)) ((jx_if (x5 = x1) ((jx_bI (D 145 [vr 30 0, vi (0 : Int32), vi (0 : Int32), vi x6] h) fun y1 h1 => (jx_bI (D 135 [vr 30 0] h1) fun y2 h2 => (jx_if (y1 = y2) (F162_51 D x1 x5 x6 (1 : Int64) x2 h2) (F162_51 D x1 x5 x6 (0 : Int64) x2 h2))))) ((jx_if (jx_in x5 12) ((jx_if ((h.1 50 0 x5.toNatClampNeg) < (h.1 30 0 1)) ((jx_if (jx_in x5 12) (F162_145 D x1 x2 x5 (x6 ||| ((1 : Int32) <<< ((h.1 50 0 x5.toNatClampNeg) &&& 31))) h) none)) ((jx_if ((x5 + (-1)) < 0) (F162_19 D x1 x2 (x5 + (-1)) x6 h) ((jx_if (jx_in (x5 + (-1)) 12) (F162_121 D x1 x2 (x5 + (-1)) (x6 &&& (((1 : Int32) <<< ((h.1 50 0 ((x5 + (-1)).toNatClampNeg)) &&& 31)) ^^^ ((-1) : Int32))) h) none)))))) none))))) := (jx_it_eq (tl_m162 D) (jx_mem [19, 51, 53, 75, 121, 145]) 105 _ _ _ _).trans rfl
set_option maxRecDepth 1000000 in
set_option maxHeartbeats 4000000 in
theorem e162_51 (D : jx_D) (x1 : Int32) (x5 : Int32) (x6 : Int32) (s0 : Int64) (s1 : Int64) (h : jx_H) : F162_51 D x1 x5 x6 s0 s1 h = F162_53 D x1 (s1 + s0) x5 x6 h := (jx_it_eq (tl_m162 D) (jx_mem [19, 51, 53, 75, 121, 145]) 105 _ _ _ _).trans rfl
set_option maxRecDepth 1000000 in
set_option maxHeartbeats 4000000 in
theorem e162_145 (D : jx_D) (x1 : Int32) (x2 : Int64) (x5 : Int32) (x6 : Int32) (h : jx_H) : F162_145 D x1 x2 x5 x6 h = (jx_if (jx_in x5 12) ((jx_if (jx_in (x5 + (1 : Int32)) 12) (F162_19 D x1 x2 (x5 + 1) x6 (jx_sI h 50 0 ((x5 + (1 : Int32)).toNatClampNeg) ((h.1 50 0 x5.toNatClampNeg) + (1 : Int32)))) none)) none) := (jx_it_eq (tl_m162 D) (jx_mem [19, 51, 53, 75, 121, 145]) 105 _ _ _ _).trans rfl
set_option maxRecDepth 1000000 in
set_option maxHeartbeats 4000000 in
theorem e162_121 (D : jx_D) (x1 : Int32) (x2 : Int64) (x5 : Int32) (x6 : Int32) (h : jx_H) : F162_121 D x1 x2 x5 x6 h = (jx_if (jx_in x5 12) ((jx_if (jx_in x5 12) (F162_19 D x1 x2 x5 x6 (jx_sI h 50 0 x5.toNatClampNeg ((h.1 50 0 x5.toNatClampNeg) + (1 : Int32)))) none)) none) := (jx_it_eq (tl_m162 D) (jx_mem [19, 51, 53, 75, 121, 145]) 105 _ _ _ _).trans rfl
set_option maxRecDepth 1000000 in
set_option maxHeartbeats 4000000 in
theorem e162_53 (D : jx_D) (x1 : Int32) (x2 : Int64) (x5 : Int32) (x6 : Int32) (h : jx_H) : F162_53 D x1 x2 x5 x6 h = (jx_if ((x5 + (-1)) < 0) (F162_19 D x1 x2 (x5 + (-1)) x6 h) ((jx_if (jx_in (x5 + (-1)) 12) (F162_75 D x1 x2 (x5 + (-1)) (x6 &&& (((1 : Int32) <<< ((h.1 50 0 ((x5 + (-1)).toNatClampNeg)) &&& 31)) ^^^ ((-1) : Int32))) h) none))) := (jx_it_eq (tl_m162 D) (jx_mem [19, 51, 53, 75, 121, 145]) 105 _ _ _ _).trans rfl
set_option maxRecDepth 1000000 in
set_option maxHeartbeats 4000000 in
theorem e162_75 (D : jx_D) (x1 : Int32) (x2 : Int64) (x5 : Int32) (x6 : Int32) (h : jx_H) : F162_75 D x1 x2 x5 x6 h = (jx_if (jx_in x5 12) ((jx_if (jx_in x5 12) (F162_19 D x1 x2 x5 x6 (jx_sI h 50 0 x5.toNatClampNeg ((h.1 50 0 x5.toNatClampNeg) + (1 : Int32)))) none)) none) := (jx_it_eq (tl_m162 D) (jx_mem [19, 51, 53, 75, 121, 145]) 105 _ _ _ _).trans rfl
