noncomputable def F1_0 (D : jx_D) (x0 : Int32) (h : jx_H) : Option jx_R := jx_den (jx_look (tb_1 D)) (jx_nms mk_1) 0 [vi x0] [] h
noncomputable def F1_10 (D : jx_D) (x0 : Int32) (h : jx_H) : Option jx_R := jx_den (jx_look (tb_1 D)) (jx_nms mk_1) 10 [vi x0] [] h
noncomputable def F1_24 (D : jx_D) (x0 : Int32) (h : jx_H) : Option jx_R := jx_den (jx_look (tb_1 D)) (jx_nms mk_1) 24 [vi x0] [] h
noncomputable def F1_34 (D : jx_D) (x0 : Int32) (h : jx_H) : Option jx_R := jx_den (jx_look (tb_1 D)) (jx_nms mk_1) 34 [vi x0] [] h
noncomputable def F1_41 (D : jx_D) (x0 : Int32) (h : jx_H) : Option jx_R := jx_den (jx_look (tb_1 D)) (jx_nms mk_1) 41 [vi x0] [] h
noncomputable def F1_48 (D : jx_D) (x0 : Int32) (h : jx_H) : Option jx_R := jx_den (jx_look (tb_1 D)) (jx_nms mk_1) 48 [vi x0] [] h
set_option maxRecDepth 1000000 in
set_option maxHeartbeats 4000000 in
theorem e1_0 (D : jx_D) (x0 : Int32) (h : jx_H) : F1_0 D x0 h = F1_10 D (x0 - (((x0.toUInt32 >>> ((1 : Int32).toUInt32 &&& Int32.toUInt32 31)).toInt32) &&& (1431655765 : Int32))) h := (jx_it_eq (tl_m1 D) (jx_mem [10, 24, 34, 41, 48]) 45 _ _ _ _).trans rfl
set_option maxRecDepth 1000000 in
set_option maxHeartbeats 4000000 in
theorem e1_10 (D : jx_D) (x0 : Int32) (h : jx_H) : F1_10 D x0 h = F1_24 D ((x0 &&& (858993459 : Int32)) + (((x0.toUInt32 >>> ((2 : Int32).toUInt32 &&& Int32.toUInt32 31)).toInt32) &&& (858993459 : Int32))) h := (jx_it_eq (tl_m1 D) (jx_mem [10, 24, 34, 41, 48]) 45 _ _ _ _).trans rfl
set_option maxRecDepth 1000000 in
set_option maxHeartbeats 4000000 in
theorem e1_24 (D : jx_D) (x0 : Int32) (h : jx_H) : F1_24 D x0 h = F1_34 D ((x0 + ((x0.toUInt32 >>> ((4 : Int32).toUInt32 &&& Int32.toUInt32 31)).toInt32)) &&& (252645135 : Int32)) h := (jx_it_eq (tl_m1 D) (jx_mem [10, 24, 34, 41, 48]) 45 _ _ _ _).trans rfl
set_option maxRecDepth 1000000 in
set_option maxHeartbeats 4000000 in
theorem e1_34 (D : jx_D) (x0 : Int32) (h : jx_H) : F1_34 D x0 h = F1_41 D (x0 + ((x0.toUInt32 >>> ((8 : Int32).toUInt32 &&& Int32.toUInt32 31)).toInt32)) h := (jx_it_eq (tl_m1 D) (jx_mem [10, 24, 34, 41, 48]) 45 _ _ _ _).trans rfl
set_option maxRecDepth 1000000 in
set_option maxHeartbeats 4000000 in
theorem e1_41 (D : jx_D) (x0 : Int32) (h : jx_H) : F1_41 D x0 h = F1_48 D (x0 + ((x0.toUInt32 >>> ((16 : Int32).toUInt32 &&& Int32.toUInt32 31)).toInt32)) h := (jx_it_eq (tl_m1 D) (jx_mem [10, 24, 34, 41, 48]) 45 _ _ _ _).trans rfl
set_option maxRecDepth 1000000 in
set_option maxHeartbeats 4000000 in
theorem e1_48 (D : jx_D) (x0 : Int32) (h : jx_H) : F1_48 D x0 h = some ([vi (x0 &&& (63 : Int32))], h) := (jx_it_eq (tl_m1 D) (jx_mem [10, 24, 34, 41, 48]) 45 _ _ _ _).trans rfl
noncomputable def F3_0 (D : jx_D) (x1 : Int32) (h : jx_H) : Option jx_R := jx_den (jx_look (tb_3 D)) (jx_nms mk_3) 0 [vr 0 0, vi x1, vn] [] h
set_option maxRecDepth 1000000 in
set_option maxHeartbeats 4000000 in
theorem e3_0 (D : jx_D) (x1 : Int32) (h : jx_H) : F3_0 D x1 h = (jx_bV (D 4 [vr 6 0, vr 1 0] h) fun h1 => (jx_bV (D 6 [vr 1 0, vi x1] h1) fun h2 => some ([vi (h.1 1 0 0)], h2))) := (jx_it_eq (tl_m3 D) (jx_mem []) 18 _ _ _ _).trans rfl
noncomputable def F4_0 (D : jx_D) (h : jx_H) : Option jx_R := jx_den (jx_look (tb_4 D)) (jx_nms mk_4) 0 [vr 6 0, vr 1 0] [] h
set_option maxRecDepth 1000000 in
set_option maxHeartbeats 4000000 in
theorem e4_0 (D : jx_D) (h : jx_H) : F4_0 D h = (jx_if (jx_in (h.1 6 0 1) 30) ((jx_bV (D 5 [vr 1 (1 + (h.1 6 0 1).toNatClampNeg), vr 1 0] h) fun h1 => (jx_if ((30 : Int32) = 0) none (some ([], (jx_sI (jx_sI h1 6 0 1 (((h1.1 6 0 1) + (1 : Int32)) - ((h1.1 6 0 1) + (1 : Int32)) / (30 : Int32) * (30 : Int32))) 6 0 2 (jx_mn ((h1.1 6 0 2) + (1 : Int32)) (30 : Int32)))))))) none) := (jx_it_eq (tl_m4 D) (jx_mem []) 27 _ _ _ _).trans rfl
noncomputable def F5_0 (D : jx_D) (i0 : Nat) (i1 : Nat) (h : jx_H) : Option jx_R := jx_den (jx_look (tb_5 D)) (jx_nms mk_5) 0 [vr 1 i0, vr 1 i1] [] h
noncomputable def F5_8 (D : jx_D) (i0 : Nat) (i1 : Nat) (h : jx_H) : Option jx_R := jx_den (jx_look (tb_5 D)) (jx_nms mk_5) 8 [vr 1 i0, vr 1 i1] [] h
noncomputable def F5_16 (D : jx_D) (i0 : Nat) (i1 : Nat) (h : jx_H) : Option jx_R := jx_den (jx_look (tb_5 D)) (jx_nms mk_5) 16 [vr 1 i0, vr 1 i1] [] h
noncomputable def F5_24 (D : jx_D) (i0 : Nat) (i1 : Nat) (h : jx_H) : Option jx_R := jx_den (jx_look (tb_5 D)) (jx_nms mk_5) 24 [vr 1 i0, vr 1 i1] [] h
noncomputable def F5_41 (D : jx_D) (i0 : Nat) (i1 : Nat) (h : jx_H) : Option jx_R := jx_den (jx_look (tb_5 D)) (jx_nms mk_5) 41 [vr 1 i0, vr 1 i1] [] h
noncomputable def F5_58 (D : jx_D) (i0 : Nat) (i1 : Nat) (h : jx_H) : Option jx_R := jx_den (jx_look (tb_5 D)) (jx_nms mk_5) 58 [vr 1 i0, vr 1 i1] [] h
noncomputable def F5_75 (D : jx_D) (i0 : Nat) (i1 : Nat) (h : jx_H) : Option jx_R := jx_den (jx_look (tb_5 D)) (jx_nms mk_5) 75 [vr 1 i0, vr 1 i1] [] h
noncomputable def F5_92 (D : jx_D) (h : jx_H) : Option jx_R := jx_den (jx_look (tb_5 D)) (jx_nms mk_5) 92 [vn, vn] [] h
set_option maxRecDepth 1000000 in
set_option maxHeartbeats 4000000 in
theorem e5_0 (D : jx_D) (i0 : Nat) (i1 : Nat) (h : jx_H) : F5_0 D i0 i1 h = F5_8 D i0 i1 (jx_sI h 1 i0 0 (h.1 1 i1 0)) := (jx_it_eq (tl_m5 D) (jx_mem [8, 16, 24, 41, 58, 75, 92]) 52 _ _ _ _).trans rfl
set_option maxRecDepth 1000000 in
set_option maxHeartbeats 4000000 in
theorem e5_8 (D : jx_D) (i0 : Nat) (i1 : Nat) (h : jx_H) : F5_8 D i0 i1 h = F5_16 D i0 i1 (jx_sI h 1 i0 1 (h.1 1 i1 1)) := (jx_it_eq (tl_m5 D) (jx_mem [8, 16, 24, 41, 58, 75, 92]) 52 _ _ _ _).trans rfl
set_option maxRecDepth 1000000 in
set_option maxHeartbeats 4000000 in
theorem e5_16 (D : jx_D) (i0 : Nat) (i1 : Nat) (h : jx_H) : F5_16 D i0 i1 h = (jx_if ((h.1 1 i1 2) = 0 ∨ (h.1 1 i1 2) = 1) (F5_24 D i0 i1 (jx_sI h 1 i0 2 (h.1 1 i1 2))) none) := (jx_it_eq (tl_m5 D) (jx_mem [8, 16, 24, 41, 58, 75, 92]) 52 _ _ _ _).trans rfl
set_option maxRecDepth 1000000 in
set_option maxHeartbeats 4000000 in
theorem e5_24 (D : jx_D) (i0 : Nat) (i1 : Nat) (h : jx_H) : F5_24 D i0 i1 h = (jx_if (0 ≤ (0 : Int32) ∧ 0 ≤ (0 : Int32) ∧ 0 ≤ (h.1 1 i0 1) ∧ (0 : Int32).toNatClampNeg + (h.1 1 i0 1).toNatClampNeg ≤ 20 ∧ (0 : Int32).toNatClampNeg + (h.1 1 i0 1).toNatClampNeg ≤ 20) (F5_41 D i0 i1 (jx_cp h 2 i1 2 i0 ((0 : Int32).toNatClampNeg) ((0 : Int32).toNatClampNeg) ((h.1 1 i0 1).toNatClampNeg))) none) := (jx_it_eq (tl_m5 D) (jx_mem [8, 16, 24, 41, 58, 75, 92]) 52 _ _ _ _).trans rfl
set_option maxRecDepth 1000000 in
set_option maxHeartbeats 4000000 in
theorem e5_41 (D : jx_D) (i0 : Nat) (i1 : Nat) (h : jx_H) : F5_41 D i0 i1 h = (jx_if (0 ≤ (0 : Int32) ∧ 0 ≤ (0 : Int32) ∧ 0 ≤ (h.1 1 i0 1) ∧ (0 : Int32).toNatClampNeg + (h.1 1 i0 1).toNatClampNeg ≤ 20 ∧ (0 : Int32).toNatClampNeg + (h.1 1 i0 1).toNatClampNeg ≤ 20) (F5_58 D i0 i1 (jx_cp h 3 i1 3 i0 ((0 : Int32).toNatClampNeg) ((0 : Int32).toNatClampNeg) ((h.1 1 i0 1).toNatClampNeg))) none) := (jx_it_eq (tl_m5 D) (jx_mem [8, 16, 24, 41, 58, 75, 92]) 52 _ _ _ _).trans rfl
set_option maxRecDepth 1000000 in
set_option maxHeartbeats 4000000 in
theorem e5_58 (D : jx_D) (i0 : Nat) (i1 : Nat) (h : jx_H) : F5_58 D i0 i1 h = (jx_if (0 ≤ (0 : Int32) ∧ 0 ≤ (0 : Int32) ∧ 0 ≤ (h.1 1 i0 1) ∧ (0 : Int32).toNatClampNeg + (h.1 1 i0 1).toNatClampNeg ≤ 20 ∧ (0 : Int32).toNatClampNeg + (h.1 1 i0 1).toNatClampNeg ≤ 20) (F5_75 D i0 i1 (jx_cp h 4 i1 4 i0 ((0 : Int32).toNatClampNeg) ((0 : Int32).toNatClampNeg) ((h.1 1 i0 1).toNatClampNeg))) none) := (jx_it_eq (tl_m5 D) (jx_mem [8, 16, 24, 41, 58, 75, 92]) 52 _ _ _ _).trans rfl
set_option maxRecDepth 1000000 in
set_option maxHeartbeats 4000000 in
theorem e5_75 (D : jx_D) (i0 : Nat) (i1 : Nat) (h : jx_H) : F5_75 D i0 i1 h = (jx_if (0 ≤ (0 : Int32) ∧ 0 ≤ (0 : Int32) ∧ 0 ≤ (h.1 1 i0 1) ∧ (0 : Int32).toNatClampNeg + (h.1 1 i0 1).toNatClampNeg ≤ 20 ∧ (0 : Int32).toNatClampNeg + (h.1 1 i0 1).toNatClampNeg ≤ 20) (F5_92 D (jx_cp h 5 i1 5 i0 ((0 : Int32).toNatClampNeg) ((0 : Int32).toNatClampNeg) ((h.1 1 i0 1).toNatClampNeg))) none) := (jx_it_eq (tl_m5 D) (jx_mem [8, 16, 24, 41, 58, 75, 92]) 52 _ _ _ _).trans rfl
set_option maxRecDepth 1000000 in
set_option maxHeartbeats 4000000 in
theorem e5_92 (D : jx_D) (h : jx_H) : F5_92 D h = some ([], h) := (jx_it_eq (tl_m5 D) (jx_mem [8, 16, 24, 41, 58, 75, 92]) 52 _ _ _ _).trans rfl
noncomputable def F6_0 (D : jx_D) (i0 : Nat) (x1 : Int32) (h : jx_H) : Option jx_R := jx_den (jx_look (tb_6 D)) (jx_nms mk_6) 0 [vr 1 i0, vi x1] [] h
set_option maxRecDepth 1000000 in
set_option maxHeartbeats 4000000 in
theorem e6_0 (D : jx_D) (i0 : Nat) (x1 : Int32) (h : jx_H) : F6_0 D i0 x1 h = (jx_if (x1 = 0 ∨ x1 = 1) (some ([], (jx_sI (jx_sI (jx_sI h 1 i0 0 (0 : Int32)) 1 i0 1 (0 : Int32)) 1 i0 2 x1))) none) := (jx_it_eq (tl_m6 D) (jx_mem []) 13 _ _ _ _).trans rfl
noncomputable def F7_0 (D : jx_D) (h : jx_H) : Option jx_R := jx_den (jx_look (tb_7 D)) (jx_nms mk_7) 0 [vr 0 0] [] h
set_option maxRecDepth 1000000 in
set_option maxHeartbeats 4000000 in
theorem e7_0 (D : jx_D) (h : jx_H) : F7_0 D h = (jx_if ((h.1 1 0 0) < (8 : Int32)) ((jx_bV (D 4 [vr 6 0, vr 1 0] h) fun h1 => (jx_bI (D 9 [vr 1 0] h1) fun y2 h2 => some ([vi y2], h2)))) ((jx_bI (D 8 [vr 0 0, vi ((-5) : Int32)] h) fun y3 h3 => some ([vi y3], h3)))) := (jx_it_eq (tl_m7 D) (jx_mem []) 21 _ _ _ _).trans rfl
noncomputable def F8_0 (D : jx_D) (x1 : Int32) (h : jx_H) : Option jx_R := jx_den (jx_look (tb_8 D)) (jx_nms mk_8) 0 [vr 0 0, vi x1] [] h
set_option maxRecDepth 1000000 in
set_option maxHeartbeats 4000000 in
theorem e8_0 (D : jx_D) (x1 : Int32) (h : jx_H) : F8_0 D x1 h = some ([vi x1], (jx_sI h 0 0 7 ((h.1 0 0 7) + (1 : Int32)))) := (jx_it_eq (tl_m8 D) (jx_mem []) 11 _ _ _ _).trans rfl
noncomputable def F9_0 (D : jx_D) (i0 : Nat) (h : jx_H) : Option jx_R := jx_den (jx_look (tb_9 D)) (jx_nms mk_9) 0 [vr 1 i0] [] h
set_option maxRecDepth 1000000 in
set_option maxHeartbeats 4000000 in
theorem e9_0 (D : jx_D) (i0 : Nat) (h : jx_H) : F9_0 D i0 h = some ([vi (((jx_sI h 1 i0 0 ((h.1 1 i0 0) + (1 : Int32))).1 1 i0 0) - (1 : Int32))], (jx_sI h 1 i0 0 ((h.1 1 i0 0) + (1 : Int32)))) := (jx_it_eq (tl_m9 D) (jx_mem []) 14 _ _ _ _).trans rfl
noncomputable def F10_0 (D : jx_D) (x1 : Int32) (x2 : Int32) (h : jx_H) : Option jx_R := jx_den (jx_look (tb_10 D)) (jx_nms mk_10) 0 [vr 0 0, vi x1, vi x2, vn] [] h
noncomputable def F10_26 (D : jx_D) (x1 : Int32) (x2 : Int32) (x3 : Int32) (h : jx_H) : Option jx_R := jx_den (jx_look (tb_10 D)) (jx_nms mk_10) 26 [vr 0 0, vi x1, vi x2, vi x3] [] h
set_option maxRecDepth 1000000 in
set_option maxHeartbeats 4000000 in
theorem e10_0 (D : jx_D) (x1 : Int32) (x2 : Int32) (h : jx_H) : F10_0 D x1 x2 h = (jx_bI (D 11 [vr 0 0, vi x1, vi x2] h) fun y1 h1 => (jx_if (y1 = 0) ((jx_if ((h1.1 1 0 1) < (20 : Int32)) (F10_26 D x1 x2 y1 h1) (F10_26 D x1 x2 ((-5) : Int32) h1))) (F10_26 D x1 x2 y1 h1))) := (jx_it_eq (tl_m10 D) (jx_mem [26]) 34 _ _ _ _).trans rfl
set_option maxRecDepth 1000000 in
set_option maxHeartbeats 4000000 in
theorem e10_26 (D : jx_D) (x1 : Int32) (x2 : Int32) (x3 : Int32) (h : jx_H) : F10_26 D x1 x2 x3 h = (jx_if (x3 = 0) ((jx_bV (D 4 [vr 6 0, vr 1 0] h) fun h1 => (jx_bI (D 13 [vr 1 0, vi x1, vi x2] h1) fun y2 h2 => some ([vi y2], h2)))) ((jx_bI (D 8 [vr 0 0, vi x3] h) fun y3 h3 => some ([vi y3], h3)))) := (jx_it_eq (tl_m10 D) (jx_mem [26]) 34 _ _ _ _).trans rfl
noncomputable def F11_0 (D : jx_D) (x1 : Int32) (x2 : Int32) (h : jx_H) : Option jx_R := jx_den (jx_look (tb_11 D)) (jx_nms mk_11) 0 [vr 0 0, vi x1, vi x2] [] h
noncomputable def F11_29 (D : jx_D) (s0 : Int32) (h : jx_H) : Option jx_R := jx_den (jx_look (tb_11 D)) (jx_nms mk_11) 29 [vn, vn, vn] [vi s0] h
noncomputable def F11_16 (D : jx_D) (h : jx_H) : Option jx_R := jx_den (jx_look (tb_11 D)) (jx_nms mk_11) 16 [vn, vn, vn] [] h
set_option maxRecDepth 1000000 in
set_option maxHeartbeats 4000000 in
theorem e11_0 (D : jx_D) (x1 : Int32) (x2 : Int32) (h : jx_H) : F11_0 D x1 x2 h = (jx_bI (D 12 [vr 0 0, vi x1] h) fun y1 h1 => (jx_if (y1 = 0) ((jx_bI (D 12 [vr 0 0, vi x2] h1) fun y2 h2 => (jx_if (y2 = 0) ((jx_if (x1 = x2) (F11_29 D ((-3) : Int32) h2) (F11_29 D (0 : Int32) h2))) (F11_16 D h2)))) (F11_16 D h1))) := (jx_it_eq (tl_m11 D) (jx_mem [16, 29]) 20 _ _ _ _).trans rfl
set_option maxRecDepth 1000000 in
set_option maxHeartbeats 4000000 in
theorem e11_29 (D : jx_D) (s0 : Int32) (h : jx_H) : F11_29 D s0 h = some ([vi s0], h) := (jx_it_eq (tl_m11 D) (jx_mem [16, 29]) 20 _ _ _ _).trans rfl
set_option maxRecDepth 1000000 in
set_option maxHeartbeats 4000000 in
theorem e11_16 (D : jx_D) (h : jx_H) : F11_16 D h = some ([vi ((-1) : Int32)], h) := (jx_it_eq (tl_m11 D) (jx_mem [16, 29]) 20 _ _ _ _).trans rfl
noncomputable def F12_0 (D : jx_D) (x1 : Int32) (h : jx_H) : Option jx_R := jx_den (jx_look (tb_12 D)) (jx_nms mk_12) 0 [vr 0 0, vi x1] [] h
noncomputable def F12_15 (D : jx_D) (h : jx_H) : Option jx_R := jx_den (jx_look (tb_12 D)) (jx_nms mk_12) 15 [vn, vn] [] h
noncomputable def F12_20 (D : jx_D) (s0 : Int32) (h : jx_H) : Option jx_R := jx_den (jx_look (tb_12 D)) (jx_nms mk_12) 20 [vn, vn] [vi s0] h
set_option maxRecDepth 1000000 in
set_option maxHeartbeats 4000000 in
theorem e12_0 (D : jx_D) (x1 : Int32) (h : jx_H) : F12_0 D x1 h = (jx_if (x1 < 0) (F12_15 D h) ((jx_if (x1 < (h.1 1 0 0)) (F12_20 D (0 : Int32) h) (F12_15 D h)))) := (jx_it_eq (tl_m12 D) (jx_mem [15, 20]) 14 _ _ _ _).trans rfl
set_option maxRecDepth 1000000 in
set_option maxHeartbeats 4000000 in
theorem e12_15 (D : jx_D) (h : jx_H) : F12_15 D h = F12_20 D (1 : Int32) h := (jx_it_eq (tl_m12 D) (jx_mem [15, 20]) 14 _ _ _ _).trans rfl
set_option maxRecDepth 1000000 in
set_option maxHeartbeats 4000000 in
theorem e12_20 (D : jx_D) (s0 : Int32) (h : jx_H) : F12_20 D s0 h = (jx_if (s0 = 0 ∨ s0 = 1) (some ([vi s0], h)) none) := (jx_it_eq (tl_m12 D) (jx_mem [15, 20]) 14 _ _ _ _).trans rfl
noncomputable def F13_0 (D : jx_D) (i0 : Nat) (x1 : Int32) (x2 : Int32) (h : jx_H) : Option jx_R := jx_den (jx_look (tb_13 D)) (jx_nms mk_13) 0 [vr 1 i0, vi x1, vi x2, vn] [] h
set_option maxRecDepth 1000000 in
set_option maxHeartbeats 4000000 in
theorem e13_0 (D : jx_D) (i0 : Nat) (x1 : Int32) (x2 : Int32) (h : jx_H) : F13_0 D i0 x1 x2 h = (jx_if (jx_in (h.1 1 i0 1) 20) ((jx_if (jx_in (h.1 1 i0 1) 20) ((jx_if (jx_in (h.1 1 i0 1) 20) ((jx_if (jx_in (h.1 1 i0 1) 20) (some ([vi (h.1 1 i0 1)], (jx_sI (jx_sI (jx_sI (jx_sI (jx_sI h 2 i0 ((h.1 1 i0 1).toNatClampNeg) x1) 3 i0 ((h.1 1 i0 1).toNatClampNeg) x2) 4 i0 ((h.1 1 i0 1).toNatClampNeg) (1 : Int32)) 5 i0 ((h.1 1 i0 1).toNatClampNeg) (4 : Int32)) 1 i0 1 ((h.1 1 i0 1) + (1 : Int32))))) none)) none)) none)) none) := (jx_it_eq (tl_m13 D) (jx_mem []) 34 _ _ _ _).trans rfl
noncomputable def F14_0 (D : jx_D) (x1 : Int32) (x2 : Int32) (x3 : Int32) (h : jx_H) : Option jx_R := jx_den (jx_look (tb_14 D)) (jx_nms mk_14) 0 [vr 0 0, vi x1, vi x2, vi x3, vn, vn] [] h
noncomputable def F14_28 (D : jx_D) (h : jx_H) : Option jx_R := jx_den (jx_look (tb_14 D)) (jx_nms mk_14) 28 [vr 0 0, vn, vn, vn, vn, vn] [] h
noncomputable def F14_25 (D : jx_D) (x1 : Int32) (x2 : Int32) (x3 : Int32) (s0 : Int32) (s1 : Int32) (h : jx_H) : Option jx_R := jx_den (jx_look (tb_14 D)) (jx_nms mk_14) 25 [vr 0 0, vi x1, vi x2, vi x3, vn, vn] [vi s0, vi s1] h
set_option maxRecDepth 1000000 in
set_option maxHeartbeats 4000000 in
theorem e14_0 (D : jx_D) (x1 : Int32) (x2 : Int32) (x3 : Int32) (h : jx_H) : F14_0 D x1 x2 x3 h = (jx_bI (D 15 [vr 0 0, vi x1] h) fun y1 h1 => (jx_if (y1 = 0) ((jx_if (x3 < 0) (F14_28 D h1) ((jx_if (x2 = 0) (F14_25 D x1 x2 x3 (1000 : Int32) x3 h1) (F14_25 D x1 x2 x3 (8 : Int32) x3 h1))))) (F14_28 D h1))) := (jx_it_eq (tl_m14 D) (jx_mem [25, 28]) 45 _ _ _ _).trans rfl
set_option maxRecDepth 1000000 in
set_option maxHeartbeats 4000000 in
theorem e14_28 (D : jx_D) (h : jx_H) : F14_28 D h = (jx_bI (D 8 [vr 0 0, vi ((-1) : Int32)] h) fun y1 h1 => some ([vi y1], h1)) := (jx_it_eq (tl_m14 D) (jx_mem [25, 28]) 45 _ _ _ _).trans rfl
set_option maxRecDepth 1000000 in
set_option maxHeartbeats 4000000 in
theorem e14_25 (D : jx_D) (x1 : Int32) (x2 : Int32) (x3 : Int32) (s0 : Int32) (s1 : Int32) (h : jx_H) : F14_25 D x1 x2 x3 s0 s1 h = (jx_if (s1 ≤ s0) ((jx_bV (D 4 [vr 6 0, vr 1 0] h) fun h1 => (jx_if (x2 = 0) ((jx_if (jx_in x1 20) ((jx_if (jx_in x1 20) (some ([vi (h1.1 4 0 x1.toNatClampNeg)], (jx_sI h1 4 0 x1.toNatClampNeg x3))) none)) none)) ((jx_if (jx_in x1 20) ((jx_if (jx_in x1 20) (some ([vi (h1.1 5 0 x1.toNatClampNeg)], (jx_sI h1 5 0 x1.toNatClampNeg x3))) none)) none))))) (F14_28 D h)) := (jx_it_eq (tl_m14 D) (jx_mem [25, 28]) 45 _ _ _ _).trans rfl
noncomputable def F15_0 (D : jx_D) (x1 : Int32) (h : jx_H) : Option jx_R := jx_den (jx_look (tb_15 D)) (jx_nms mk_15) 0 [vr 0 0, vi x1] [] h
noncomputable def F15_15 (D : jx_D) (h : jx_H) : Option jx_R := jx_den (jx_look (tb_15 D)) (jx_nms mk_15) 15 [vn, vn] [] h
noncomputable def F15_20 (D : jx_D) (s0 : Int32) (h : jx_H) : Option jx_R := jx_den (jx_look (tb_15 D)) (jx_nms mk_15) 20 [vn, vn] [vi s0] h
set_option maxRecDepth 1000000 in
set_option maxHeartbeats 4000000 in
theorem e15_0 (D : jx_D) (x1 : Int32) (h : jx_H) : F15_0 D x1 h = (jx_if (x1 < 0) (F15_15 D h) ((jx_if (x1 < (h.1 1 0 1)) (F15_20 D (0 : Int32) h) (F15_15 D h)))) := (jx_it_eq (tl_m15 D) (jx_mem [15, 20]) 14 _ _ _ _).trans rfl
set_option maxRecDepth 1000000 in
set_option maxHeartbeats 4000000 in
theorem e15_15 (D : jx_D) (h : jx_H) : F15_15 D h = F15_20 D (1 : Int32) h := (jx_it_eq (tl_m15 D) (jx_mem [15, 20]) 14 _ _ _ _).trans rfl
set_option maxRecDepth 1000000 in
set_option maxHeartbeats 4000000 in
theorem e15_20 (D : jx_D) (s0 : Int32) (h : jx_H) : F15_20 D s0 h = (jx_if (s0 = 0 ∨ s0 = 1) (some ([vi s0], h)) none) := (jx_it_eq (tl_m15 D) (jx_mem [15, 20]) 14 _ _ _ _).trans rfl
noncomputable def F16_0 (D : jx_D) (x1 : Int32) (h : jx_H) : Option jx_R := jx_den (jx_look (tb_16 D)) (jx_nms mk_16) 0 [vr 0 0, vi x1] [] h
set_option maxRecDepth 1000000 in
set_option maxHeartbeats 4000000 in
theorem e16_0 (D : jx_D) (x1 : Int32) (h : jx_H) : F16_0 D x1 h = (jx_bI (D 15 [vr 0 0, vi x1] h) fun y1 h1 => (jx_if (y1 = 0) ((jx_bV (D 4 [vr 6 0, vr 1 0] h1) fun h2 => (jx_bI (D 17 [vi (h2.1 1 0 1)] h2) fun y3 h3 => (jx_bV (D 18 [vr 1 0, vi (y3 &&& (((1 : Int32) <<< (x1 &&& 31)) ^^^ ((-1) : Int32)))] h3) fun h4 => some ([vi (h4.1 1 0 1)], h4))))) ((jx_bI (D 8 [vr 0 0, vi ((-1) : Int32)] h1) fun y5 h5 => some ([vi y5], h5))))) := (jx_it_eq (tl_m16 D) (jx_mem []) 33 _ _ _ _).trans rfl
noncomputable def F17_0 (D : jx_D) (x0 : Int32) (h : jx_H) : Option jx_R := jx_den (jx_look (tb_17 D)) (jx_nms mk_17) 0 [vi x0] [] h
set_option maxRecDepth 1000000 in
set_option maxHeartbeats 4000000 in
theorem e17_0 (D : jx_D) (x0 : Int32) (h : jx_H) : F17_0 D x0 h = some ([vi (((1 : Int32) <<< (x0 &&& 31)) - (1 : Int32))], h) := (jx_it_eq (tl_m17 D) (jx_mem []) 9 _ _ _ _).trans rfl
noncomputable def F18_0 (D : jx_D) (i0 : Nat) (x1 : Int32) (h : jx_H) : Option jx_R := jx_den (jx_look (tb_18 D)) (jx_nms mk_18) 0 [vr 1 i0, vi x1, vn, vn] [] h
noncomputable def F18_10 (D : jx_D) (i0 : Nat) (x1 : Int32) (x2 : Int32) (h : jx_H) : Option jx_R := jx_den (jx_look (tb_18 D)) (jx_nms mk_18) 10 [vr 1 i0, vi x1, vi x2, vn] [] h
noncomputable def F18_12 (D : jx_D) (i0 : Nat) (x1 : Int32) (x2 : Int32) (x3 : Int32) (h : jx_H) : Option jx_R := jx_den (jx_look (tb_18 D)) (jx_nms mk_18) 12 [vr 1 i0, vi x1, vi x2, vi x3] [] h
noncomputable def F18_95 (D : jx_D) (i0 : Nat) (x1 : Int32) (x2 : Int32) (x3 : Int32) (h : jx_H) : Option jx_R := jx_den (jx_look (tb_18 D)) (jx_nms mk_18) 95 [vr 1 i0, vi x1, vi x2, vi x3] [] h
noncomputable def F18_40 (D : jx_D) (i0 : Nat) (x1 : Int32) (x2 : Int32) (x3 : Int32) (h : jx_H) : Option jx_R := jx_den (jx_look (tb_18 D)) (jx_nms mk_18) 40 [vr 1 i0, vi x1, vi x2, vi x3] [] h
noncomputable def F18_55 (D : jx_D) (i0 : Nat) (x1 : Int32) (x2 : Int32) (x3 : Int32) (h : jx_H) : Option jx_R := jx_den (jx_look (tb_18 D)) (jx_nms mk_18) 55 [vr 1 i0, vi x1, vi x2, vi x3] [] h
noncomputable def F18_70 (D : jx_D) (i0 : Nat) (x1 : Int32) (x2 : Int32) (x3 : Int32) (h : jx_H) : Option jx_R := jx_den (jx_look (tb_18 D)) (jx_nms mk_18) 70 [vr 1 i0, vi x1, vi x2, vi x3] [] h
noncomputable def F18_85 (D : jx_D) (i0 : Nat) (x1 : Int32) (x2 : Int32) (x3 : Int32) (h : jx_H) : Option jx_R := jx_den (jx_look (tb_18 D)) (jx_nms mk_18) 85 [vr 1 i0, vi x1, vi x2, vi x3] [] h
set_option maxRecDepth 1000000 in
set_option maxHeartbeats 4000000 in
theorem e18_0 (D : jx_D) (i0 : Nat) (x1 : Int32) (h : jx_H) : F18_0 D i0 x1 h = F18_10 D i0 x1 (h.1 1 i0 1) (jx_sI h 1 i0 1 (0 : Int32)) := (jx_it_eq (tl_m18 D) (jx_mem [10, 12, 40, 55, 70, 85, 95]) 63 _ _ _ _).trans rfl
set_option maxRecDepth 1000000 in
set_option maxHeartbeats 4000000 in
theorem e18_10 (D : jx_D) (i0 : Nat) (x1 : Int32) (x2 : Int32) (h : jx_H) : F18_10 D i0 x1 x2 h = F18_12 D i0 x1 x2 (0 : Int32) h := (jx_it_eq (tl_m18 D) (jx_mem [10, 12, 40, 55, 70, 85, 95]) 63 _ _ _ _).trans rfl
set_option maxRecDepth 1000000 in
set_option maxHeartbeats 4000000 in
theorem e18_12 (D : jx_D) (i0 : Nat) (x1 : Int32) (x2 : Int32) (x3 : Int32) (h : jx_H) : F18_12 D i0 x1 x2 x3 h = (jx_if (x3 < x2) ((jx_bI (D 19 [vi x1, vi x3] h) fun y1 h1 => (jx_if (y1 = 0) (F18_95 D i0 x1 x2 x3 h1) ((jx_if (jx_in x3 20) ((jx_if (jx_in (h1.1 1 i0 1) 20) (F18_40 D i0 x1 x2 x3 (jx_sI h1 2 i0 ((h1.1 1 i0 1).toNatClampNeg) (h1.1 2 i0 x3.toNatClampNeg))) none)) none))))) (some ([], h))) := (jx_it_eq (tl_m18 D) (jx_mem [10, 12, 40, 55, 70, 85, 95]) 63 _ _ _ _).trans rfl
set_option maxRecDepth 1000000 in
set_option maxHeartbeats 4000000 in
theorem e18_95 (D : jx_D) (i0 : Nat) (x1 : Int32) (x2 : Int32) (x3 : Int32) (h : jx_H) : F18_95 D i0 x1 x2 x3 h = F18_12 D i0 x1 x2 (x3 + 1) h := (jx_it_eq (tl_m18 D) (jx_mem [10, 12, 40, 55, 70, 85, 95]) 63 _ _ _ _).trans rfl
set_option maxRecDepth 1000000 in
set_option maxHeartbeats 4000000 in
theorem e18_40 (D : jx_D) (i0 : Nat) (x1 : Int32) (x2 : Int32) (x3 : Int32) (h : jx_H) : F18_40 D i0 x1 x2 x3 h = (jx_if (jx_in x3 20) ((jx_if (jx_in (h.1 1 i0 1) 20) (F18_55 D i0 x1 x2 x3 (jx_sI h 3 i0 ((h.1 1 i0 1).toNatClampNeg) (h.1 3 i0 x3.toNatClampNeg))) none)) none) := (jx_it_eq (tl_m18 D) (jx_mem [10, 12, 40, 55, 70, 85, 95]) 63 _ _ _ _).trans rfl
set_option maxRecDepth 1000000 in
set_option maxHeartbeats 4000000 in
theorem e18_55 (D : jx_D) (i0 : Nat) (x1 : Int32) (x2 : Int32) (x3 : Int32) (h : jx_H) : F18_55 D i0 x1 x2 x3 h = (jx_if (jx_in x3 20) ((jx_if (jx_in (h.1 1 i0 1) 20) (F18_70 D i0 x1 x2 x3 (jx_sI h 4 i0 ((h.1 1 i0 1).toNatClampNeg) (h.1 4 i0 x3.toNatClampNeg))) none)) none) := (jx_it_eq (tl_m18 D) (jx_mem [10, 12, 40, 55, 70, 85, 95]) 63 _ _ _ _).trans rfl
set_option maxRecDepth 1000000 in
set_option maxHeartbeats 4000000 in
theorem e18_70 (D : jx_D) (i0 : Nat) (x1 : Int32) (x2 : Int32) (x3 : Int32) (h : jx_H) : F18_70 D i0 x1 x2 x3 h = (jx_if (jx_in x3 20) ((jx_if (jx_in (h.1 1 i0 1) 20) (F18_85 D i0 x1 x2 x3 (jx_sI h 5 i0 ((h.1 1 i0 1).toNatClampNeg) (h.1 5 i0 x3.toNatClampNeg))) none)) none) := (jx_it_eq (tl_m18 D) (jx_mem [10, 12, 40, 55, 70, 85, 95]) 63 _ _ _ _).trans rfl
set_option maxRecDepth 1000000 in
set_option maxHeartbeats 4000000 in
theorem e18_85 (D : jx_D) (i0 : Nat) (x1 : Int32) (x2 : Int32) (x3 : Int32) (h : jx_H) : F18_85 D i0 x1 x2 x3 h = F18_95 D i0 x1 x2 x3 (jx_sI h 1 i0 1 ((h.1 1 i0 1) + (1 : Int32))) := (jx_it_eq (tl_m18 D) (jx_mem [10, 12, 40, 55, 70, 85, 95]) 63 _ _ _ _).trans rfl
noncomputable def F19_0 (D : jx_D) (x0 : Int32) (x1 : Int32) (h : jx_H) : Option jx_R := jx_den (jx_look (tb_19 D)) (jx_nms mk_19) 0 [vi x0, vi x1] [] h
noncomputable def F19_13 (D : jx_D) (s0 : Int32) (h : jx_H) : Option jx_R := jx_den (jx_look (tb_19 D)) (jx_nms mk_19) 13 [vn, vn] [vi s0] h
set_option maxRecDepth 1000000 in
set_option maxHeartbeats 4000000 in
theorem e19_0 (D : jx_D) (x0 : Int32) (x1 : Int32) (h : jx_H) : F19_0 D x0 x1 h = (jx_if (((x0 >>> (x1 &&& 31)) &&& (1 : Int32)) = 0) (F19_13 D (0 : Int32) h) (F19_13 D (1 : Int32) h)) := (jx_it_eq (tl_m19 D) (jx_mem [13]) 13 _ _ _ _).trans rfl
set_option maxRecDepth 1000000 in
set_option maxHeartbeats 4000000 in
theorem e19_13 (D : jx_D) (s0 : Int32) (h : jx_H) : F19_13 D s0 h = (jx_if (s0 = 0 ∨ s0 = 1) (some ([vi s0], h)) none) := (jx_it_eq (tl_m19 D) (jx_mem [13]) 13 _ _ _ _).trans rfl
noncomputable def F20_0 (D : jx_D) (x1 : Int32) (x2 : Int32) (h : jx_H) : Option jx_R := jx_den (jx_look (tb_20 D)) (jx_nms mk_20) 0 [vr 0 0, vi x1, vi x2] [] h
noncomputable def F20_16 (D : jx_D) (h : jx_H) : Option jx_R := jx_den (jx_look (tb_20 D)) (jx_nms mk_20) 16 [vr 0 0, vn, vn] [] h
set_option maxRecDepth 1000000 in
set_option maxHeartbeats 4000000 in
theorem e20_0 (D : jx_D) (x1 : Int32) (x2 : Int32) (h : jx_H) : F20_0 D x1 x2 h = (jx_bI (D 12 [vr 0 0, vi x1] h) fun y1 h1 => (jx_if (y1 = 0) ((jx_bI (D 12 [vr 0 0, vi x2] h1) fun y2 h2 => (jx_if (y2 = 0) ((jx_if (x1 < x2) ((jx_bV (D 4 [vr 6 0, vr 1 0] h2) fun h3 => (jx_bV (D 21 [vr 1 0, vi x1, vi x2] h3) fun h4 => some ([vi (h4.1 1 0 0)], h4)))) ((jx_bI (D 8 [vr 0 0, vi ((-3) : Int32)] h2) fun y5 h5 => some ([vi y5], h5))))) (F20_16 D h2)))) (F20_16 D h1))) := (jx_it_eq (tl_m20 D) (jx_mem [16]) 36 _ _ _ _).trans rfl
set_option maxRecDepth 1000000 in
set_option maxHeartbeats 4000000 in
theorem e20_16 (D : jx_D) (h : jx_H) : F20_16 D h = (jx_bI (D 8 [vr 0 0, vi ((-1) : Int32)] h) fun y1 h1 => some ([vi y1], h1)) := (jx_it_eq (tl_m20 D) (jx_mem [16]) 36 _ _ _ _).trans rfl
noncomputable def F21_0 (D : jx_D) (i0 : Nat) (x1 : Int32) (x2 : Int32) (h : jx_H) : Option jx_R := jx_den (jx_look (tb_21 D)) (jx_nms mk_21) 0 [vr 1 i0, vi x1, vi x2, vn, vn] [] h
noncomputable def F21_5 (D : jx_D) (i0 : Nat) (x1 : Int32) (x2 : Int32) (x3 : Int32) (x4 : Int32) (h : jx_H) : Option jx_R := jx_den (jx_look (tb_21 D)) (jx_nms mk_21) 5 [vr 1 i0, vi x1, vi x2, vi x3, vi x4] [] h
noncomputable def F21_33 (D : jx_D) (i0 : Nat) (x1 : Int32) (x2 : Int32) (x3 : Int32) (x4 : Int32) (h : jx_H) : Option jx_R := jx_den (jx_look (tb_21 D)) (jx_nms mk_21) 33 [vr 1 i0, vi x1, vi x2, vi x3, vi x4] [] h
noncomputable def F21_97 (D : jx_D) (h : jx_H) : Option jx_R := jx_den (jx_look (tb_21 D)) (jx_nms mk_21) 97 [vn, vn, vn, vn, vn] [] h
noncomputable def F21_52 (D : jx_D) (i0 : Nat) (x1 : Int32) (x2 : Int32) (x3 : Int32) (x4 : Int32) (h : jx_H) : Option jx_R := jx_den (jx_look (tb_21 D)) (jx_nms mk_21) 52 [vr 1 i0, vi x1, vi x2, vi x3, vi x4] [] h
noncomputable def F21_76 (D : jx_D) (i0 : Nat) (x1 : Int32) (x2 : Int32) (x3 : Int32) (x4 : Int32) (h : jx_H) : Option jx_R := jx_den (jx_look (tb_21 D)) (jx_nms mk_21) 76 [vr 1 i0, vi x1, vi x2, vi x3, vi x4] [] h
set_option maxRecDepth 1000000 in
set_option maxHeartbeats 4000000 in
theorem e21_0 (D : jx_D) (i0 : Nat) (x1 : Int32) (x2 : Int32) (h : jx_H) : F21_0 D i0 x1 x2 h = F21_5 D i0 x1 x2 (0 : Int32) (0 : Int32) h := (jx_it_eq (tl_m21 D) (jx_mem [5, 33, 52, 76, 97]) 60 _ _ _ _).trans rfl
set_option maxRecDepth 1000000 in
set_option maxHeartbeats 4000000 in
theorem e21_5 (D : jx_D) (i0 : Nat) (x1 : Int32) (x2 : Int32) (x3 : Int32) (x4 : Int32) (h : jx_H) : F21_5 D i0 x1 x2 x3 x4 h = (jx_if (x4 < (h.1 1 i0 1)) ((jx_if (jx_in x4 20) ((jx_bI (D 22 [vi (h.1 2 i0 x4.toNatClampNeg), vi x1, vi x2] h) fun y1 h1 => (jx_if (jx_in x4 20) (F21_33 D i0 x1 x2 x3 x4 (jx_sI h1 2 i0 x4.toNatClampNeg y1)) none))) none)) ((jx_bV (D 18 [vr 1 i0, vi x3] h) fun h2 => F21_97 D (jx_sI h2 1 i0 0 ((h2.1 1 i0 0) - (1 : Int32)))))) := (jx_it_eq (tl_m21 D) (jx_mem [5, 33, 52, 76, 97]) 60 _ _ _ _).trans rfl
set_option maxRecDepth 1000000 in
set_option maxHeartbeats 4000000 in
theorem e21_33 (D : jx_D) (i0 : Nat) (x1 : Int32) (x2 : Int32) (x3 : Int32) (x4 : Int32) (h : jx_H) : F21_33 D i0 x1 x2 x3 x4 h = (jx_if (jx_in x4 20) ((jx_bI (D 22 [vi (h.1 3 i0 x4.toNatClampNeg), vi x1, vi x2] h) fun y1 h1 => (jx_if (jx_in x4 20) (F21_52 D i0 x1 x2 x3 x4 (jx_sI h1 3 i0 x4.toNatClampNeg y1)) none))) none) := (jx_it_eq (tl_m21 D) (jx_mem [5, 33, 52, 76, 97]) 60 _ _ _ _).trans rfl
set_option maxRecDepth 1000000 in
set_option maxHeartbeats 4000000 in
theorem e21_97 (D : jx_D) (h : jx_H) : F21_97 D h = some ([], h) := (jx_it_eq (tl_m21 D) (jx_mem [5, 33, 52, 76, 97]) 60 _ _ _ _).trans rfl
set_option maxRecDepth 1000000 in
set_option maxHeartbeats 4000000 in
theorem e21_52 (D : jx_D) (i0 : Nat) (x1 : Int32) (x2 : Int32) (x3 : Int32) (x4 : Int32) (h : jx_H) : F21_52 D i0 x1 x2 x3 x4 h = (jx_if (jx_in x4 20) ((jx_if (jx_in x4 20) ((jx_if ((h.1 2 i0 x4.toNatClampNeg) = (h.1 3 i0 x4.toNatClampNeg)) (F21_76 D i0 x1 x2 x3 x4 h) (F21_76 D i0 x1 x2 (x3 ||| ((1 : Int32) <<< (x4 &&& 31))) x4 h))) none)) none) := (jx_it_eq (tl_m21 D) (jx_mem [5, 33, 52, 76, 97]) 60 _ _ _ _).trans rfl
set_option maxRecDepth 1000000 in
set_option maxHeartbeats 4000000 in
theorem e21_76 (D : jx_D) (i0 : Nat) (x1 : Int32) (x2 : Int32) (x3 : Int32) (x4 : Int32) (h : jx_H) : F21_76 D i0 x1 x2 x3 x4 h = F21_5 D i0 x1 x2 x3 (x4 + 1) h := (jx_it_eq (tl_m21 D) (jx_mem [5, 33, 52, 76, 97]) 60 _ _ _ _).trans rfl
noncomputable def F22_0 (D : jx_D) (x0 : Int32) (x1 : Int32) (x2 : Int32) (h : jx_H) : Option jx_R := jx_den (jx_look (tb_22 D)) (jx_nms mk_22) 0 [vi x0, vi x1, vi x2] [] h
noncomputable def F22_19 (D : jx_D) (s0 : Int32) (h : jx_H) : Option jx_R := jx_den (jx_look (tb_22 D)) (jx_nms mk_22) 19 [vn, vn, vn] [vi s0] h
set_option maxRecDepth 1000000 in
set_option maxHeartbeats 4000000 in
theorem e22_0 (D : jx_D) (x0 : Int32) (x1 : Int32) (x2 : Int32) (h : jx_H) : F22_0 D x0 x1 x2 h = (jx_if (x0 = x2) (some ([vi x1], h)) ((jx_if (x0 ≤ x2) (F22_19 D x0 h) (F22_19 D (x0 - (1 : Int32)) h)))) := (jx_it_eq (tl_m22 D) (jx_mem [19]) 17 _ _ _ _).trans rfl
set_option maxRecDepth 1000000 in
set_option maxHeartbeats 4000000 in
theorem e22_19 (D : jx_D) (s0 : Int32) (h : jx_H) : F22_19 D s0 h = some ([vi s0], h) := (jx_it_eq (tl_m22 D) (jx_mem [19]) 17 _ _ _ _).trans rfl
noncomputable def F23_0 (D : jx_D) (x1 : Int32) (x2 : Int32) (h : jx_H) : Option jx_R := jx_den (jx_look (tb_23 D)) (jx_nms mk_23) 0 [vr 0 0, vi x1, vi x2] [] h
set_option maxRecDepth 1000000 in
set_option maxHeartbeats 4000000 in
theorem e23_0 (D : jx_D) (x1 : Int32) (x2 : Int32) (h : jx_H) : F23_0 D x1 x2 h = (jx_bI (D 15 [vr 0 0, vi x1] h) fun y1 h1 => (jx_if (y1 = 0) ((jx_if (x2 = 0) ((jx_if (jx_in x1 20) (some ([vi (h1.1 2 0 x1.toNatClampNeg)], h1)) none)) (jx_if (x2 = 1) ((jx_if (jx_in x1 20) (some ([vi (h1.1 3 0 x1.toNatClampNeg)], h1)) none)) (jx_if (x2 = 2) ((jx_if (jx_in x1 20) (some ([vi (h1.1 4 0 x1.toNatClampNeg)], h1)) none)) (jx_if (x2 = 3) ((jx_if (jx_in x1 20) (some ([vi (h1.1 5 0 x1.toNatClampNeg)], h1)) none)) ((jx_bI (D 8 [vr 0 0, vi ((-1) : Int32)] h1) fun y2 h2 => some ([vi y2], h2)))))))) ((jx_bI (D 8 [vr 0 0, vi ((-1) : Int32)] h1) fun y3 h3 => some ([vi y3], h3))))) := (jx_it_eq (tl_m23 D) (jx_mem []) 41 _ _ _ _).trans rfl
noncomputable def F24_0 (D : jx_D) (h : jx_H) : Option jx_R := jx_den (jx_look (tb_24 D)) (jx_nms mk_24) 0 [vr 0 0] [] h
set_option maxRecDepth 1000000 in
set_option maxHeartbeats 4000000 in
theorem e24_0 (D : jx_D) (h : jx_H) : F24_0 D h = (jx_if ((h.1 6 0 2) = 0) ((jx_bI (D 8 [vr 0 0, vi ((-6) : Int32)] h) fun y1 h1 => some ([vi y1], h1))) ((jx_bV (D 25 [vr 6 0, vr 1 0] h) fun h2 => some ([vi (h2.1 6 0 2)], h2)))) := (jx_it_eq (tl_m24 D) (jx_mem []) 20 _ _ _ _).trans rfl
noncomputable def F25_0 (D : jx_D) (h : jx_H) : Option jx_R := jx_den (jx_look (tb_25 D)) (jx_nms mk_25) 0 [vr 6 0, vr 1 0] [] h
set_option maxRecDepth 1000000 in
set_option maxHeartbeats 4000000 in
theorem e25_0 (D : jx_D) (h : jx_H) : F25_0 D h = (jx_if ((30 : Int32) = 0) none ((jx_if (jx_in (((((h.1 6 0 1) + (30 : Int32)) - (1 : Int32)) - (((h.1 6 0 1) + (30 : Int32)) - (1 : Int32)) / (30 : Int32) * (30 : Int32))) 30) ((jx_bV (D 5 [vr 1 0, vr 1 (1 + (((((h.1 6 0 1) + (30 : Int32)) - (1 : Int32)) - (((h.1 6 0 1) + (30 : Int32)) - (1 : Int32)) / (30 : Int32) * (30 : Int32))).toNatClampNeg)] (jx_sI (jx_sI h 6 0 1 ((((h.1 6 0 1) + (30 : Int32)) - (1 : Int32)) - (((h.1 6 0 1) + (30 : Int32)) - (1 : Int32)) / (30 : Int32) * (30 : Int32))) 6 0 2 ((h.1 6 0 2) - (1 : Int32)))) fun h1 => some ([], h1))) none))) := (jx_it_eq (tl_m25 D) (jx_mem []) 27 _ _ _ _).trans rfl
noncomputable def F26_0 (D : jx_D) (x1 : Int32) (x2 : Int32) (x3 : Int32) (h : jx_H) : Option jx_R := jx_den (jx_look (tb_26 D)) (jx_nms mk_26) 0 [vr 0 0, vi x1, vi x2, vi x3] [] h
noncomputable def F26_35 (D : jx_D) (x1 : Int32) (x2 : Int32) (x3 : Int32) (h : jx_H) : Option jx_R := jx_den (jx_look (tb_26 D)) (jx_nms mk_26) 35 [vr 0 0, vi x1, vi x2, vi x3] [] h
noncomputable def F26_29 (D : jx_D) (h : jx_H) : Option jx_R := jx_den (jx_look (tb_26 D)) (jx_nms mk_26) 29 [vr 0 0, vn, vn, vn] [] h
set_option maxRecDepth 1000000 in
set_option maxHeartbeats 4000000 in
theorem e26_0 (D : jx_D) (x1 : Int32) (x2 : Int32) (x3 : Int32) (h : jx_H) : F26_0 D x1 x2 x3 h = (jx_bI (D 27 [vi x1] h) fun y1 h1 => (jx_if (y1 = 0) ((jx_if (x2 = 0) (F26_35 D x1 x2 x3 h1) ((jx_if (x2 = (8 : Int32)) (F26_35 D x1 x2 x3 h1) ((jx_if (x2 = (16 : Int32)) (F26_35 D x1 x2 x3 h1) ((jx_if (x2 = (32 : Int32)) (F26_35 D x1 x2 x3 h1) (F26_29 D h1))))))))) (F26_29 D h1))) := (jx_it_eq (tl_m26 D) (jx_mem [29, 35]) 42 _ _ _ _).trans rfl
set_option maxRecDepth 1000000 in
set_option maxHeartbeats 4000000 in
theorem e26_35 (D : jx_D) (x1 : Int32) (x2 : Int32) (x3 : Int32) (h : jx_H) : F26_35 D x1 x2 x3 h = (jx_if (x3 < 0) ((jx_bI (D 8 [vr 0 0, vi ((-3) : Int32)] h) fun y1 h1 => some ([vi y1], h1))) ((jx_if (x3 ≤ (24 : Int32)) ((jx_if (jx_in x1 4) ((jx_bI (D 28 [vr 11 (0 + x1.toNatClampNeg), vi x2, vi x3] h) fun y2 h2 => some ([vi y2], h2))) none)) ((jx_bI (D 8 [vr 0 0, vi ((-1) : Int32)] h) fun y3 h3 => some ([vi y3], h3)))))) := (jx_it_eq (tl_m26 D) (jx_mem [29, 35]) 42 _ _ _ _).trans rfl
set_option maxRecDepth 1000000 in
set_option maxHeartbeats 4000000 in
theorem e26_29 (D : jx_D) (h : jx_H) : F26_29 D h = (jx_bI (D 8 [vr 0 0, vi ((-1) : Int32)] h) fun y1 h1 => some ([vi y1], h1)) := (jx_it_eq (tl_m26 D) (jx_mem [29, 35]) 42 _ _ _ _).trans rfl
noncomputable def F27_0 (D : jx_D) (x0 : Int32) (h : jx_H) : Option jx_R := jx_den (jx_look (tb_27 D)) (jx_nms mk_27) 0 [vi x0] [] h
noncomputable def F27_9 (D : jx_D) (h : jx_H) : Option jx_R := jx_den (jx_look (tb_27 D)) (jx_nms mk_27) 9 [vn] [] h
noncomputable def F27_14 (D : jx_D) (s0 : Int32) (h : jx_H) : Option jx_R := jx_den (jx_look (tb_27 D)) (jx_nms mk_27) 14 [vn] [vi s0] h
set_option maxRecDepth 1000000 in
set_option maxHeartbeats 4000000 in
theorem e27_0 (D : jx_D) (x0 : Int32) (h : jx_H) : F27_0 D x0 h = (jx_if (x0 < 0) (F27_9 D h) ((jx_if (x0 < (4 : Int32)) (F27_14 D (0 : Int32) h) (F27_9 D h)))) := (jx_it_eq (tl_m27 D) (jx_mem [9, 14]) 12 _ _ _ _).trans rfl
set_option maxRecDepth 1000000 in
set_option maxHeartbeats 4000000 in
theorem e27_9 (D : jx_D) (h : jx_H) : F27_9 D h = F27_14 D (1 : Int32) h := (jx_it_eq (tl_m27 D) (jx_mem [9, 14]) 12 _ _ _ _).trans rfl
set_option maxRecDepth 1000000 in
set_option maxHeartbeats 4000000 in
theorem e27_14 (D : jx_D) (s0 : Int32) (h : jx_H) : F27_14 D s0 h = (jx_if (s0 = 0 ∨ s0 = 1) (some ([vi s0], h)) none) := (jx_it_eq (tl_m27 D) (jx_mem [9, 14]) 12 _ _ _ _).trans rfl
noncomputable def F28_0 (D : jx_D) (i0 : Nat) (x1 : Int32) (x2 : Int32) (h : jx_H) : Option jx_R := jx_den (jx_look (tb_28 D)) (jx_nms mk_28) 0 [vr 11 i0, vi x1, vi x2, vn] [] h
noncomputable def F28_5 (D : jx_D) (i0 : Nat) (x1 : Int32) (x2 : Int32) (h : jx_H) : Option jx_R := jx_den (jx_look (tb_28 D)) (jx_nms mk_28) 5 [vr 11 i0, vi x1, vi x2, vn] [] h
noncomputable def F28_15 (D : jx_D) (i0 : Nat) (s0 : Int32) (t1 : Nat) (h : jx_H) : Option jx_R := jx_den (jx_look (tb_28 D)) (jx_nms mk_28) 15 [vr 11 i0, vn, vn, vn] [vi s0, vr 11 t1] h
noncomputable def F28_18 (D : jx_D) (i0 : Nat) (h : jx_H) : Option jx_R := jx_den (jx_look (tb_28 D)) (jx_nms mk_28) 18 [vr 11 i0, vn, vn, vn] [] h
noncomputable def F28_20 (D : jx_D) (i0 : Nat) (x3 : Int32) (h : jx_H) : Option jx_R := jx_den (jx_look (tb_28 D)) (jx_nms mk_28) 20 [vr 11 i0, vn, vn, vi x3] [] h
noncomputable def F28_35 (D : jx_D) (i0 : Nat) (x3 : Int32) (h : jx_H) : Option jx_R := jx_den (jx_look (tb_28 D)) (jx_nms mk_28) 35 [vr 11 i0, vn, vn, vi x3] [] h
set_option maxRecDepth 1000000 in
set_option maxHeartbeats 4000000 in
theorem e28_0 (D : jx_D) (i0 : Nat) (x1 : Int32) (x2 : Int32) (h : jx_H) : F28_0 D i0 x1 x2 h = F28_5 D i0 x1 x2 (jx_sI h 11 i0 0 x1) := (jx_it_eq (tl_m28 D) (jx_mem [5, 15, 18, 20, 35]) 29 _ _ _ _).trans rfl
set_option maxRecDepth 1000000 in
set_option maxHeartbeats 4000000 in
theorem e28_5 (D : jx_D) (i0 : Nat) (x1 : Int32) (x2 : Int32) (h : jx_H) : F28_5 D i0 x1 x2 h = (jx_if (x1 = 0) (F28_15 D i0 (0 : Int32) i0 h) (F28_15 D i0 x2 i0 h)) := (jx_it_eq (tl_m28 D) (jx_mem [5, 15, 18, 20, 35]) 29 _ _ _ _).trans rfl
set_option maxRecDepth 1000000 in
set_option maxHeartbeats 4000000 in
theorem e28_15 (D : jx_D) (i0 : Nat) (s0 : Int32) (t1 : Nat) (h : jx_H) : F28_15 D i0 s0 t1 h = F28_18 D i0 (jx_sI h 11 t1 1 s0) := (jx_it_eq (tl_m28 D) (jx_mem [5, 15, 18, 20, 35]) 29 _ _ _ _).trans rfl
set_option maxRecDepth 1000000 in
set_option maxHeartbeats 4000000 in
theorem e28_18 (D : jx_D) (i0 : Nat) (h : jx_H) : F28_18 D i0 h = F28_20 D i0 (0 : Int32) h := (jx_it_eq (tl_m28 D) (jx_mem [5, 15, 18, 20, 35]) 29 _ _ _ _).trans rfl
set_option maxRecDepth 1000000 in
set_option maxHeartbeats 4000000 in
theorem e28_20 (D : jx_D) (i0 : Nat) (x3 : Int32) (h : jx_H) : F28_20 D i0 x3 h = (jx_if (x3 < (h.1 11 i0 1)) ((jx_if (jx_in x3 24) (F28_35 D i0 x3 (jx_sI h 12 i0 x3.toNatClampNeg (0 : Int32))) none)) (some ([vi (h.1 11 i0 1)], h))) := (jx_it_eq (tl_m28 D) (jx_mem [5, 15, 18, 20, 35]) 29 _ _ _ _).trans rfl
set_option maxRecDepth 1000000 in
set_option maxHeartbeats 4000000 in
theorem e28_35 (D : jx_D) (i0 : Nat) (x3 : Int32) (h : jx_H) : F28_35 D i0 x3 h = F28_20 D i0 (x3 + 1) h := (jx_it_eq (tl_m28 D) (jx_mem [5, 15, 18, 20, 35]) 29 _ _ _ _).trans rfl
noncomputable def F29_0 (D : jx_D) (x1 : Int32) (x2 : Int32) (x3 : Int32) (h : jx_H) : Option jx_R := jx_den (jx_look (tb_29 D)) (jx_nms mk_29) 0 [vr 0 0, vi x1, vi x2, vi x3, vn] [] h
noncomputable def F29_49 (D : jx_D) (h : jx_H) : Option jx_R := jx_den (jx_look (tb_29 D)) (jx_nms mk_29) 49 [vr 0 0, vn, vn, vn, vn] [] h
set_option maxRecDepth 1000000 in
set_option maxHeartbeats 4000000 in
theorem e29_0 (D : jx_D) (x1 : Int32) (x2 : Int32) (x3 : Int32) (h : jx_H) : F29_0 D x1 x2 x3 h = (jx_bI (D 27 [vi x1] h) fun y1 h1 => (jx_if (y1 = 0) ((jx_if (jx_in x1 4) ((jx_bI (D 30 [vr 11 (0 + x1.toNatClampNeg)] h1) fun y2 h2 => (jx_if (y2 = 0) ((jx_if (x2 < 0) (F29_49 D h2) ((jx_if (x2 < (h2.1 11 (0 + x1.toNatClampNeg) 1)) ((jx_bV (D 31 [vr 11 (0 + x1.toNatClampNeg), vi x2, vi x3] h2) fun h3 => some ([vi (0 : Int32)], h3))) (F29_49 D h2))))) ((jx_bI (D 8 [vr 0 0, vi ((-2) : Int32)] h2) fun y4 h4 => some ([vi y4], h4)))))) none)) ((jx_bI (D 8 [vr 0 0, vi ((-1) : Int32)] h1) fun y5 h5 => some ([vi y5], h5))))) := (jx_it_eq (tl_m29 D) (jx_mem [49]) 38 _ _ _ _).trans rfl
set_option maxRecDepth 1000000 in
set_option maxHeartbeats 4000000 in
theorem e29_49 (D : jx_D) (h : jx_H) : F29_49 D h = (jx_bI (D 8 [vr 0 0, vi ((-1) : Int32)] h) fun y1 h1 => some ([vi y1], h1)) := (jx_it_eq (tl_m29 D) (jx_mem [49]) 38 _ _ _ _).trans rfl
noncomputable def F30_0 (D : jx_D) (i0 : Nat) (h : jx_H) : Option jx_R := jx_den (jx_look (tb_30 D)) (jx_nms mk_30) 0 [vr 11 i0] [] h
noncomputable def F30_12 (D : jx_D) (s0 : Int32) (h : jx_H) : Option jx_R := jx_den (jx_look (tb_30 D)) (jx_nms mk_30) 12 [vn] [vi s0] h
set_option maxRecDepth 1000000 in
set_option maxHeartbeats 4000000 in
theorem e30_0 (D : jx_D) (i0 : Nat) (h : jx_H) : F30_0 D i0 h = (jx_if ((h.1 11 i0 0) = 0) (F30_12 D (1 : Int32) h) (F30_12 D (0 : Int32) h)) := (jx_it_eq (tl_m30 D) (jx_mem [12]) 10 _ _ _ _).trans rfl
set_option maxRecDepth 1000000 in
set_option maxHeartbeats 4000000 in
theorem e30_12 (D : jx_D) (s0 : Int32) (h : jx_H) : F30_12 D s0 h = (jx_if (s0 = 0 ∨ s0 = 1) (some ([vi s0], h)) none) := (jx_it_eq (tl_m30 D) (jx_mem [12]) 10 _ _ _ _).trans rfl
noncomputable def F31_0 (D : jx_D) (i0 : Nat) (x1 : Int32) (x2 : Int32) (h : jx_H) : Option jx_R := jx_den (jx_look (tb_31 D)) (jx_nms mk_31) 0 [vr 11 i0, vi x1, vi x2] [] h
noncomputable def F31_27 (D : jx_D) (s0 : Int32) (s1 : Int32) (t2 : Nat) (h : jx_H) : Option jx_R := jx_den (jx_look (tb_31 D)) (jx_nms mk_31) 27 [vn, vn, vn] [vi s0, vi s1, vr 12 t2] h
set_option maxRecDepth 1000000 in
set_option maxHeartbeats 4000000 in
theorem e31_0 (D : jx_D) (i0 : Nat) (x1 : Int32) (x2 : Int32) (h : jx_H) : F31_0 D i0 x1 x2 h = (jx_if ((h.1 11 i0 0) = (32 : Int32)) (F31_27 D x2 x1 i0 h) ((jx_bI (D 17 [vi (h.1 11 i0 0)] h) fun y1 h1 => F31_27 D (x2 &&& y1) x1 i0 h1))) := (jx_it_eq (tl_m31 D) (jx_mem [27]) 19 _ _ _ _).trans rfl
set_option maxRecDepth 1000000 in
set_option maxHeartbeats 4000000 in
theorem e31_27 (D : jx_D) (s0 : Int32) (s1 : Int32) (t2 : Nat) (h : jx_H) : F31_27 D s0 s1 t2 h = (jx_if (jx_in s1 24) (some ([], (jx_sI h 12 t2 s1.toNatClampNeg s0))) none) := (jx_it_eq (tl_m31 D) (jx_mem [27]) 19 _ _ _ _).trans rfl
noncomputable def F32_0 (D : jx_D) (x1 : Int32) (x2 : Int32) (x3 : Int32) (x4 : Int32) (x5 : Int32) (h : jx_H) : Option jx_R := jx_den (jx_look (tb_32 D)) (jx_nms mk_32) 0 [vr 0 0, vi x1, vi x2, vi x3, vi x4, vi x5, vn, vn] [] h
noncomputable def F32_102 (D : jx_D) (h : jx_H) : Option jx_R := jx_den (jx_look (tb_32 D)) (jx_nms mk_32) 102 [vr 0 0, vn, vn, vn, vn, vn, vn, vn] [] h
noncomputable def F32_52 (D : jx_D) (h : jx_H) : Option jx_R := jx_den (jx_look (tb_32 D)) (jx_nms mk_32) 52 [vr 0 0, vn, vn, vn, vn, vn, vn, vn] [] h
noncomputable def F32_14 (D : jx_D) (h : jx_H) : Option jx_R := jx_den (jx_look (tb_32 D)) (jx_nms mk_32) 14 [vr 0 0, vn, vn, vn, vn, vn, vn, vn] [] h
set_option maxRecDepth 1000000 in
set_option maxHeartbeats 4000000 in
theorem e32_0 (D : jx_D) (x1 : Int32) (x2 : Int32) (x3 : Int32) (x4 : Int32) (x5 : Int32) (h : jx_H) : F32_0 D x1 x2 x3 x4 x5 h = (jx_bI (D 27 [vi x1] h) fun y1 h1 => (jx_if (y1 = 0) ((jx_bI (D 27 [vi x3] h1) fun y2 h2 => (jx_if (y2 = 0) ((jx_if (jx_in x1 4) ((jx_if (jx_in x3 4) ((jx_bI (D 30 [vr 11 (0 + x1.toNatClampNeg)] h2) fun y3 h3 => (jx_if (y3 = 0) ((jx_bI (D 30 [vr 11 (0 + x3.toNatClampNeg)] h3) fun y4 h4 => (jx_if (y4 = 0) ((jx_if ((h4.1 11 (0 + x1.toNatClampNeg) 0) = (h4.1 11 (0 + x3.toNatClampNeg) 0)) ((jx_bI (D 33 [vr 11 (0 + x1.toNatClampNeg), vi x2, vi x5] h4) fun y5 h5 => (jx_if (y5 = 0) (F32_102 D h5) ((jx_bI (D 33 [vr 11 (0 + x3.toNatClampNeg), vi x4, vi x5] h5) fun y6 h6 => (jx_if (y6 = 0) (F32_102 D h6) ((jx_if (0 ≤ x2 ∧ 0 ≤ x4 ∧ 0 ≤ x5 ∧ x2.toNatClampNeg + x5.toNatClampNeg ≤ 24 ∧ x4.toNatClampNeg + x5.toNatClampNeg ≤ 24) (some ([vi x5], (jx_cp h6 12 (0 + x1.toNatClampNeg) 12 (0 + x3.toNatClampNeg) x2.toNatClampNeg x4.toNatClampNeg x5.toNatClampNeg))) none)))))))) ((jx_bI (D 8 [vr 0 0, vi ((-4) : Int32)] h4) fun y7 h7 => some ([vi y7], h7))))) (F32_52 D h4)))) (F32_52 D h3)))) none)) none)) (F32_14 D h2)))) (F32_14 D h1))) := (jx_it_eq (tl_m32 D) (jx_mem [14, 52, 102]) 66 _ _ _ _).trans rfl
set_option maxRecDepth 1000000 in
set_option maxHeartbeats 4000000 in
theorem e32_102 (D : jx_D) (h : jx_H) : F32_102 D h = (jx_bI (D 8 [vr 0 0, vi ((-1) : Int32)] h) fun y1 h1 => some ([vi y1], h1)) := (jx_it_eq (tl_m32 D) (jx_mem [14, 52, 102]) 66 _ _ _ _).trans rfl
set_option maxRecDepth 1000000 in
set_option maxHeartbeats 4000000 in
theorem e32_52 (D : jx_D) (h : jx_H) : F32_52 D h = (jx_bI (D 8 [vr 0 0, vi ((-2) : Int32)] h) fun y1 h1 => some ([vi y1], h1)) := (jx_it_eq (tl_m32 D) (jx_mem [14, 52, 102]) 66 _ _ _ _).trans rfl
set_option maxRecDepth 1000000 in
set_option maxHeartbeats 4000000 in
theorem e32_14 (D : jx_D) (h : jx_H) : F32_14 D h = (jx_bI (D 8 [vr 0 0, vi ((-1) : Int32)] h) fun y1 h1 => some ([vi y1], h1)) := (jx_it_eq (tl_m32 D) (jx_mem [14, 52, 102]) 66 _ _ _ _).trans rfl
noncomputable def F33_0 (D : jx_D) (i0 : Nat) (x1 : Int32) (x2 : Int32) (h : jx_H) : Option jx_R := jx_den (jx_look (tb_33 D)) (jx_nms mk_33) 0 [vr 11 i0, vi x1, vi x2] [] h
noncomputable def F33_30 (D : jx_D) (h : jx_H) : Option jx_R := jx_den (jx_look (tb_33 D)) (jx_nms mk_33) 30 [vn, vn, vn] [] h
noncomputable def F33_31 (D : jx_D) (s0 : Int32) (h : jx_H) : Option jx_R := jx_den (jx_look (tb_33 D)) (jx_nms mk_33) 31 [vn, vn, vn] [vi s0] h
set_option maxRecDepth 1000000 in
set_option maxHeartbeats 4000000 in
theorem e33_0 (D : jx_D) (i0 : Nat) (x1 : Int32) (x2 : Int32) (h : jx_H) : F33_0 D i0 x1 x2 h = (jx_if (x1 < 0) (F33_30 D h) ((jx_if (x2 < 0) (F33_30 D h) ((jx_if (x2 ≤ (h.1 11 i0 1)) ((jx_if (x1 ≤ ((h.1 11 i0 1) - x2)) (F33_31 D (1 : Int32) h) (F33_30 D h))) (F33_30 D h)))))) := (jx_it_eq (tl_m33 D) (jx_mem [30, 31]) 21 _ _ _ _).trans rfl
set_option maxRecDepth 1000000 in
set_option maxHeartbeats 4000000 in
theorem e33_30 (D : jx_D) (h : jx_H) : F33_30 D h = F33_31 D (0 : Int32) h := (jx_it_eq (tl_m33 D) (jx_mem [30, 31]) 21 _ _ _ _).trans rfl
set_option maxRecDepth 1000000 in
set_option maxHeartbeats 4000000 in
theorem e33_31 (D : jx_D) (s0 : Int32) (h : jx_H) : F33_31 D s0 h = (jx_if (s0 = 0 ∨ s0 = 1) (some ([vi s0], h)) none) := (jx_it_eq (tl_m33 D) (jx_mem [30, 31]) 21 _ _ _ _).trans rfl
noncomputable def F34_0 (D : jx_D) (x1 : Int32) (h : jx_H) : Option jx_R := jx_den (jx_look (tb_34 D)) (jx_nms mk_34) 0 [vr 0 0, vi x1, vn, vn, vn, vn] [] h
noncomputable def F34_50 (D : jx_D) (i3 : Nat) (x4 : Int32) (h : jx_H) : Option jx_R := jx_den (jx_look (tb_34 D)) (jx_nms mk_34) 50 [vr 0 0, vn, vn, vr 12 i3, vi x4, vn] [] h
noncomputable def F34_53 (D : jx_D) (i3 : Nat) (x4 : Int32) (x5 : Int32) (h : jx_H) : Option jx_R := jx_den (jx_look (tb_34 D)) (jx_nms mk_34) 53 [vr 0 0, vn, vn, vr 12 i3, vi x4, vi x5] [] h
set_option maxRecDepth 1000000 in
set_option maxHeartbeats 4000000 in
theorem e34_0 (D : jx_D) (x1 : Int32) (h : jx_H) : F34_0 D x1 h = (jx_bI (D 35 [vr 0 0, vi x1] h) fun y1 h1 => (jx_if (y1 = 0) ((jx_bV (D 4 [vr 6 0, vr 1 0] h1) fun h2 => (jx_if (jx_in x1 4) ((jx_if (jx_in x1 4) ((jx_if ((2 : Int32) = 0) none (F34_50 D (0 + x1.toNatClampNeg) ((h2.1 11 (0 + x1.toNatClampNeg) 1) / (2 : Int32)) h2))) none)) none))) ((jx_bI (D 8 [vr 0 0, vi y1] h1) fun y3 h3 => some ([vi y3], h3))))) := (jx_it_eq (tl_m34 D) (jx_mem [50, 53]) 57 _ _ _ _).trans rfl
set_option maxRecDepth 1000000 in
set_option maxHeartbeats 4000000 in
theorem e34_50 (D : jx_D) (i3 : Nat) (x4 : Int32) (h : jx_H) : F34_50 D i3 x4 h = F34_53 D i3 x4 (0 : Int32) h := (jx_it_eq (tl_m34 D) (jx_mem [50, 53]) 57 _ _ _ _).trans rfl
set_option maxRecDepth 1000000 in
set_option maxHeartbeats 4000000 in
theorem e34_53 (D : jx_D) (i3 : Nat) (x4 : Int32) (x5 : Int32) (h : jx_H) : F34_53 D i3 x4 x5 h = (jx_if (x5 < x4) ((jx_if (jx_in ((2 : Int32) * x5) 24) ((jx_if (jx_in (((2 : Int32) * x5) + (1 : Int32)) 24) ((jx_bI (D 13 [vr 1 0, vi (h.1 12 i3 (((2 : Int32) * x5).toNatClampNeg)), vi (h.1 12 i3 ((((2 : Int32) * x5) + (1 : Int32)).toNatClampNeg))] h) fun y1 h1 => F34_53 D i3 x4 (x5 + 1) h1)) none)) none)) (some ([vi x4], h))) := (jx_it_eq (tl_m34 D) (jx_mem [50, 53]) 57 _ _ _ _).trans rfl
noncomputable def F35_0 (D : jx_D) (x1 : Int32) (h : jx_H) : Option jx_R := jx_den (jx_look (tb_35 D)) (jx_nms mk_35) 0 [vr 0 0, vi x1, vn, vn] [] h
noncomputable def F35_36 (D : jx_D) (x1 : Int32) (x2 : Int32) (h : jx_H) : Option jx_R := jx_den (jx_look (tb_35 D)) (jx_nms mk_35) 36 [vr 0 0, vi x1, vi x2, vn] [] h
noncomputable def F35_72 (D : jx_D) (x3 : Int32) (h : jx_H) : Option jx_R := jx_den (jx_look (tb_35 D)) (jx_nms mk_35) 72 [vn, vn, vn, vi x3] [] h
set_option maxRecDepth 1000000 in
set_option maxHeartbeats 4000000 in
theorem e35_0 (D : jx_D) (x1 : Int32) (h : jx_H) : F35_0 D x1 h = (jx_bI (D 27 [vi x1] h) fun y1 h1 => (jx_if (y1 = 0) ((jx_if (jx_in x1 4) ((jx_bI (D 30 [vr 11 (0 + x1.toNatClampNeg)] h1) fun y2 h2 => (jx_if (y2 = 0) ((jx_if (jx_in x1 4) ((jx_if ((2 : Int32) = 0) none (F35_36 D x1 ((h2.1 11 (0 + x1.toNatClampNeg) 1) / (2 : Int32)) h2))) none)) (some ([vi ((-2) : Int32)], h2))))) none)) (some ([vi ((-1) : Int32)], h1)))) := (jx_it_eq (tl_m35 D) (jx_mem [36, 72]) 46 _ _ _ _).trans rfl
set_option maxRecDepth 1000000 in
set_option maxHeartbeats 4000000 in
theorem e35_36 (D : jx_D) (x1 : Int32) (x2 : Int32) (h : jx_H) : F35_36 D x1 x2 h = (jx_if (jx_in x1 4) ((jx_bI (D 36 [vr 0 0, vr 12 (0 + x1.toNatClampNeg), vi x2] h) fun y1 h1 => (jx_if (y1 = 0) ((jx_if (((h1.1 1 0 1) + x2) ≤ (20 : Int32)) (F35_72 D y1 h1) (F35_72 D ((-5) : Int32) h1))) (F35_72 D y1 h1)))) none) := (jx_it_eq (tl_m35 D) (jx_mem [36, 72]) 46 _ _ _ _).trans rfl
set_option maxRecDepth 1000000 in
set_option maxHeartbeats 4000000 in
theorem e35_72 (D : jx_D) (x3 : Int32) (h : jx_H) : F35_72 D x3 h = some ([vi x3], h) := (jx_it_eq (tl_m35 D) (jx_mem [36, 72]) 46 _ _ _ _).trans rfl
noncomputable def F36a_0 (D : jx_D) (x2 : Int32) (h : jx_H) : Option jx_R := jx_den (jx_look (tb_36 D)) (jx_nms mk_36) 0 [vr 0 0, vr 13 0, vi x2, vn, vn, vn] [] h
noncomputable def F36a_5 (D : jx_D) (x2 : Int32) (x3 : Int32) (x4 : Int32) (h : jx_H) : Option jx_R := jx_den (jx_look (tb_36 D)) (jx_nms mk_36) 5 [vr 0 0, vr 13 0, vi x2, vi x3, vi x4, vn] [] h
noncomputable def F36a_47 (D : jx_D) (x2 : Int32) (x3 : Int32) (x4 : Int32) (h : jx_H) : Option jx_R := jx_den (jx_look (tb_36 D)) (jx_nms mk_36) 47 [vr 0 0, vr 13 0, vi x2, vi x3, vi x4, vn] [] h
set_option maxRecDepth 1000000 in
set_option maxHeartbeats 4000000 in
theorem e36a_0 (D : jx_D) (x2 : Int32) (h : jx_H) : F36a_0 D x2 h = F36a_5 D x2 (0 : Int32) (0 : Int32) h := (jx_it_eq (tl_m36 D) (jx_mem [5, 47]) 38 _ _ _ _).trans rfl
set_option maxRecDepth 1000000 in
set_option maxHeartbeats 4000000 in
theorem e36a_5 (D : jx_D) (x2 : Int32) (x3 : Int32) (x4 : Int32) (h : jx_H) : F36a_5 D x2 x3 x4 h = (jx_if (x4 < x2) ((jx_if (jx_in ((2 : Int32) * x4) 60) ((jx_if (jx_in (((2 : Int32) * x4) + (1 : Int32)) 60) ((jx_bI (D 11 [vr 0 0, vi (h.1 13 0 (((2 : Int32) * x4).toNatClampNeg)), vi (h.1 13 0 ((((2 : Int32) * x4) + (1 : Int32)).toNatClampNeg))] h) fun y1 h1 => (jx_if (y1 = ((-1) : Int32)) (some ([vi ((-1) : Int32)], h1)) ((jx_if (y1 = 0) (F36a_47 D x2 x3 x4 h1) (F36a_47 D x2 y1 x4 h1)))))) none)) none)) (some ([vi x3], h))) := (jx_it_eq (tl_m36 D) (jx_mem [5, 47]) 38 _ _ _ _).trans rfl
set_option maxRecDepth 1000000 in
set_option maxHeartbeats 4000000 in
theorem e36a_47 (D : jx_D) (x2 : Int32) (x3 : Int32) (x4 : Int32) (h : jx_H) : F36a_47 D x2 x3 x4 h = F36a_5 D x2 x3 (x4 + 1) h := (jx_it_eq (tl_m36 D) (jx_mem [5, 47]) 38 _ _ _ _).trans rfl
noncomputable def F36b_0 (D : jx_D) (i1 : Nat) (x2 : Int32) (h : jx_H) : Option jx_R := jx_den (jx_look (tb_36 D)) (jx_nms mk_36) 0 [vr 0 0, vr 12 i1, vi x2, vn, vn, vn] [] h
noncomputable def F36b_5 (D : jx_D) (i1 : Nat) (x2 : Int32) (x3 : Int32) (x4 : Int32) (h : jx_H) : Option jx_R := jx_den (jx_look (tb_36 D)) (jx_nms mk_36) 5 [vr 0 0, vr 12 i1, vi x2, vi x3, vi x4, vn] [] h
noncomputable def F36b_47 (D : jx_D) (i1 : Nat) (x2 : Int32) (x3 : Int32) (x4 : Int32) (h : jx_H) : Option jx_R := jx_den (jx_look (tb_36 D)) (jx_nms mk_36) 47 [vr 0 0, vr 12 i1, vi x2, vi x3, vi x4, vn] [] h
set_option maxRecDepth 1000000 in
set_option maxHeartbeats 4000000 in
theorem e36b_0 (D : jx_D) (i1 : Nat) (x2 : Int32) (h : jx_H) : F36b_0 D i1 x2 h = F36b_5 D i1 x2 (0 : Int32) (0 : Int32) h := (jx_it_eq (tl_m36 D) (jx_mem [5, 47]) 38 _ _ _ _).trans rfl
set_option maxRecDepth 1000000 in
set_option maxHeartbeats 4000000 in
theorem e36b_5 (D : jx_D) (i1 : Nat) (x2 : Int32) (x3 : Int32) (x4 : Int32) (h : jx_H) : F36b_5 D i1 x2 x3 x4 h = (jx_if (x4 < x2) ((jx_if (jx_in ((2 : Int32) * x4) 24) ((jx_if (jx_in (((2 : Int32) * x4) + (1 : Int32)) 24) ((jx_bI (D 11 [vr 0 0, vi (h.1 12 i1 (((2 : Int32) * x4).toNatClampNeg)), vi (h.1 12 i1 ((((2 : Int32) * x4) + (1 : Int32)).toNatClampNeg))] h) fun y1 h1 => (jx_if (y1 = ((-1) : Int32)) (some ([vi ((-1) : Int32)], h1)) ((jx_if (y1 = 0) (F36b_47 D i1 x2 x3 x4 h1) (F36b_47 D i1 x2 y1 x4 h1)))))) none)) none)) (some ([vi x3], h))) := (jx_it_eq (tl_m36 D) (jx_mem [5, 47]) 38 _ _ _ _).trans rfl
set_option maxRecDepth 1000000 in
set_option maxHeartbeats 4000000 in
theorem e36b_47 (D : jx_D) (i1 : Nat) (x2 : Int32) (x3 : Int32) (x4 : Int32) (h : jx_H) : F36b_47 D i1 x2 x3 x4 h = F36b_5 D i1 x2 x3 (x4 + 1) h := (jx_it_eq (tl_m36 D) (jx_mem [5, 47]) 38 _ _ _ _).trans rfl
noncomputable def F37_0 (D : jx_D) (x1 : Int32) (x2 : Int32) (h : jx_H) : Option jx_R := jx_den (jx_look (tb_37 D)) (jx_nms mk_37) 0 [vr 0 0, vi x1, vi x2, vn] [] h
set_option maxRecDepth 1000000 in
set_option maxHeartbeats 4000000 in
theorem e37_0 (D : jx_D) (x1 : Int32) (x2 : Int32) (h : jx_H) : F37_0 D x1 x2 h = (jx_bI (D 11 [vr 0 0, vi x1, vi x2] h) fun y1 h1 => (jx_if (y1 = 0) ((jx_bV (D 38 [vr 14 0, vr 1 0] h1) fun h2 => (jx_bI (D 40 [vr 14 0, vi x1, vi x2] h2) fun y3 h3 => some ([vi y3], h3)))) ((jx_bI (D 8 [vr 0 0, vi y1] h1) fun y4 h4 => some ([vi y4], h4))))) := (jx_it_eq (tl_m37 D) (jx_mem []) 25 _ _ _ _).trans rfl
noncomputable def F38_0 (D : jx_D) (h : jx_H) : Option jx_R := jx_den (jx_look (tb_38 D)) (jx_nms mk_38) 0 [vr 14 0, vr 1 0, vn, vn] [] h
noncomputable def F38_8 (D : jx_D) (h : jx_H) : Option jx_R := jx_den (jx_look (tb_38 D)) (jx_nms mk_38) 8 [vr 14 0, vr 1 0, vn, vn] [] h
noncomputable def F38_16 (D : jx_D) (h : jx_H) : Option jx_R := jx_den (jx_look (tb_38 D)) (jx_nms mk_38) 16 [vr 14 0, vr 1 0, vn, vn] [] h
noncomputable def F38_24 (D : jx_D) (h : jx_H) : Option jx_R := jx_den (jx_look (tb_38 D)) (jx_nms mk_38) 24 [vr 14 0, vr 1 0, vn, vn] [] h
noncomputable def F38_35 (D : jx_D) (h : jx_H) : Option jx_R := jx_den (jx_look (tb_38 D)) (jx_nms mk_38) 35 [vr 14 0, vr 1 0, vn, vn] [] h
noncomputable def F38_46 (D : jx_D) (h : jx_H) : Option jx_R := jx_den (jx_look (tb_38 D)) (jx_nms mk_38) 46 [vr 14 0, vr 1 0, vn, vn] [] h
noncomputable def F38_69 (D : jx_D) (s0 : Int32) (h : jx_H) : Option jx_R := jx_den (jx_look (tb_38 D)) (jx_nms mk_38) 69 [vr 14 0, vr 1 0, vn, vn] [vi s0, vr 14 0] h
noncomputable def F38_72 (D : jx_D) (h : jx_H) : Option jx_R := jx_den (jx_look (tb_38 D)) (jx_nms mk_38) 72 [vr 14 0, vr 1 0, vn, vn] [] h
noncomputable def F38_85 (D : jx_D) (s0 : Int32) (h : jx_H) : Option jx_R := jx_den (jx_look (tb_38 D)) (jx_nms mk_38) 85 [vr 14 0, vr 1 0, vn, vn] [vi s0, vr 14 0] h
noncomputable def F38_88 (D : jx_D) (h : jx_H) : Option jx_R := jx_den (jx_look (tb_38 D)) (jx_nms mk_38) 88 [vr 14 0, vr 1 0, vn, vn] [] h
noncomputable def F38_95 (D : jx_D) (x2 : Int32) (h : jx_H) : Option jx_R := jx_den (jx_look (tb_38 D)) (jx_nms mk_38) 95 [vr 14 0, vn, vi x2, vn] [] h
noncomputable def F38_108 (D : jx_D) (x2 : Int32) (x3 : Int32) (h : jx_H) : Option jx_R := jx_den (jx_look (tb_38 D)) (jx_nms mk_38) 108 [vr 14 0, vn, vi x2, vi x3] [] h
noncomputable def F38_129 (D : jx_D) (x2 : Int32) (x3 : Int32) (h : jx_H) : Option jx_R := jx_den (jx_look (tb_38 D)) (jx_nms mk_38) 129 [vr 14 0, vn, vi x2, vi x3] [] h
noncomputable def F38_150 (D : jx_D) (x2 : Int32) (x3 : Int32) (h : jx_H) : Option jx_R := jx_den (jx_look (tb_38 D)) (jx_nms mk_38) 150 [vr 14 0, vn, vi x2, vi x3] [] h
noncomputable def F38_171 (D : jx_D) (x2 : Int32) (h : jx_H) : Option jx_R := jx_den (jx_look (tb_38 D)) (jx_nms mk_38) 171 [vr 14 0, vn, vi x2, vn] [] h
noncomputable def F38_214 (D : jx_D) (x2 : Int32) (s0 : Int32) (s1 : Int32) (h : jx_H) : Option jx_R := jx_den (jx_look (tb_38 D)) (jx_nms mk_38) 214 [vr 14 0, vn, vi x2, vn] [vi s0, vi s1, vr 18 0] h
noncomputable def F38_215 (D : jx_D) (x2 : Int32) (h : jx_H) : Option jx_R := jx_den (jx_look (tb_38 D)) (jx_nms mk_38) 215 [vr 14 0, vn, vi x2, vn] [] h
set_option maxRecDepth 1000000 in
set_option maxHeartbeats 4000000 in
theorem e38_0 (D : jx_D) (h : jx_H) : F38_0 D h = F38_8 D (jx_sI h 14 0 0 (h.1 1 0 0)) := (jx_it_eq (tl_m38 D) (jx_mem [8, 16, 24, 35, 46, 69, 72, 85, 88, 95, 108, 129, 150, 171, 214, 215]) 137 _ _ _ _).trans rfl
set_option maxRecDepth 1000000 in
set_option maxHeartbeats 4000000 in
theorem e38_8 (D : jx_D) (h : jx_H) : F38_8 D h = F38_16 D (jx_sI h 14 0 1 (h.1 1 0 1)) := (jx_it_eq (tl_m38 D) (jx_mem [8, 16, 24, 35, 46, 69, 72, 85, 88, 95, 108, 129, 150, 171, 214, 215]) 137 _ _ _ _).trans rfl
set_option maxRecDepth 1000000 in
set_option maxHeartbeats 4000000 in
theorem e38_16 (D : jx_D) (h : jx_H) : F38_16 D h = (jx_if ((h.1 1 0 2) = 0 ∨ (h.1 1 0 2) = 1) (F38_24 D (jx_sI h 14 0 2 (h.1 1 0 2))) none) := (jx_it_eq (tl_m38 D) (jx_mem [8, 16, 24, 35, 46, 69, 72, 85, 88, 95, 108, 129, 150, 171, 214, 215]) 137 _ _ _ _).trans rfl
set_option maxRecDepth 1000000 in
set_option maxHeartbeats 4000000 in
theorem e38_24 (D : jx_D) (h : jx_H) : F38_24 D h = (jx_bI (D 17 [vi (h.1 14 0 0)] h) fun y1 h1 => F38_35 D (jx_sI h1 14 0 3 y1)) := (jx_it_eq (tl_m38 D) (jx_mem [8, 16, 24, 35, 46, 69, 72, 85, 88, 95, 108, 129, 150, 171, 214, 215]) 137 _ _ _ _).trans rfl
set_option maxRecDepth 1000000 in
set_option maxHeartbeats 4000000 in
theorem e38_35 (D : jx_D) (h : jx_H) : F38_35 D h = (jx_bI (D 17 [vi (h.1 14 0 1)] h) fun y1 h1 => F38_46 D (jx_sI h1 14 0 4 y1)) := (jx_it_eq (tl_m38 D) (jx_mem [8, 16, 24, 35, 46, 69, 72, 85, 88, 95, 108, 129, 150, 171, 214, 215]) 137 _ _ _ _).trans rfl
set_option maxRecDepth 1000000 in
set_option maxHeartbeats 4000000 in
theorem e38_46 (D : jx_D) (h : jx_H) : F38_46 D h = (jx_if ((h.1 14 0 2) = 0) ((jx_if ((2 : Int32) = 0) none (F38_69 D (((h.1 14 0 3) + (1 : Int32)) / (2 : Int32)) h))) (F38_69 D (h.1 14 0 3) h)) := (jx_it_eq (tl_m38 D) (jx_mem [8, 16, 24, 35, 46, 69, 72, 85, 88, 95, 108, 129, 150, 171, 214, 215]) 137 _ _ _ _).trans rfl
set_option maxRecDepth 1000000 in
set_option maxHeartbeats 4000000 in
theorem e38_69 (D : jx_D) (s0 : Int32) (h : jx_H) : F38_69 D s0 h = F38_72 D (jx_sI h 14 0 5 s0) := (jx_it_eq (tl_m38 D) (jx_mem [8, 16, 24, 35, 46, 69, 72, 85, 88, 95, 108, 129, 150, 171, 214, 215]) 137 _ _ _ _).trans rfl
set_option maxRecDepth 1000000 in
set_option maxHeartbeats 4000000 in
theorem e38_72 (D : jx_D) (h : jx_H) : F38_72 D h = (jx_if ((h.1 14 0 2) = 0) (F38_85 D (1 : Int32) h) (F38_85 D (0 : Int32) h)) := (jx_it_eq (tl_m38 D) (jx_mem [8, 16, 24, 35, 46, 69, 72, 85, 88, 95, 108, 129, 150, 171, 214, 215]) 137 _ _ _ _).trans rfl
set_option maxRecDepth 1000000 in
set_option maxHeartbeats 4000000 in
theorem e38_85 (D : jx_D) (s0 : Int32) (h : jx_H) : F38_85 D s0 h = F38_88 D (jx_sI h 14 0 6 s0) := (jx_it_eq (tl_m38 D) (jx_mem [8, 16, 24, 35, 46, 69, 72, 85, 88, 95, 108, 129, 150, 171, 214, 215]) 137 _ _ _ _).trans rfl
set_option maxRecDepth 1000000 in
set_option maxHeartbeats 4000000 in
theorem e38_88 (D : jx_D) (h : jx_H) : F38_88 D h = (jx_bV (D 39 [vr 14 0, vr 1 0] h) fun h1 => F38_95 D (1 : Int32) h1) := (jx_it_eq (tl_m38 D) (jx_mem [8, 16, 24, 35, 46, 69, 72, 85, 88, 95, 108, 129, 150, 171, 214, 215]) 137 _ _ _ _).trans rfl
set_option maxRecDepth 1000000 in
set_option maxHeartbeats 4000000 in
theorem e38_95 (D : jx_D) (x2 : Int32) (h : jx_H) : F38_95 D x2 h = (jx_if (x2 ≤ (h.1 14 0 3)) (F38_108 D x2 (x2 &&& (-x2)) h) (some ([], h))) := (jx_it_eq (tl_m38 D) (jx_mem [8, 16, 24, 35, 46, 69, 72, 85, 88, 95, 108, 129, 150, 171, 214, 215]) 137 _ _ _ _).trans rfl
set_option maxRecDepth 1000000 in
set_option maxHeartbeats 4000000 in
theorem e38_108 (D : jx_D) (x2 : Int32) (x3 : Int32) (h : jx_H) : F38_108 D x2 x3 h = (jx_if (jx_in x3 256) ((jx_if (jx_in (x2 ^^^ x3) 256) ((jx_if (jx_in x2 256) (F38_129 D x2 x3 (jx_sI h 15 0 x2.toNatClampNeg ((h.1 15 0 x3.toNatClampNeg) ||| (h.1 15 0 ((x2 ^^^ x3).toNatClampNeg))))) none)) none)) none) := (jx_it_eq (tl_m38 D) (jx_mem [8, 16, 24, 35, 46, 69, 72, 85, 88, 95, 108, 129, 150, 171, 214, 215]) 137 _ _ _ _).trans rfl
set_option maxRecDepth 1000000 in
set_option maxHeartbeats 4000000 in
theorem e38_129 (D : jx_D) (x2 : Int32) (x3 : Int32) (h : jx_H) : F38_129 D x2 x3 h = (jx_if (jx_in x3 256) ((jx_if (jx_in (x2 ^^^ x3) 256) ((jx_if (jx_in x2 256) (F38_150 D x2 x3 (jx_sI h 16 0 x2.toNatClampNeg ((h.1 16 0 x3.toNatClampNeg) ||| (h.1 16 0 ((x2 ^^^ x3).toNatClampNeg))))) none)) none)) none) := (jx_it_eq (tl_m38 D) (jx_mem [8, 16, 24, 35, 46, 69, 72, 85, 88, 95, 108, 129, 150, 171, 214, 215]) 137 _ _ _ _).trans rfl
set_option maxRecDepth 1000000 in
set_option maxHeartbeats 4000000 in
theorem e38_150 (D : jx_D) (x2 : Int32) (x3 : Int32) (h : jx_H) : F38_150 D x2 x3 h = (jx_if (jx_in x3 256) ((jx_if (jx_in (x2 ^^^ x3) 256) ((jx_if (jx_in x2 256) (F38_171 D x2 (jx_sI h 17 0 x2.toNatClampNeg ((h.1 17 0 x3.toNatClampNeg) ||| (h.1 17 0 ((x2 ^^^ x3).toNatClampNeg))))) none)) none)) none) := (jx_it_eq (tl_m38 D) (jx_mem [8, 16, 24, 35, 46, 69, 72, 85, 88, 95, 108, 129, 150, 171, 214, 215]) 137 _ _ _ _).trans rfl
set_option maxRecDepth 1000000 in
set_option maxHeartbeats 4000000 in
theorem e38_171 (D : jx_D) (x2 : Int32) (h : jx_H) : F38_171 D x2 h = (jx_if ((h.1 14 0 2) = 0) ((jx_if (jx_in x2 256) ((jx_if (jx_in x2 256) (F38_214 D x2 ((h.1 15 0 x2.toNatClampNeg) ^^^ (h.1 16 0 x2.toNatClampNeg)) x2 h) none)) none)) ((jx_if (jx_in x2 256) ((jx_if (jx_in x2 256) (F38_214 D x2 ((h.1 15 0 x2.toNatClampNeg) &&& ((h.1 16 0 x2.toNatClampNeg) ^^^ ((-1) : Int32))) x2 h) none)) none))) := (jx_it_eq (tl_m38 D) (jx_mem [8, 16, 24, 35, 46, 69, 72, 85, 88, 95, 108, 129, 150, 171, 214, 215]) 137 _ _ _ _).trans rfl
set_option maxRecDepth 1000000 in
set_option maxHeartbeats 4000000 in
theorem e38_214 (D : jx_D) (x2 : Int32) (s0 : Int32) (s1 : Int32) (h : jx_H) : F38_214 D x2 s0 s1 h = (jx_if (jx_in s1 256) (F38_215 D x2 (jx_sI h 18 0 s1.toNatClampNeg s0)) none) := (jx_it_eq (tl_m38 D) (jx_mem [8, 16, 24, 35, 46, 69, 72, 85, 88, 95, 108, 129, 150, 171, 214, 215]) 137 _ _ _ _).trans rfl
set_option maxRecDepth 1000000 in
set_option maxHeartbeats 4000000 in
theorem e38_215 (D : jx_D) (x2 : Int32) (h : jx_H) : F38_215 D x2 h = F38_95 D (x2 + 1) h := (jx_it_eq (tl_m38 D) (jx_mem [8, 16, 24, 35, 46, 69, 72, 85, 88, 95, 108, 129, 150, 171, 214, 215]) 137 _ _ _ _).trans rfl
noncomputable def F39_0 (D : jx_D) (h : jx_H) : Option jx_R := jx_den (jx_look (tb_39 D)) (jx_nms mk_39) 0 [vr 14 0, vr 1 0, vn, vn, vn] [] h
noncomputable def F39_2 (D : jx_D) (x2 : Int32) (h : jx_H) : Option jx_R := jx_den (jx_look (tb_39 D)) (jx_nms mk_39) 2 [vr 14 0, vr 1 0, vi x2, vn, vn] [] h
noncomputable def F39_19 (D : jx_D) (x2 : Int32) (h : jx_H) : Option jx_R := jx_den (jx_look (tb_39 D)) (jx_nms mk_39) 19 [vr 14 0, vr 1 0, vi x2, vn, vn] [] h
noncomputable def F39_45 (D : jx_D) (x2 : Int32) (h : jx_H) : Option jx_R := jx_den (jx_look (tb_39 D)) (jx_nms mk_39) 45 [vr 14 0, vr 1 0, vi x2, vn, vn] [] h
noncomputable def F39_28 (D : jx_D) (x2 : Int32) (h : jx_H) : Option jx_R := jx_den (jx_look (tb_39 D)) (jx_nms mk_39) 28 [vr 14 0, vr 1 0, vi x2, vn, vn] [] h
noncomputable def F39_62 (D : jx_D) (x2 : Int32) (x3 : Int32) (h : jx_H) : Option jx_R := jx_den (jx_look (tb_39 D)) (jx_nms mk_39) 62 [vr 14 0, vr 1 0, vi x2, vi x3, vn] [] h
noncomputable def F39_37 (D : jx_D) (x2 : Int32) (h : jx_H) : Option jx_R := jx_den (jx_look (tb_39 D)) (jx_nms mk_39) 37 [vr 14 0, vr 1 0, vi x2, vn, vn] [] h
noncomputable def F39_72 (D : jx_D) (x2 : Int32) (x3 : Int32) (x4 : Int32) (h : jx_H) : Option jx_R := jx_den (jx_look (tb_39 D)) (jx_nms mk_39) 72 [vr 14 0, vr 1 0, vi x2, vi x3, vi x4] [] h
noncomputable def F39_84 (D : jx_D) (x2 : Int32) (x3 : Int32) (x4 : Int32) (h : jx_H) : Option jx_R := jx_den (jx_look (tb_39 D)) (jx_nms mk_39) 84 [vr 14 0, vr 1 0, vi x2, vi x3, vi x4] [] h
noncomputable def F39_97 (D : jx_D) (x2 : Int32) (x3 : Int32) (x4 : Int32) (h : jx_H) : Option jx_R := jx_den (jx_look (tb_39 D)) (jx_nms mk_39) 97 [vr 14 0, vr 1 0, vi x2, vi x3, vi x4] [] h
noncomputable def F39_108 (D : jx_D) (x2 : Int32) (x3 : Int32) (x4 : Int32) (h : jx_H) : Option jx_R := jx_den (jx_look (tb_39 D)) (jx_nms mk_39) 108 [vr 14 0, vr 1 0, vi x2, vi x3, vi x4] [] h
noncomputable def F39_126 (D : jx_D) (x2 : Int32) (h : jx_H) : Option jx_R := jx_den (jx_look (tb_39 D)) (jx_nms mk_39) 126 [vr 14 0, vr 1 0, vi x2, vn, vn] [] h
set_option maxRecDepth 1000000 in
set_option maxHeartbeats 4000000 in
theorem e39_0 (D : jx_D) (h : jx_H) : F39_0 D h = F39_2 D (0 : Int32) h := (jx_it_eq (tl_m39 D) (jx_mem [2, 19, 28, 37, 45, 62, 72, 84, 97, 108, 126]) 94 _ _ _ _).trans rfl
set_option maxRecDepth 1000000 in
set_option maxHeartbeats 4000000 in
theorem e39_2 (D : jx_D) (x2 : Int32) (h : jx_H) : F39_2 D x2 h = (jx_if (x2 < (h.1 14 0 0)) ((jx_if (jx_in ((1 : Int32) <<< (x2 &&& 31)) 256) (F39_19 D x2 (jx_sI h 15 0 (((1 : Int32) <<< (x2 &&& 31)).toNatClampNeg) (0 : Int32))) none)) (F39_45 D (0 : Int32) h)) := (jx_it_eq (tl_m39 D) (jx_mem [2, 19, 28, 37, 45, 62, 72, 84, 97, 108, 126]) 94 _ _ _ _).trans rfl
set_option maxRecDepth 1000000 in
set_option maxHeartbeats 4000000 in
theorem e39_19 (D : jx_D) (x2 : Int32) (h : jx_H) : F39_19 D x2 h = (jx_if (jx_in ((1 : Int32) <<< (x2 &&& 31)) 256) (F39_28 D x2 (jx_sI h 16 0 (((1 : Int32) <<< (x2 &&& 31)).toNatClampNeg) (0 : Int32))) none) := (jx_it_eq (tl_m39 D) (jx_mem [2, 19, 28, 37, 45, 62, 72, 84, 97, 108, 126]) 94 _ _ _ _).trans rfl
set_option maxRecDepth 1000000 in
set_option maxHeartbeats 4000000 in
theorem e39_45 (D : jx_D) (x2 : Int32) (h : jx_H) : F39_45 D x2 h = (jx_if (x2 < (h.1 14 0 1)) ((jx_if (jx_in x2 20) (F39_62 D x2 ((1 : Int32) <<< ((h.1 2 0 x2.toNatClampNeg) &&& 31)) h) none)) (some ([], h))) := (jx_it_eq (tl_m39 D) (jx_mem [2, 19, 28, 37, 45, 62, 72, 84, 97, 108, 126]) 94 _ _ _ _).trans rfl
set_option maxRecDepth 1000000 in
set_option maxHeartbeats 4000000 in
theorem e39_28 (D : jx_D) (x2 : Int32) (h : jx_H) : F39_28 D x2 h = (jx_if (jx_in ((1 : Int32) <<< (x2 &&& 31)) 256) (F39_37 D x2 (jx_sI h 17 0 (((1 : Int32) <<< (x2 &&& 31)).toNatClampNeg) (0 : Int32))) none) := (jx_it_eq (tl_m39 D) (jx_mem [2, 19, 28, 37, 45, 62, 72, 84, 97, 108, 126]) 94 _ _ _ _).trans rfl
set_option maxRecDepth 1000000 in
set_option maxHeartbeats 4000000 in
theorem e39_62 (D : jx_D) (x2 : Int32) (x3 : Int32) (h : jx_H) : F39_62 D x2 x3 h = (jx_if (jx_in x2 20) (F39_72 D x2 x3 ((1 : Int32) <<< ((h.1 3 0 x2.toNatClampNeg) &&& 31)) h) none) := (jx_it_eq (tl_m39 D) (jx_mem [2, 19, 28, 37, 45, 62, 72, 84, 97, 108, 126]) 94 _ _ _ _).trans rfl
set_option maxRecDepth 1000000 in
set_option maxHeartbeats 4000000 in
theorem e39_37 (D : jx_D) (x2 : Int32) (h : jx_H) : F39_37 D x2 h = F39_2 D (x2 + 1) h := (jx_it_eq (tl_m39 D) (jx_mem [2, 19, 28, 37, 45, 62, 72, 84, 97, 108, 126]) 94 _ _ _ _).trans rfl
set_option maxRecDepth 1000000 in
set_option maxHeartbeats 4000000 in
theorem e39_72 (D : jx_D) (x2 : Int32) (x3 : Int32) (x4 : Int32) (h : jx_H) : F39_72 D x2 x3 x4 h = (jx_if (jx_in x3 256) ((jx_if (jx_in x3 256) (F39_84 D x2 x3 x4 (jx_sI h 15 0 x3.toNatClampNeg ((h.1 15 0 x3.toNatClampNeg) ||| ((1 : Int32) <<< (x2 &&& 31))))) none)) none) := (jx_it_eq (tl_m39 D) (jx_mem [2, 19, 28, 37, 45, 62, 72, 84, 97, 108, 126]) 94 _ _ _ _).trans rfl
set_option maxRecDepth 1000000 in
set_option maxHeartbeats 4000000 in
theorem e39_84 (D : jx_D) (x2 : Int32) (x3 : Int32) (x4 : Int32) (h : jx_H) : F39_84 D x2 x3 x4 h = (jx_if (jx_in x4 256) ((jx_if (jx_in x4 256) (F39_97 D x2 x3 x4 (jx_sI h 16 0 x4.toNatClampNeg ((h.1 16 0 x4.toNatClampNeg) ||| ((1 : Int32) <<< (x2 &&& 31))))) none)) none) := (jx_it_eq (tl_m39 D) (jx_mem [2, 19, 28, 37, 45, 62, 72, 84, 97, 108, 126]) 94 _ _ _ _).trans rfl
set_option maxRecDepth 1000000 in
set_option maxHeartbeats 4000000 in
theorem e39_97 (D : jx_D) (x2 : Int32) (x3 : Int32) (x4 : Int32) (h : jx_H) : F39_97 D x2 x3 x4 h = (jx_if (jx_in x3 256) ((jx_if (jx_in x3 256) (F39_108 D x2 x3 x4 (jx_sI h 17 0 x3.toNatClampNeg ((h.1 17 0 x3.toNatClampNeg) ||| x4))) none)) none) := (jx_it_eq (tl_m39 D) (jx_mem [2, 19, 28, 37, 45, 62, 72, 84, 97, 108, 126]) 94 _ _ _ _).trans rfl
set_option maxRecDepth 1000000 in
set_option maxHeartbeats 4000000 in
theorem e39_108 (D : jx_D) (x2 : Int32) (x3 : Int32) (x4 : Int32) (h : jx_H) : F39_108 D x2 x3 x4 h = (jx_if ((h.1 14 0 2) = 0) ((jx_if (jx_in x4 256) ((jx_if (jx_in x4 256) (F39_126 D x2 (jx_sI h 17 0 x4.toNatClampNeg ((h.1 17 0 x4.toNatClampNeg) ||| x3))) none)) none)) (F39_126 D x2 h)) := (jx_it_eq (tl_m39 D) (jx_mem [2, 19, 28, 37, 45, 62, 72, 84, 97, 108, 126]) 94 _ _ _ _).trans rfl
set_option maxRecDepth 1000000 in
set_option maxHeartbeats 4000000 in
theorem e39_126 (D : jx_D) (x2 : Int32) (h : jx_H) : F39_126 D x2 h = F39_45 D (x2 + 1) h := (jx_it_eq (tl_m39 D) (jx_mem [2, 19, 28, 37, 45, 62, 72, 84, 97, 108, 126]) 94 _ _ _ _).trans rfl
noncomputable def F40_0 (D : jx_D) (x1 : Int32) (x2 : Int32) (h : jx_H) : Option jx_R := jx_den (jx_look (tb_40 D)) (jx_nms mk_40) 0 [vr 14 0, vi x1, vi x2, vn, vn] [] h
noncomputable def F40_8 (D : jx_D) (x1 : Int32) (x2 : Int32) (x3 : Int32) (x4 : Int32) (h : jx_H) : Option jx_R := jx_den (jx_look (tb_40 D)) (jx_nms mk_40) 8 [vr 14 0, vi x1, vi x2, vi x3, vi x4] [] h
noncomputable def F40_50 (D : jx_D) (x1 : Int32) (x2 : Int32) (x3 : Int32) (x4 : Int32) (h : jx_H) : Option jx_R := jx_den (jx_look (tb_40 D)) (jx_nms mk_40) 50 [vr 14 0, vi x1, vi x2, vi x3, vi x4] [] h
set_option maxRecDepth 1000000 in
set_option maxHeartbeats 4000000 in
theorem e40_0 (D : jx_D) (x1 : Int32) (x2 : Int32) (h : jx_H) : F40_0 D x1 x2 h = F40_8 D x1 x2 (h.1 14 0 1) (1 : Int32) h := (jx_it_eq (tl_m40 D) (jx_mem [8, 50]) 32 _ _ _ _).trans rfl
set_option maxRecDepth 1000000 in
set_option maxHeartbeats 4000000 in
theorem e40_8 (D : jx_D) (x1 : Int32) (x2 : Int32) (x3 : Int32) (x4 : Int32) (h : jx_H) : F40_8 D x1 x2 x3 x4 h = (jx_if (x4 < (h.1 14 0 3)) ((jx_bI (D 19 [vi x4, vi x1] h) fun y1 h1 => (jx_if (y1 = 0) (F40_50 D x1 x2 x3 x4 h1) ((jx_bI (D 19 [vi x4, vi x2] h1) fun y2 h2 => (jx_if (y2 = 0) ((jx_if (jx_in x4 256) ((jx_bI (D 1 [vi (h2.1 18 0 x4.toNatClampNeg)] h2) fun y3 h3 => F40_50 D x1 x2 (jx_mn x3 y3) x4 h3)) none)) (F40_50 D x1 x2 x3 x4 h2))))))) (some ([vi x3], h))) := (jx_it_eq (tl_m40 D) (jx_mem [8, 50]) 32 _ _ _ _).trans rfl
set_option maxRecDepth 1000000 in
set_option maxHeartbeats 4000000 in
theorem e40_50 (D : jx_D) (x1 : Int32) (x2 : Int32) (x3 : Int32) (x4 : Int32) (h : jx_H) : F40_50 D x1 x2 x3 x4 h = F40_8 D x1 x2 x3 (x4 + 1) h := (jx_it_eq (tl_m40 D) (jx_mem [8, 50]) 32 _ _ _ _).trans rfl
noncomputable def F41_0 (D : jx_D) (x1 : Int32) (x2 : Int32) (h : jx_H) : Option jx_R := jx_den (jx_look (tb_41 D)) (jx_nms mk_41) 0 [vr 0 0, vi x1, vi x2, vn] [] h
set_option maxRecDepth 1000000 in
set_option maxHeartbeats 4000000 in
theorem e41_0 (D : jx_D) (x1 : Int32) (x2 : Int32) (h : jx_H) : F41_0 D x1 x2 h = (jx_bI (D 11 [vr 0 0, vi x1, vi x2] h) fun y1 h1 => (jx_if (y1 = 0) ((jx_bV (D 38 [vr 14 0, vr 1 0] h1) fun h2 => (jx_bI (D 42 [vr 14 0, vi x1, vi x2] h2) fun y3 h3 => some ([vi y3], h3)))) ((jx_bI (D 8 [vr 0 0, vi y1] h1) fun y4 h4 => some ([vi y4], h4))))) := (jx_it_eq (tl_m41 D) (jx_mem []) 25 _ _ _ _).trans rfl
noncomputable def F42_0 (D : jx_D) (x1 : Int32) (x2 : Int32) (h : jx_H) : Option jx_R := jx_den (jx_look (tb_42 D)) (jx_nms mk_42) 0 [vr 14 0, vi x1, vi x2, vn, vn, vn] [] h
noncomputable def F42_16 (D : jx_D) (x1 : Int32) (x2 : Int32) (x3 : Int32) (x4 : Int32) (x5 : Int32) (h : jx_H) : Option jx_R := jx_den (jx_look (tb_42 D)) (jx_nms mk_42) 16 [vr 14 0, vi x1, vi x2, vi x3, vi x4, vi x5] [] h
noncomputable def F42_64 (D : jx_D) (x1 : Int32) (x2 : Int32) (x3 : Int32) (x4 : Int32) (x5 : Int32) (h : jx_H) : Option jx_R := jx_den (jx_look (tb_42 D)) (jx_nms mk_42) 64 [vr 14 0, vi x1, vi x2, vi x3, vi x4, vi x5] [] h
set_option maxRecDepth 1000000 in
set_option maxHeartbeats 4000000 in
theorem e42_0 (D : jx_D) (x1 : Int32) (x2 : Int32) (h : jx_H) : F42_0 D x1 x2 h = (jx_bI (D 40 [vr 14 0, vi x1, vi x2] h) fun y1 h1 => F42_16 D x1 x2 y1 (h1.1 14 0 3) (1 : Int32) h1) := (jx_it_eq (tl_m42 D) (jx_mem [16, 64]) 40 _ _ _ _).trans rfl
set_option maxRecDepth 1000000 in
set_option maxHeartbeats 4000000 in
theorem e42_16 (D : jx_D) (x1 : Int32) (x2 : Int32) (x3 : Int32) (x4 : Int32) (x5 : Int32) (h : jx_H) : F42_16 D x1 x2 x3 x4 x5 h = (jx_if (x5 < (h.1 14 0 3)) ((jx_bI (D 19 [vi x5, vi x1] h) fun y1 h1 => (jx_if (y1 = 0) (F42_64 D x1 x2 x3 x4 x5 h1) ((jx_bI (D 19 [vi x5, vi x2] h1) fun y2 h2 => (jx_if (y2 = 0) ((jx_if (jx_in x5 256) ((jx_bI (D 1 [vi (h2.1 18 0 x5.toNatClampNeg)] h2) fun y3 h3 => (jx_if (y3 = x3) (F42_64 D x1 x2 x3 (x4 &&& x5) x5 h3) (F42_64 D x1 x2 x3 x4 x5 h3)))) none)) (F42_64 D x1 x2 x3 x4 x5 h2))))))) (some ([vi x4], h))) := (jx_it_eq (tl_m42 D) (jx_mem [16, 64]) 40 _ _ _ _).trans rfl
set_option maxRecDepth 1000000 in
set_option maxHeartbeats 4000000 in
theorem e42_64 (D : jx_D) (x1 : Int32) (x2 : Int32) (x3 : Int32) (x4 : Int32) (x5 : Int32) (h : jx_H) : F42_64 D x1 x2 x3 x4 x5 h = F42_16 D x1 x2 x3 x4 (x5 + 1) h := (jx_it_eq (tl_m42 D) (jx_mem [16, 64]) 40 _ _ _ _).trans rfl
noncomputable def F43_0 (D : jx_D) (h : jx_H) : Option jx_R := jx_den (jx_look (tb_43 D)) (jx_nms mk_43) 0 [vr 0 0] [] h
set_option maxRecDepth 1000000 in
set_option maxHeartbeats 4000000 in
theorem e43_0 (D : jx_D) (h : jx_H) : F43_0 D h = (jx_bV (D 38 [vr 14 0, vr 1 0] h) fun h1 => (jx_bI (D 44 [vr 14 0, vi (h1.1 14 0 4)] h1) fun y2 h2 => some ([vi y2], h2))) := (jx_it_eq (tl_m43 D) (jx_mem []) 15 _ _ _ _).trans rfl
noncomputable def F44_0 (D : jx_D) (x1 : Int32) (h : jx_H) : Option jx_R := jx_den (jx_look (tb_44 D)) (jx_nms mk_44) 0 [vr 14 0, vi x1, vn, vn] [] h
noncomputable def F44_17 (D : jx_D) (x1 : Int32) (x2 : Int32) (x3 : Int32) (h : jx_H) : Option jx_R := jx_den (jx_look (tb_44 D)) (jx_nms mk_44) 17 [vr 14 0, vi x1, vi x2, vi x3] [] h
noncomputable def F44_46 (D : jx_D) (x1 : Int32) (x2 : Int32) (x3 : Int32) (h : jx_H) : Option jx_R := jx_den (jx_look (tb_44 D)) (jx_nms mk_44) 46 [vr 14 0, vi x1, vi x2, vi x3] [] h
set_option maxRecDepth 1000000 in
set_option maxHeartbeats 4000000 in
theorem e44_0 (D : jx_D) (x1 : Int32) (h : jx_H) : F44_0 D x1 h = (jx_if ((h.1 14 0 0) < (2 : Int32)) (some ([vi (0 : Int32)], h)) (F44_17 D x1 (h.1 14 0 1) (1 : Int32) h)) := (jx_it_eq (tl_m44 D) (jx_mem [17, 46]) 35 _ _ _ _).trans rfl
set_option maxRecDepth 1000000 in
set_option maxHeartbeats 4000000 in
theorem e44_17 (D : jx_D) (x1 : Int32) (x2 : Int32) (x3 : Int32) (h : jx_H) : F44_17 D x1 x2 x3 h = (jx_if (x3 < (h.1 14 0 5)) ((jx_if (jx_in (x3 <<< ((h.1 14 0 6) &&& 31)) 256) ((jx_bI (D 1 [vi ((h.1 18 0 ((x3 <<< ((h.1 14 0 6) &&& 31)).toNatClampNeg)) &&& x1)] h) fun y1 h1 => F44_46 D x1 (jx_mn x2 y1) x3 h1)) none)) (some ([vi x2], h))) := (jx_it_eq (tl_m44 D) (jx_mem [17, 46]) 35 _ _ _ _).trans rfl
set_option maxRecDepth 1000000 in
set_option maxHeartbeats 4000000 in
theorem e44_46 (D : jx_D) (x1 : Int32) (x2 : Int32) (x3 : Int32) (h : jx_H) : F44_46 D x1 x2 x3 h = F44_17 D x1 x2 (x3 + 1) h := (jx_it_eq (tl_m44 D) (jx_mem [17, 46]) 35 _ _ _ _).trans rfl
noncomputable def F45_0 (D : jx_D) (x1 : Int32) (h : jx_H) : Option jx_R := jx_den (jx_look (tb_45 D)) (jx_nms mk_45) 0 [vr 0 0, vi x1, vn, vn] [] h
noncomputable def F45_64 (D : jx_D) (s0 : Int32) (h : jx_H) : Option jx_R := jx_den (jx_look (tb_45 D)) (jx_nms mk_45) 64 [vn, vn, vn, vn] [vi s0] h
set_option maxRecDepth 1000000 in
set_option maxHeartbeats 4000000 in
theorem e45_0 (D : jx_D) (x1 : Int32) (h : jx_H) : F45_0 D x1 h = (jx_bV (D 38 [vr 14 0, vr 1 0] h) fun h1 => (jx_bI (D 44 [vr 14 0, vi (h1.1 14 0 4)] h1) fun y2 h2 => (jx_if (x1 = ((-1) : Int32)) ((jx_bI (D 46 [vr 14 0, vi y2] h2) fun y3 h3 => some ([vi y3], h3))) ((jx_bI (D 47 [vr 14 0, vi y2, vi x1] h2) fun y4 h4 => (jx_if (y4 = 0) ((jx_bI (D 8 [vr 0 0, vi ((-6) : Int32)] h4) fun y5 h5 => F45_64 D y5 h5)) (F45_64 D y4 h4))))))) := (jx_it_eq (tl_m45 D) (jx_mem [64]) 37 _ _ _ _).trans rfl
set_option maxRecDepth 1000000 in
set_option maxHeartbeats 4000000 in
theorem e45_64 (D : jx_D) (s0 : Int32) (h : jx_H) : F45_64 D s0 h = some ([vi s0], h) := (jx_it_eq (tl_m45 D) (jx_mem [64]) 37 _ _ _ _).trans rfl
noncomputable def F46_0 (D : jx_D) (x1 : Int32) (h : jx_H) : Option jx_R := jx_den (jx_look (tb_46 D)) (jx_nms mk_46) 0 [vr 14 0, vi x1, vn, vn] [] h
noncomputable def F46_4 (D : jx_D) (x1 : Int32) (x2 : Int32) (x3 : Int32) (h : jx_H) : Option jx_R := jx_den (jx_look (tb_46 D)) (jx_nms mk_46) 4 [vr 14 0, vi x1, vi x2, vi x3] [] h
noncomputable def F46_33 (D : jx_D) (x1 : Int32) (x2 : Int32) (x3 : Int32) (h : jx_H) : Option jx_R := jx_den (jx_look (tb_46 D)) (jx_nms mk_46) 33 [vr 14 0, vi x1, vi x2, vi x3] [] h
set_option maxRecDepth 1000000 in
set_option maxHeartbeats 4000000 in
theorem e46_0 (D : jx_D) (x1 : Int32) (h : jx_H) : F46_0 D x1 h = F46_4 D x1 (0 : Int32) (1 : Int32) h := (jx_it_eq (tl_m46 D) (jx_mem [4, 33]) 26 _ _ _ _).trans rfl
set_option maxRecDepth 1000000 in
set_option maxHeartbeats 4000000 in
theorem e46_4 (D : jx_D) (x1 : Int32) (x2 : Int32) (x3 : Int32) (h : jx_H) : F46_4 D x1 x2 x3 h = (jx_if (x3 < (h.1 14 0 5)) ((jx_if (jx_in (x3 <<< ((h.1 14 0 6) &&& 31)) 256) ((jx_bI (D 1 [vi (h.1 18 0 ((x3 <<< ((h.1 14 0 6) &&& 31)).toNatClampNeg))] h) fun y1 h1 => (jx_if (y1 = x1) (F46_33 D x1 (x2 + 1) x3 h1) (F46_33 D x1 x2 x3 h1)))) none)) (some ([vi x2], h))) := (jx_it_eq (tl_m46 D) (jx_mem [4, 33]) 26 _ _ _ _).trans rfl
set_option maxRecDepth 1000000 in
set_option maxHeartbeats 4000000 in
theorem e46_33 (D : jx_D) (x1 : Int32) (x2 : Int32) (x3 : Int32) (h : jx_H) : F46_33 D x1 x2 x3 h = F46_4 D x1 x2 (x3 + 1) h := (jx_it_eq (tl_m46 D) (jx_mem [4, 33]) 26 _ _ _ _).trans rfl
noncomputable def F47_0 (D : jx_D) (x1 : Int32) (x2 : Int32) (h : jx_H) : Option jx_R := jx_den (jx_look (tb_47 D)) (jx_nms mk_47) 0 [vr 14 0, vi x1, vi x2, vn, vn, vn] [] h
noncomputable def F47_5 (D : jx_D) (x1 : Int32) (x2 : Int32) (x3 : Int32) (x4 : Int32) (h : jx_H) : Option jx_R := jx_den (jx_look (tb_47 D)) (jx_nms mk_47) 5 [vr 14 0, vi x1, vi x2, vi x3, vi x4, vn] [] h
noncomputable def F47_23 (D : jx_D) (x1 : Int32) (x2 : Int32) (x3 : Int32) (x4 : Int32) (x5 : Int32) (h : jx_H) : Option jx_R := jx_den (jx_look (tb_47 D)) (jx_nms mk_47) 23 [vr 14 0, vi x1, vi x2, vi x3, vi x4, vi x5] [] h
noncomputable def F47_48 (D : jx_D) (x1 : Int32) (x2 : Int32) (x3 : Int32) (x4 : Int32) (h : jx_H) : Option jx_R := jx_den (jx_look (tb_47 D)) (jx_nms mk_47) 48 [vr 14 0, vi x1, vi x2, vi x3, vi x4, vn] [] h
set_option maxRecDepth 1000000 in
set_option maxHeartbeats 4000000 in
theorem e47_0 (D : jx_D) (x1 : Int32) (x2 : Int32) (h : jx_H) : F47_0 D x1 x2 h = F47_5 D x1 x2 (0 : Int32) (1 : Int32) h := (jx_it_eq (tl_m47 D) (jx_mem [5, 23, 48]) 33 _ _ _ _).trans rfl
set_option maxRecDepth 1000000 in
set_option maxHeartbeats 4000000 in
theorem e47_5 (D : jx_D) (x1 : Int32) (x2 : Int32) (x3 : Int32) (x4 : Int32) (h : jx_H) : F47_5 D x1 x2 x3 x4 h = (jx_if (x4 < (h.1 14 0 5)) (F47_23 D x1 x2 x3 x4 (x4 <<< ((h.1 14 0 6) &&& 31)) h) (some ([vi (0 : Int32)], h))) := (jx_it_eq (tl_m47 D) (jx_mem [5, 23, 48]) 33 _ _ _ _).trans rfl
set_option maxRecDepth 1000000 in
set_option maxHeartbeats 4000000 in
theorem e47_23 (D : jx_D) (x1 : Int32) (x2 : Int32) (x3 : Int32) (x4 : Int32) (x5 : Int32) (h : jx_H) : F47_23 D x1 x2 x3 x4 x5 h = (jx_if (jx_in x5 256) ((jx_bI (D 1 [vi (h.1 18 0 x5.toNatClampNeg)] h) fun y1 h1 => (jx_if (y1 = x1) ((jx_if (x3 = x2) (some ([vi x5], h1)) (F47_48 D x1 x2 (x3 + 1) x4 h1))) (F47_48 D x1 x2 x3 x4 h1)))) none) := (jx_it_eq (tl_m47 D) (jx_mem [5, 23, 48]) 33 _ _ _ _).trans rfl
set_option maxRecDepth 1000000 in
set_option maxHeartbeats 4000000 in
theorem e47_48 (D : jx_D) (x1 : Int32) (x2 : Int32) (x3 : Int32) (x4 : Int32) (h : jx_H) : F47_48 D x1 x2 x3 x4 h = F47_5 D x1 x2 x3 (x4 + 1) h := (jx_it_eq (tl_m47 D) (jx_mem [5, 23, 48]) 33 _ _ _ _).trans rfl
noncomputable def F48_0 (D : jx_D) (x1 : Int32) (x2 : Int32) (h : jx_H) : Option jx_R := jx_den (jx_look (tb_48 D)) (jx_nms mk_48) 0 [vr 0 0, vi x1, vi x2, vn] [] h
set_option maxRecDepth 1000000 in
set_option maxHeartbeats 4000000 in
theorem e48_0 (D : jx_D) (x1 : Int32) (x2 : Int32) (h : jx_H) : F48_0 D x1 x2 h = (jx_bI (D 11 [vr 0 0, vi x1, vi x2] h) fun y1 h1 => (jx_if (y1 = 0) ((jx_bV (D 38 [vr 14 0, vr 1 0] h1) fun h2 => (jx_bI (D 49 [vr 14 0, vi x1, vi x2] h2) fun y3 h3 => some ([vi y3], h3)))) ((jx_bI (D 8 [vr 0 0, vi y1] h1) fun y4 h4 => some ([vi y4], h4))))) := (jx_it_eq (tl_m48 D) (jx_mem []) 25 _ _ _ _).trans rfl
noncomputable def F49_0 (D : jx_D) (x1 : Int32) (x2 : Int32) (h : jx_H) : Option jx_R := jx_den (jx_look (tb_49 D)) (jx_nms mk_49) 0 [vr 14 0, vi x1, vi x2, vn, vn, vn, vn, vn] [] h
noncomputable def F49_4 (D : jx_D) (x2 : Int32) (x3 : Int32) (h : jx_H) : Option jx_R := jx_den (jx_look (tb_49 D)) (jx_nms mk_49) 4 [vr 14 0, vn, vi x2, vi x3, vn, vn, vn, vn] [] h
noncomputable def F49_9 (D : jx_D) (x3 : Int32) (x4 : Int32) (h : jx_H) : Option jx_R := jx_den (jx_look (tb_49 D)) (jx_nms mk_49) 9 [vr 14 0, vn, vn, vi x3, vi x4, vn, vn, vn] [] h
noncomputable def F49_18 (D : jx_D) (x3 : Int32) (x4 : Int32) (x5 : Int32) (x6 : Int32) (h : jx_H) : Option jx_R := jx_den (jx_look (tb_49 D)) (jx_nms mk_49) 18 [vr 14 0, vn, vn, vi x3, vi x4, vi x5, vi x6, vn] [] h
noncomputable def F49_93 (D : jx_D) (x3 : Int32) (x4 : Int32) (x5 : Int32) (x6 : Int32) (h : jx_H) : Option jx_R := jx_den (jx_look (tb_49 D)) (jx_nms mk_49) 93 [vr 14 0, vn, vn, vi x3, vi x4, vi x5, vi x6, vn] [] h
noncomputable def F49_73 (D : jx_D) (x3 : Int32) (x4 : Int32) (x5 : Int32) (x6 : Int32) (x7 : Int32) (h : jx_H) : Option jx_R := jx_den (jx_look (tb_49 D)) (jx_nms mk_49) 73 [vr 14 0, vn, vn, vi x3, vi x4, vi x5, vi x6, vi x7] [] h
set_option maxRecDepth 1000000 in
set_option maxHeartbeats 4000000 in
theorem e49_0 (D : jx_D) (x1 : Int32) (x2 : Int32) (h : jx_H) : F49_0 D x1 x2 h = F49_4 D x2 ((1 : Int32) <<< (x1 &&& 31)) h := (jx_it_eq (tl_m49 D) (jx_mem [4, 9, 18, 73, 93]) 68 _ _ _ _).trans rfl
set_option maxRecDepth 1000000 in
set_option maxHeartbeats 4000000 in
theorem e49_4 (D : jx_D) (x2 : Int32) (x3 : Int32) (h : jx_H) : F49_4 D x2 x3 h = F49_9 D x3 ((1 : Int32) <<< (x2 &&& 31)) h := (jx_it_eq (tl_m49 D) (jx_mem [4, 9, 18, 73, 93]) 68 _ _ _ _).trans rfl
set_option maxRecDepth 1000000 in
set_option maxHeartbeats 4000000 in
theorem e49_9 (D : jx_D) (x3 : Int32) (x4 : Int32) (h : jx_H) : F49_9 D x3 x4 h = F49_18 D x3 x4 (h.1 14 0 0) (1 : Int32) h := (jx_it_eq (tl_m49 D) (jx_mem [4, 9, 18, 73, 93]) 68 _ _ _ _).trans rfl
set_option maxRecDepth 1000000 in
set_option maxHeartbeats 4000000 in
theorem e49_18 (D : jx_D) (x3 : Int32) (x4 : Int32) (x5 : Int32) (x6 : Int32) (h : jx_H) : F49_18 D x3 x4 x5 x6 h = (jx_if (x6 < (h.1 14 0 3)) ((jx_if ((x6 &&& x3) = 0) (F49_93 D x3 x4 x5 x6 h) ((jx_if ((x6 &&& x4) = 0) ((jx_if (jx_in x3 256) ((jx_if (jx_in (x6 ^^^ x3) 256) (F49_73 D x3 x4 x5 x6 ((((h.1 17 0 x3.toNatClampNeg) &&& (x4 ^^^ ((-1) : Int32))) ||| (h.1 17 0 ((x6 ^^^ x3).toNatClampNeg))) &&& (x6 ^^^ ((-1) : Int32))) h) none)) none)) (F49_93 D x3 x4 x5 x6 h))))) ((jx_bI (D 50 [vr 14 0, vi x3, vi x4] h) fun y1 h1 => (jx_bI (D 1 [vi y1] h1) fun y2 h2 => some ([vi (x5 + y2)], h2))))) := (jx_it_eq (tl_m49 D) (jx_mem [4, 9, 18, 73, 93]) 68 _ _ _ _).trans rfl
set_option maxRecDepth 1000000 in
set_option maxHeartbeats 4000000 in
theorem e49_93 (D : jx_D) (x3 : Int32) (x4 : Int32) (x5 : Int32) (x6 : Int32) (h : jx_H) : F49_93 D x3 x4 x5 x6 h = F49_18 D x3 x4 x5 (x6 + 1) h := (jx_it_eq (tl_m49 D) (jx_mem [4, 9, 18, 73, 93]) 68 _ _ _ _).trans rfl
set_option maxRecDepth 1000000 in
set_option maxHeartbeats 4000000 in
theorem e49_73 (D : jx_D) (x3 : Int32) (x4 : Int32) (x5 : Int32) (x6 : Int32) (x7 : Int32) (h : jx_H) : F49_73 D x3 x4 x5 x6 x7 h = (jx_if ((x7 &&& x4) = 0) ((jx_bI (D 1 [vi x7] h) fun y1 h1 => F49_93 D x3 x4 (jx_mn x5 y1) x6 h1)) (F49_93 D x3 x4 x5 x6 h)) := (jx_it_eq (tl_m49 D) (jx_mem [4, 9, 18, 73, 93]) 68 _ _ _ _).trans rfl
noncomputable def F50_0 (D : jx_D) (x1 : Int32) (x2 : Int32) (h : jx_H) : Option jx_R := jx_den (jx_look (tb_50 D)) (jx_nms mk_50) 0 [vr 14 0, vi x1, vi x2, vn] [] h
noncomputable def F50_14 (D : jx_D) (x1 : Int32) (x2 : Int32) (x3 : Int32) (h : jx_H) : Option jx_R := jx_den (jx_look (tb_50 D)) (jx_nms mk_50) 14 [vr 14 0, vi x1, vi x2, vi x3] [] h
noncomputable def F50_40 (D : jx_D) (s0 : Int32) (h : jx_H) : Option jx_R := jx_den (jx_look (tb_50 D)) (jx_nms mk_50) 40 [vn, vn, vn, vn] [vi s0] h
set_option maxRecDepth 1000000 in
set_option maxHeartbeats 4000000 in
theorem e50_0 (D : jx_D) (x1 : Int32) (x2 : Int32) (h : jx_H) : F50_0 D x1 x2 h = (jx_if (jx_in x1 256) ((jx_if (jx_in x2 256) (F50_14 D x1 x2 ((h.1 15 0 x1.toNatClampNeg) &&& (h.1 16 0 x2.toNatClampNeg)) h) none)) none) := (jx_it_eq (tl_m50 D) (jx_mem [14, 40]) 30 _ _ _ _).trans rfl
set_option maxRecDepth 1000000 in
set_option maxHeartbeats 4000000 in
theorem e50_14 (D : jx_D) (x1 : Int32) (x2 : Int32) (x3 : Int32) (h : jx_H) : F50_14 D x1 x2 x3 h = (jx_if ((h.1 14 0 2) = 0) ((jx_if (jx_in x1 256) ((jx_if (jx_in x2 256) (F50_40 D (x3 ||| ((h.1 16 0 x1.toNatClampNeg) &&& (h.1 15 0 x2.toNatClampNeg))) h) none)) none)) (F50_40 D x3 h)) := (jx_it_eq (tl_m50 D) (jx_mem [14, 40]) 30 _ _ _ _).trans rfl
set_option maxRecDepth 1000000 in
set_option maxHeartbeats 4000000 in
theorem e50_40 (D : jx_D) (s0 : Int32) (h : jx_H) : F50_40 D s0 h = some ([vi s0], h) := (jx_it_eq (tl_m50 D) (jx_mem [14, 40]) 30 _ _ _ _).trans rfl
noncomputable def F51_0 (D : jx_D) (x1 : Int32) (x2 : Int32) (h : jx_H) : Option jx_R := jx_den (jx_look (tb_51 D)) (jx_nms mk_51) 0 [vr 0 0, vi x1, vi x2] [] h
noncomputable def F51_13 (D : jx_D) (h : jx_H) : Option jx_R := jx_den (jx_look (tb_51 D)) (jx_nms mk_51) 13 [vr 0 0, vn, vn] [] h
set_option maxRecDepth 1000000 in
set_option maxHeartbeats 4000000 in
theorem e51_0 (D : jx_D) (x1 : Int32) (x2 : Int32) (h : jx_H) : F51_0 D x1 x2 h = (jx_bI (D 12 [vr 0 0, vi x1] h) fun y1 h1 => (jx_if (y1 = 0) ((jx_if (x2 < (1 : Int32)) (F51_13 D h1) ((jx_if ((h1.1 1 0 2) = 0) ((jx_bV (D 38 [vr 14 0, vr 1 0] h1) fun h2 => (jx_bI (D 52 [vr 14 0, vi x1, vi x2] h2) fun y3 h3 => some ([vi y3], h3)))) ((jx_bI (D 8 [vr 0 0, vi ((-8) : Int32)] h1) fun y4 h4 => some ([vi y4], h4))))))) (F51_13 D h1))) := (jx_it_eq (tl_m51 D) (jx_mem [13]) 33 _ _ _ _).trans rfl
set_option maxRecDepth 1000000 in
set_option maxHeartbeats 4000000 in
theorem e51_13 (D : jx_D) (h : jx_H) : F51_13 D h = (jx_bI (D 8 [vr 0 0, vi ((-1) : Int32)] h) fun y1 h1 => some ([vi y1], h1)) := (jx_it_eq (tl_m51 D) (jx_mem [13]) 33 _ _ _ _).trans rfl
noncomputable def F52_0 (D : jx_D) (x1 : Int32) (x2 : Int32) (h : jx_H) : Option jx_R := jx_den (jx_look (tb_52 D)) (jx_nms mk_52) 0 [vr 14 0, vi x1, vi x2, vn] [] h
noncomputable def F52_2 (D : jx_D) (x1 : Int32) (x2 : Int32) (x3 : Int32) (h : jx_H) : Option jx_R := jx_den (jx_look (tb_52 D)) (jx_nms mk_52) 2 [vr 14 0, vi x1, vi x2, vi x3] [] h
set_option maxRecDepth 1000000 in
set_option maxHeartbeats 4000000 in
theorem e52_0 (D : jx_D) (x1 : Int32) (x2 : Int32) (h : jx_H) : F52_0 D x1 x2 h = F52_2 D x1 x2 (0 : Int32) h := (jx_it_eq (tl_m52 D) (jx_mem [2]) 20 _ _ _ _).trans rfl
set_option maxRecDepth 1000000 in
set_option maxHeartbeats 4000000 in
theorem e52_2 (D : jx_D) (x1 : Int32) (x2 : Int32) (x3 : Int32) (h : jx_H) : F52_2 D x1 x2 x3 h = (jx_if (x3 < x1) ((jx_bI (D 40 [vr 14 0, vi x1, vi x3] h) fun y1 h1 => (jx_if (y1 < x2) (F52_2 D x1 x2 (x3 + 1) h1) (some ([vi x3], h1))))) (some ([vi x1], h))) := (jx_it_eq (tl_m52 D) (jx_mem [2]) 20 _ _ _ _).trans rfl
noncomputable def F53_0 (D : jx_D) (x1 : Int32) (x2 : Int32) (h : jx_H) : Option jx_R := jx_den (jx_look (tb_53 D)) (jx_nms mk_53) 0 [vr 0 0, vi x1, vi x2, vn, vn] [] h
noncomputable def F53_32 (D : jx_D) (x1 : Int32) (x2 : Int32) (s0 : Int32) (h : jx_H) : Option jx_R := jx_den (jx_look (tb_53 D)) (jx_nms mk_53) 32 [vr 0 0, vi x1, vi x2, vn, vn] [vi s0] h
noncomputable def F53_78 (D : jx_D) (s0 : Int32) (h : jx_H) : Option jx_R := jx_den (jx_look (tb_53 D)) (jx_nms mk_53) 78 [vn, vn, vn, vn, vn] [vi s0] h
noncomputable def F53_90 (D : jx_D) (s0 : Int32) (h : jx_H) : Option jx_R := jx_den (jx_look (tb_53 D)) (jx_nms mk_53) 90 [vn, vn, vn, vn, vn] [vi s0] h
set_option maxRecDepth 1000000 in
set_option maxHeartbeats 4000000 in
theorem e53_0 (D : jx_D) (x1 : Int32) (x2 : Int32) (h : jx_H) : F53_0 D x1 x2 h = (jx_bV (D 38 [vr 14 0, vr 1 0] h) fun h1 => (jx_if (x1 = 0) (F53_32 D x1 x2 (h1.1 14 0 4) h1) (F53_32 D x1 x2 (h1.1 14 0 3) h1))) := (jx_it_eq (tl_m53 D) (jx_mem [32, 78, 90]) 54 _ _ _ _).trans rfl
set_option maxRecDepth 1000000 in
set_option maxHeartbeats 4000000 in
theorem e53_32 (D : jx_D) (x1 : Int32) (x2 : Int32) (s0 : Int32) (h : jx_H) : F53_32 D x1 x2 s0 h = (jx_if ((x2 &&& (s0 ^^^ ((-1) : Int32))) = 0) ((jx_if (x1 = 0) ((jx_bI (D 55 [vr 14 0, vi (s0 &&& (x2 ^^^ ((-1) : Int32)))] h) fun y1 h1 => F53_78 D y1 h1)) ((jx_bI (D 54 [vr 14 0, vi (s0 &&& (x2 ^^^ ((-1) : Int32)))] h) fun y2 h2 => F53_78 D y2 h2)))) ((jx_bI (D 8 [vr 0 0, vi ((-1) : Int32)] h) fun y3 h3 => some ([vi y3], h3)))) := (jx_it_eq (tl_m53 D) (jx_mem [32, 78, 90]) 54 _ _ _ _).trans rfl
set_option maxRecDepth 1000000 in
set_option maxHeartbeats 4000000 in
theorem e53_78 (D : jx_D) (s0 : Int32) (h : jx_H) : F53_78 D s0 h = (jx_if (s0 = 0) (F53_90 D (0 : Int32) h) (F53_90 D (1 : Int32) h)) := (jx_it_eq (tl_m53 D) (jx_mem [32, 78, 90]) 54 _ _ _ _).trans rfl
set_option maxRecDepth 1000000 in
set_option maxHeartbeats 4000000 in
theorem e53_90 (D : jx_D) (s0 : Int32) (h : jx_H) : F53_90 D s0 h = some ([vi s0], h) := (jx_it_eq (tl_m53 D) (jx_mem [32, 78, 90]) 54 _ _ _ _).trans rfl
noncomputable def F54_0 (D : jx_D) (x1 : Int32) (h : jx_H) : Option jx_R := jx_den (jx_look (tb_54 D)) (jx_nms mk_54) 0 [vr 14 0, vi x1, vn] [] h
noncomputable def F54_6 (D : jx_D) (x1 : Int32) (x2 : Int32) (h : jx_H) : Option jx_R := jx_den (jx_look (tb_54 D)) (jx_nms mk_54) 6 [vr 14 0, vi x1, vi x2] [] h
noncomputable def F54_31 (D : jx_D) (x1 : Int32) (x2 : Int32) (h : jx_H) : Option jx_R := jx_den (jx_look (tb_54 D)) (jx_nms mk_54) 31 [vr 14 0, vi x1, vi x2] [] h
set_option maxRecDepth 1000000 in
set_option maxHeartbeats 4000000 in
theorem e54_0 (D : jx_D) (x1 : Int32) (h : jx_H) : F54_0 D x1 h = F54_6 D x1 ((x1 - (1 : Int32)) &&& x1) h := (jx_it_eq (tl_m54 D) (jx_mem [6, 31]) 31 _ _ _ _).trans rfl
set_option maxRecDepth 1000000 in
set_option maxHeartbeats 4000000 in
theorem e54_6 (D : jx_D) (x1 : Int32) (x2 : Int32) (h : jx_H) : F54_6 D x1 x2 h = (jx_if (0 < x2) ((jx_bI (D 50 [vr 14 0, vi x2, vi (x1 &&& (x2 ^^^ ((-1) : Int32)))] h) fun y1 h1 => (jx_if (y1 = 0) ((jx_if ((0 : Int32) = 0 ∨ (0 : Int32) = 1) (some ([vi (0 : Int32)], h1)) none)) (F54_31 D x1 ((x2 - (1 : Int32)) &&& x1) h1)))) ((jx_if ((1 : Int32) = 0 ∨ (1 : Int32) = 1) (some ([vi (1 : Int32)], h)) none))) := (jx_it_eq (tl_m54 D) (jx_mem [6, 31]) 31 _ _ _ _).trans rfl
set_option maxRecDepth 1000000 in
set_option maxHeartbeats 4000000 in
theorem e54_31 (D : jx_D) (x1 : Int32) (x2 : Int32) (h : jx_H) : F54_31 D x1 x2 h = F54_6 D x1 x2 h := (jx_it_eq (tl_m54 D) (jx_mem [6, 31]) 31 _ _ _ _).trans rfl
noncomputable def F55_0 (D : jx_D) (x1 : Int32) (h : jx_H) : Option jx_R := jx_den (jx_look (tb_55 D)) (jx_nms mk_55) 0 [vr 14 0, vi x1, vn] [] h
noncomputable def F55_2 (D : jx_D) (x1 : Int32) (x2 : Int32) (h : jx_H) : Option jx_R := jx_den (jx_look (tb_55 D)) (jx_nms mk_55) 2 [vr 14 0, vi x1, vi x2] [] h
noncomputable def F55_46 (D : jx_D) (s0 : Int32) (h : jx_H) : Option jx_R := jx_den (jx_look (tb_55 D)) (jx_nms mk_55) 46 [vn, vn, vn] [vi s0] h
set_option maxRecDepth 1000000 in
set_option maxHeartbeats 4000000 in
theorem e55_0 (D : jx_D) (x1 : Int32) (h : jx_H) : F55_0 D x1 h = F55_2 D x1 (1 : Int32) h := (jx_it_eq (tl_m55 D) (jx_mem [2, 46]) 30 _ _ _ _).trans rfl
set_option maxRecDepth 1000000 in
set_option maxHeartbeats 4000000 in
theorem e55_2 (D : jx_D) (x1 : Int32) (x2 : Int32) (h : jx_H) : F55_2 D x1 x2 h = (jx_if (x2 < (h.1 14 0 5)) ((jx_if (jx_in (x2 <<< ((h.1 14 0 6) &&& 31)) 256) ((jx_if (((h.1 18 0 ((x2 <<< ((h.1 14 0 6) &&& 31)).toNatClampNeg)) &&& x1) = 0) ((jx_if ((0 : Int32) = 0 ∨ (0 : Int32) = 1) (some ([vi (0 : Int32)], h)) none)) (F55_2 D x1 (x2 + 1) h))) none)) ((jx_if (0 < (h.1 14 0 0)) (F55_46 D (1 : Int32) h) (F55_46 D (0 : Int32) h)))) := (jx_it_eq (tl_m55 D) (jx_mem [2, 46]) 30 _ _ _ _).trans rfl
set_option maxRecDepth 1000000 in
set_option maxHeartbeats 4000000 in
theorem e55_46 (D : jx_D) (s0 : Int32) (h : jx_H) : F55_46 D s0 h = (jx_if (s0 = 0 ∨ s0 = 1) (some ([vi s0], h)) none) := (jx_it_eq (tl_m55 D) (jx_mem [2, 46]) 30 _ _ _ _).trans rfl
noncomputable def F56_0 (D : jx_D) (h : jx_H) : Option jx_R := jx_den (jx_look (tb_56 D)) (jx_nms mk_56) 0 [vr 0 0] [] h
set_option maxRecDepth 1000000 in
set_option maxHeartbeats 4000000 in
theorem e56_0 (D : jx_D) (h : jx_H) : F56_0 D h = (jx_if ((h.1 1 0 2) = 0) ((jx_bV (D 38 [vr 14 0, vr 1 0] h) fun h1 => (jx_bI (D 57 [vr 14 0] h1) fun y2 h2 => some ([vi y2], h2)))) ((jx_bI (D 8 [vr 0 0, vi ((-8) : Int32)] h) fun y3 h3 => some ([vi y3], h3)))) := (jx_it_eq (tl_m56 D) (jx_mem []) 20 _ _ _ _).trans rfl
noncomputable def F57_0 (D : jx_D) (h : jx_H) : Option jx_R := jx_den (jx_look (tb_57 D)) (jx_nms mk_57) 0 [vr 14 0, vn, vn] [] h
noncomputable def F57_4 (D : jx_D) (x1 : Int32) (x2 : Int32) (h : jx_H) : Option jx_R := jx_den (jx_look (tb_57 D)) (jx_nms mk_57) 4 [vr 14 0, vi x1, vi x2] [] h
noncomputable def F57_44 (D : jx_D) (x1 : Int32) (x2 : Int32) (h : jx_H) : Option jx_R := jx_den (jx_look (tb_57 D)) (jx_nms mk_57) 44 [vr 14 0, vi x1, vi x2] [] h
set_option maxRecDepth 1000000 in
set_option maxHeartbeats 4000000 in
theorem e57_0 (D : jx_D) (h : jx_H) : F57_0 D h = F57_4 D (0 : Int32) (1 : Int32) h := (jx_it_eq (tl_m57 D) (jx_mem [4, 44]) 35 _ _ _ _).trans rfl
set_option maxRecDepth 1000000 in
set_option maxHeartbeats 4000000 in
theorem e57_4 (D : jx_D) (x1 : Int32) (x2 : Int32) (h : jx_H) : F57_4 D x1 x2 h = (jx_if (x2 < (h.1 14 0 5)) ((jx_if (jx_in (x2 <<< ((h.1 14 0 6) &&& 31)) 256) ((jx_bI (D 1 [vi (h.1 18 0 ((x2 <<< ((h.1 14 0 6) &&& 31)).toNatClampNeg))] h) fun y1 h1 => (jx_if (y1 = (1 : Int32)) ((jx_if (jx_in (x2 <<< ((h1.1 14 0 6) &&& 31)) 256) (F57_44 D (x1 ||| (h1.1 18 0 ((x2 <<< ((h1.1 14 0 6) &&& 31)).toNatClampNeg))) x2 h1) none)) (F57_44 D x1 x2 h1)))) none)) (some ([vi x1], h))) := (jx_it_eq (tl_m57 D) (jx_mem [4, 44]) 35 _ _ _ _).trans rfl
set_option maxRecDepth 1000000 in
set_option maxHeartbeats 4000000 in
theorem e57_44 (D : jx_D) (x1 : Int32) (x2 : Int32) (h : jx_H) : F57_44 D x1 x2 h = F57_4 D x1 (x2 + 1) h := (jx_it_eq (tl_m57 D) (jx_mem [4, 44]) 35 _ _ _ _).trans rfl
noncomputable def F58_0 (D : jx_D) (h : jx_H) : Option jx_R := jx_den (jx_look (tb_58 D)) (jx_nms mk_58) 0 [vr 0 0] [] h
set_option maxRecDepth 1000000 in
set_option maxHeartbeats 4000000 in
theorem e58_0 (D : jx_D) (h : jx_H) : F58_0 D h = (jx_if ((h.1 1 0 2) = 0) ((jx_bV (D 38 [vr 14 0, vr 1 0] h) fun h1 => (jx_bI (D 59 [vr 14 0] h1) fun y2 h2 => some ([vi y2], h2)))) ((jx_bI (D 8 [vr 0 0, vi ((-8) : Int32)] h) fun y3 h3 => some ([vi y3], h3)))) := (jx_it_eq (tl_m58 D) (jx_mem []) 20 _ _ _ _).trans rfl
noncomputable def F59_0 (D : jx_D) (h : jx_H) : Option jx_R := jx_den (jx_look (tb_59 D)) (jx_nms mk_59) 0 [vr 14 0, vn, vn, vn, vn] [] h
noncomputable def F59_4 (D : jx_D) (x1 : Int32) (x2 : Int32) (h : jx_H) : Option jx_R := jx_den (jx_look (tb_59 D)) (jx_nms mk_59) 4 [vr 14 0, vi x1, vi x2, vn, vn] [] h
noncomputable def F59_23 (D : jx_D) (x1 : Int32) (x2 : Int32) (x3 : Int32) (h : jx_H) : Option jx_R := jx_den (jx_look (tb_59 D)) (jx_nms mk_59) 23 [vr 14 0, vi x1, vi x2, vi x3, vn] [] h
noncomputable def F59_38 (D : jx_D) (x1 : Int32) (x2 : Int32) (x3 : Int32) (x4 : Int32) (h : jx_H) : Option jx_R := jx_den (jx_look (tb_59 D)) (jx_nms mk_59) 38 [vr 14 0, vi x1, vi x2, vi x3, vi x4] [] h
noncomputable def F59_60 (D : jx_D) (x1 : Int32) (x2 : Int32) (h : jx_H) : Option jx_R := jx_den (jx_look (tb_59 D)) (jx_nms mk_59) 60 [vr 14 0, vi x1, vi x2, vn, vn] [] h
set_option maxRecDepth 1000000 in
set_option maxHeartbeats 4000000 in
theorem e59_0 (D : jx_D) (h : jx_H) : F59_0 D h = F59_4 D (0 : Int32) (0 : Int32) h := (jx_it_eq (tl_m59 D) (jx_mem [4, 23, 38, 60]) 49 _ _ _ _).trans rfl
set_option maxRecDepth 1000000 in
set_option maxHeartbeats 4000000 in
theorem e59_4 (D : jx_D) (x1 : Int32) (x2 : Int32) (h : jx_H) : F59_4 D x1 x2 h = (jx_if (x2 < (h.1 14 0 0)) (F59_23 D x1 x2 ((h.1 14 0 3) &&& (((1 : Int32) <<< (x2 &&& 31)) ^^^ ((-1) : Int32))) h) (some ([vi x1], h))) := (jx_it_eq (tl_m59 D) (jx_mem [4, 23, 38, 60]) 49 _ _ _ _).trans rfl
set_option maxRecDepth 1000000 in
set_option maxHeartbeats 4000000 in
theorem e59_23 (D : jx_D) (x1 : Int32) (x2 : Int32) (x3 : Int32) (h : jx_H) : F59_23 D x1 x2 x3 h = (jx_bI (D 60 [vr 14 0, vi ((1 : Int32) <<< (x2 &&& 31)), vi (h.1 14 0 3)] h) fun y1 h1 => F59_38 D x1 x2 x3 (y1 &&& x3) h1) := (jx_it_eq (tl_m59 D) (jx_mem [4, 23, 38, 60]) 49 _ _ _ _).trans rfl
set_option maxRecDepth 1000000 in
set_option maxHeartbeats 4000000 in
theorem e59_38 (D : jx_D) (x1 : Int32) (x2 : Int32) (x3 : Int32) (x4 : Int32) (h : jx_H) : F59_38 D x1 x2 x3 x4 h = (jx_bI (D 60 [vr 14 0, vi (x4 &&& (-x4)), vi x3] h) fun y1 h1 => (jx_if (y1 = x4) (F59_60 D x1 x2 h1) (F59_60 D (x1 ||| ((1 : Int32) <<< (x2 &&& 31))) x2 h1))) := (jx_it_eq (tl_m59 D) (jx_mem [4, 23, 38, 60]) 49 _ _ _ _).trans rfl
set_option maxRecDepth 1000000 in
set_option maxHeartbeats 4000000 in
theorem e59_60 (D : jx_D) (x1 : Int32) (x2 : Int32) (h : jx_H) : F59_60 D x1 x2 h = F59_4 D x1 (x2 + 1) h := (jx_it_eq (tl_m59 D) (jx_mem [4, 23, 38, 60]) 49 _ _ _ _).trans rfl
noncomputable def F60_0 (D : jx_D) (x1 : Int32) (x2 : Int32) (h : jx_H) : Option jx_R := jx_den (jx_look (tb_60 D)) (jx_nms mk_60) 0 [vr 14 0, vi x1, vi x2, vn, vn] [] h
noncomputable def F60_4 (D : jx_D) (x2 : Int32) (x3 : Int32) (h : jx_H) : Option jx_R := jx_den (jx_look (tb_60 D)) (jx_nms mk_60) 4 [vr 14 0, vn, vi x2, vi x3, vn] [] h
noncomputable def F60_7 (D : jx_D) (x2 : Int32) (x3 : Int32) (x4 : Int32) (h : jx_H) : Option jx_R := jx_den (jx_look (tb_60 D)) (jx_nms mk_60) 7 [vr 14 0, vn, vi x2, vi x3, vi x4] [] h
noncomputable def F60_27 (D : jx_D) (x2 : Int32) (x3 : Int32) (x4 : Int32) (h : jx_H) : Option jx_R := jx_den (jx_look (tb_60 D)) (jx_nms mk_60) 27 [vr 14 0, vn, vi x2, vi x3, vi x4] [] h
set_option maxRecDepth 1000000 in
set_option maxHeartbeats 4000000 in
theorem e60_0 (D : jx_D) (x1 : Int32) (x2 : Int32) (h : jx_H) : F60_0 D x1 x2 h = F60_4 D x2 (x1 &&& x2) h := (jx_it_eq (tl_m60 D) (jx_mem [4, 7, 27]) 26 _ _ _ _).trans rfl
set_option maxRecDepth 1000000 in
set_option maxHeartbeats 4000000 in
theorem e60_4 (D : jx_D) (x2 : Int32) (x3 : Int32) (h : jx_H) : F60_4 D x2 x3 h = F60_7 D x2 x3 (0 : Int32) h := (jx_it_eq (tl_m60 D) (jx_mem [4, 7, 27]) 26 _ _ _ _).trans rfl
set_option maxRecDepth 1000000 in
set_option maxHeartbeats 4000000 in
theorem e60_7 (D : jx_D) (x2 : Int32) (x3 : Int32) (x4 : Int32) (h : jx_H) : F60_7 D x2 x3 x4 h = (jx_if (x4 < (h.1 14 0 0)) ((jx_if (jx_in x3 256) (F60_27 D x2 (x3 ||| ((h.1 17 0 x3.toNatClampNeg) &&& x2)) x4 h) none)) (some ([vi x3], h))) := (jx_it_eq (tl_m60 D) (jx_mem [4, 7, 27]) 26 _ _ _ _).trans rfl
set_option maxRecDepth 1000000 in
set_option maxHeartbeats 4000000 in
theorem e60_27 (D : jx_D) (x2 : Int32) (x3 : Int32) (x4 : Int32) (h : jx_H) : F60_27 D x2 x3 x4 h = F60_7 D x2 x3 (x4 + 1) h := (jx_it_eq (tl_m60 D) (jx_mem [4, 7, 27]) 26 _ _ _ _).trans rfl
noncomputable def F61_0 (D : jx_D) (x1 : Int32) (h : jx_H) : Option jx_R := jx_den (jx_look (tb_61 D)) (jx_nms mk_61) 0 [vr 0 0, vi x1] [] h
set_option maxRecDepth 1000000 in
set_option maxHeartbeats 4000000 in
theorem e61_0 (D : jx_D) (x1 : Int32) (h : jx_H) : F61_0 D x1 h = (jx_bI (D 15 [vr 0 0, vi x1] h) fun y1 h1 => (jx_if (y1 = 0) ((jx_if ((h1.1 1 0 2) = 0) ((jx_bV (D 38 [vr 14 0, vr 1 0] h1) fun h2 => (jx_bI (D 62 [vr 14 0, vi x1, vr 1 0] h2) fun y3 h3 => (jx_bI (D 63 [vi y3] h3) fun y4 h4 => some ([vi y4], h4))))) ((jx_bI (D 8 [vr 0 0, vi ((-8) : Int32)] h1) fun y5 h5 => some ([vi y5], h5))))) ((jx_bI (D 8 [vr 0 0, vi ((-1) : Int32)] h1) fun y6 h6 => some ([vi y6], h6))))) := (jx_it_eq (tl_m61 D) (jx_mem []) 32 _ _ _ _).trans rfl
noncomputable def F62_0 (D : jx_D) (x1 : Int32) (h : jx_H) : Option jx_R := jx_den (jx_look (tb_62 D)) (jx_nms mk_62) 0 [vr 14 0, vi x1, vr 1 0, vn, vn, vn, vn, vn, vn, vn] [] h
noncomputable def F62_4 (D : jx_D) (x3 : Int32) (h : jx_H) : Option jx_R := jx_den (jx_look (tb_62 D)) (jx_nms mk_62) 4 [vr 14 0, vn, vr 1 0, vi x3, vn, vn, vn, vn, vn, vn] [] h
noncomputable def F62_10 (D : jx_D) (x3 : Int32) (x4 : Int32) (x5 : Int32) (h : jx_H) : Option jx_R := jx_den (jx_look (tb_62 D)) (jx_nms mk_62) 10 [vr 14 0, vn, vr 1 0, vi x3, vi x4, vi x5, vn, vn, vn, vn] [] h
noncomputable def F62_101 (D : jx_D) (x3 : Int32) (h : jx_H) : Option jx_R := jx_den (jx_look (tb_62 D)) (jx_nms mk_62) 101 [vn, vn, vn, vi x3, vn, vn, vn, vn, vn, vn] [] h
noncomputable def F62_42 (D : jx_D) (x3 : Int32) (x4 : Int32) (x5 : Int32) (x6 : Int32) (x7 : Int32) (h : jx_H) : Option jx_R := jx_den (jx_look (tb_62 D)) (jx_nms mk_62) 42 [vr 14 0, vn, vr 1 0, vi x3, vi x4, vi x5, vi x6, vi x7, vn, vn] [] h
noncomputable def F62_53 (D : jx_D) (x3 : Int32) (x4 : Int32) (x5 : Int32) (x6 : Int32) (x7 : Int32) (x8 : Int32) (h : jx_H) : Option jx_R := jx_den (jx_look (tb_62 D)) (jx_nms mk_62) 53 [vr 14 0, vn, vr 1 0, vi x3, vi x4, vi x5, vi x6, vi x7, vi x8, vn] [] h
noncomputable def F62_76 (D : jx_D) (x3 : Int32) (x4 : Int32) (x5 : Int32) (x6 : Int32) (x9 : Int32) (h : jx_H) : Option jx_R := jx_den (jx_look (tb_62 D)) (jx_nms mk_62) 76 [vr 14 0, vn, vr 1 0, vi x3, vi x4, vi x5, vi x6, vn, vn, vi x9] [] h
noncomputable def F62_81 (D : jx_D) (x3 : Int32) (x4 : Int32) (x5 : Int32) (x6 : Int32) (x9 : Int32) (h : jx_H) : Option jx_R := jx_den (jx_look (tb_62 D)) (jx_nms mk_62) 81 [vr 14 0, vn, vr 1 0, vi x3, vi x4, vi x5, vi x6, vn, vn, vi x9] [] h
noncomputable def F62_95 (D : jx_D) (x3 : Int32) (x4 : Int32) (x5 : Int32) (h : jx_H) : Option jx_R := jx_den (jx_look (tb_62 D)) (jx_nms mk_62) 95 [vr 14 0, vn, vr 1 0, vi x3, vi x4, vi x5, vn, vn, vn, vn] [] h
set_option maxRecDepth 1000000 in
set_option maxHeartbeats 4000000 in
theorem e62_0 (D : jx_D) (x1 : Int32) (h : jx_H) : F62_0 D x1 h = F62_4 D ((1 : Int32) <<< (x1 &&& 31)) h := (jx_it_eq (tl_m62 D) (jx_mem [4, 10, 42, 53, 76, 81, 95, 101]) 66 _ _ _ _).trans rfl
set_option maxRecDepth 1000000 in
set_option maxHeartbeats 4000000 in
theorem e62_4 (D : jx_D) (x3 : Int32) (h : jx_H) : F62_4 D x3 h = F62_10 D x3 x3 (0 : Int32) h := (jx_it_eq (tl_m62 D) (jx_mem [4, 10, 42, 53, 76, 81, 95, 101]) 66 _ _ _ _).trans rfl
set_option maxRecDepth 1000000 in
set_option maxHeartbeats 4000000 in
theorem e62_10 (D : jx_D) (x3 : Int32) (x4 : Int32) (x5 : Int32) (h : jx_H) : F62_10 D x3 x4 x5 h = (jx_if (x5 < (h.1 14 0 1)) ((jx_if (x4 = 0) (F62_101 D x3 h) ((jx_bI (D 63 [vi x4] h) fun y1 h1 => (jx_if (jx_in y1 20) (F62_42 D x3 x4 x5 y1 ((1 : Int32) <<< ((h1.1 2 0 y1.toNatClampNeg) &&& 31)) h1) none))))) (F62_101 D x3 h)) := (jx_it_eq (tl_m62 D) (jx_mem [4, 10, 42, 53, 76, 81, 95, 101]) 66 _ _ _ _).trans rfl
set_option maxRecDepth 1000000 in
set_option maxHeartbeats 4000000 in
theorem e62_101 (D : jx_D) (x3 : Int32) (h : jx_H) : F62_101 D x3 h = some ([vi x3], h) := (jx_it_eq (tl_m62 D) (jx_mem [4, 10, 42, 53, 76, 81, 95, 101]) 66 _ _ _ _).trans rfl
set_option maxRecDepth 1000000 in
set_option maxHeartbeats 4000000 in
theorem e62_42 (D : jx_D) (x3 : Int32) (x4 : Int32) (x5 : Int32) (x6 : Int32) (x7 : Int32) (h : jx_H) : F62_42 D x3 x4 x5 x6 x7 h = (jx_if (jx_in x6 20) (F62_53 D x3 x4 x5 x6 x7 ((1 : Int32) <<< ((h.1 3 0 x6.toNatClampNeg) &&& 31)) h) none) := (jx_it_eq (tl_m62 D) (jx_mem [4, 10, 42, 53, 76, 81, 95, 101]) 66 _ _ _ _).trans rfl
set_option maxRecDepth 1000000 in
set_option maxHeartbeats 4000000 in
theorem e62_53 (D : jx_D) (x3 : Int32) (x4 : Int32) (x5 : Int32) (x6 : Int32) (x7 : Int32) (x8 : Int32) (h : jx_H) : F62_53 D x3 x4 x5 x6 x7 x8 h = (jx_bI (D 64 [vr 14 0, vi x7, vi x8] h) fun y1 h1 => (jx_bI (D 64 [vr 14 0, vi x8, vi x7] h1) fun y2 h2 => F62_76 D x3 x4 x5 x6 ((y1 ||| y2) &&& (x3 ^^^ ((-1) : Int32))) h2)) := (jx_it_eq (tl_m62 D) (jx_mem [4, 10, 42, 53, 76, 81, 95, 101]) 66 _ _ _ _).trans rfl
set_option maxRecDepth 1000000 in
set_option maxHeartbeats 4000000 in
theorem e62_76 (D : jx_D) (x3 : Int32) (x4 : Int32) (x5 : Int32) (x6 : Int32) (x9 : Int32) (h : jx_H) : F62_76 D x3 x4 x5 x6 x9 h = F62_81 D (x3 ||| x9) x4 x5 x6 x9 h := (jx_it_eq (tl_m62 D) (jx_mem [4, 10, 42, 53, 76, 81, 95, 101]) 66 _ _ _ _).trans rfl
set_option maxRecDepth 1000000 in
set_option maxHeartbeats 4000000 in
theorem e62_81 (D : jx_D) (x3 : Int32) (x4 : Int32) (x5 : Int32) (x6 : Int32) (x9 : Int32) (h : jx_H) : F62_81 D x3 x4 x5 x6 x9 h = F62_95 D x3 ((x4 &&& (((1 : Int32) <<< (x6 &&& 31)) ^^^ ((-1) : Int32))) ||| x9) x5 h := (jx_it_eq (tl_m62 D) (jx_mem [4, 10, 42, 53, 76, 81, 95, 101]) 66 _ _ _ _).trans rfl
set_option maxRecDepth 1000000 in
set_option maxHeartbeats 4000000 in
theorem e62_95 (D : jx_D) (x3 : Int32) (x4 : Int32) (x5 : Int32) (h : jx_H) : F62_95 D x3 x4 x5 h = F62_10 D x3 x4 (x5 + 1) h := (jx_it_eq (tl_m62 D) (jx_mem [4, 10, 42, 53, 76, 81, 95, 101]) 66 _ _ _ _).trans rfl
noncomputable def F63_0 (D : jx_D) (x0 : Int32) (h : jx_H) : Option jx_R := jx_den (jx_look (tb_63 D)) (jx_nms mk_63) 0 [vi x0] [] h
set_option maxRecDepth 1000000 in
set_option maxHeartbeats 4000000 in
theorem e63_0 (D : jx_D) (x0 : Int32) (h : jx_H) : F63_0 D x0 h = (jx_bI (D 1 [vi ((x0 &&& (-x0)) - (1 : Int32))] h) fun y1 h1 => some ([vi y1], h1)) := (jx_it_eq (tl_m63 D) (jx_mem []) 11 _ _ _ _).trans rfl
noncomputable def F64_0 (D : jx_D) (x1 : Int32) (x2 : Int32) (h : jx_H) : Option jx_R := jx_den (jx_look (tb_64 D)) (jx_nms mk_64) 0 [vr 14 0, vi x1, vi x2] [] h
set_option maxRecDepth 1000000 in
set_option maxHeartbeats 4000000 in
theorem e64_0 (D : jx_D) (x1 : Int32) (x2 : Int32) (h : jx_H) : F64_0 D x1 x2 h = (jx_bI (D 60 [vr 14 0, vi x2, vi ((h.1 14 0 3) &&& (x1 ^^^ ((-1) : Int32)))] h) fun y1 h1 => (jx_bI (D 50 [vr 14 0, vi x1, vi y1] h1) fun y2 h2 => some ([vi y2], h2))) := (jx_it_eq (tl_m64 D) (jx_mem []) 16 _ _ _ _).trans rfl
noncomputable def F65_0 (D : jx_D) (x1 : Int32) (h : jx_H) : Option jx_R := jx_den (jx_look (tb_65 D)) (jx_nms mk_65) 0 [vr 0 0, vi x1] [] h
noncomputable def F65_11 (D : jx_D) (h : jx_H) : Option jx_R := jx_den (jx_look (tb_65 D)) (jx_nms mk_65) 11 [vr 0 0, vn] [] h
set_option maxRecDepth 1000000 in
set_option maxHeartbeats 4000000 in
theorem e65_0 (D : jx_D) (x1 : Int32) (h : jx_H) : F65_0 D x1 h = (jx_if (x1 < (1 : Int32)) (F65_11 D h) ((jx_if (x1 ≤ (8 : Int32)) ((jx_if ((h.1 1 0 2) = 0) ((jx_if ((h.1 1 0 0) < (2 : Int32)) ((jx_bI (D 8 [vr 0 0, vi ((-6) : Int32)] h) fun y1 h1 => some ([vi y1], h1))) ((jx_bV (D 38 [vr 14 0, vr 1 0] h) fun h2 => (jx_bI (D 66 [vr 19 0, vr 14 0, vi x1] h2) fun y3 h3 => some ([vi y3], h3)))))) ((jx_bI (D 8 [vr 0 0, vi ((-8) : Int32)] h) fun y4 h4 => some ([vi y4], h4))))) (F65_11 D h)))) := (jx_it_eq (tl_m65 D) (jx_mem [11]) 42 _ _ _ _).trans rfl
set_option maxRecDepth 1000000 in
set_option maxHeartbeats 4000000 in
theorem e65_11 (D : jx_D) (h : jx_H) : F65_11 D h = (jx_bI (D 8 [vr 0 0, vi ((-1) : Int32)] h) fun y1 h1 => some ([vi y1], h1)) := (jx_it_eq (tl_m65 D) (jx_mem [11]) 42 _ _ _ _).trans rfl
noncomputable def F66_0 (D : jx_D) (x2 : Int32) (h : jx_H) : Option jx_R := jx_den (jx_look (tb_66 D)) (jx_nms mk_66) 0 [vr 19 0, vr 14 0, vi x2, vn] [] h
noncomputable def F66_9 (D : jx_D) (x2 : Int32) (x3 : Int32) (h : jx_H) : Option jx_R := jx_den (jx_look (tb_66 D)) (jx_nms mk_66) 9 [vr 19 0, vr 14 0, vi x2, vi x3] [] h
noncomputable def F66_46 (D : jx_D) (x2 : Int32) (x3 : Int32) (h : jx_H) : Option jx_R := jx_den (jx_look (tb_66 D)) (jx_nms mk_66) 46 [vn, vn, vi x2, vi x3] [] h
noncomputable def F66_66 (D : jx_D) (s0 : Int32) (h : jx_H) : Option jx_R := jx_den (jx_look (tb_66 D)) (jx_nms mk_66) 66 [vn, vn, vn, vn] [vi s0] h
set_option maxRecDepth 1000000 in
set_option maxHeartbeats 4000000 in
theorem e66_0 (D : jx_D) (x2 : Int32) (h : jx_H) : F66_0 D x2 h = (jx_if (jx_in (0 : Int32) 256) (F66_9 D x2 (1 : Int32) (jx_sI h 20 0 ((0 : Int32).toNatClampNeg) (0 : Int32))) none) := (jx_it_eq (tl_m66 D) (jx_mem [9, 46, 66]) 46 _ _ _ _).trans rfl
set_option maxRecDepth 1000000 in
set_option maxHeartbeats 4000000 in
theorem e66_9 (D : jx_D) (x2 : Int32) (x3 : Int32) (h : jx_H) : F66_9 D x2 x3 h = (jx_if (x3 ≤ (h.1 14 0 3)) ((jx_bI (D 67 [vr 19 0, vr 14 0, vi x2, vi x3] h) fun y1 h1 => (jx_if (jx_in x3 256) (F66_9 D x2 (x3 + 1) (jx_sI h1 20 0 x3.toNatClampNeg y1)) none))) ((jx_if (jx_in (h.1 14 0 3) 256) (F66_46 D x2 (h.1 20 0 ((h.1 14 0 3).toNatClampNeg)) h) none))) := (jx_it_eq (tl_m66 D) (jx_mem [9, 46, 66]) 46 _ _ _ _).trans rfl
set_option maxRecDepth 1000000 in
set_option maxHeartbeats 4000000 in
theorem e66_46 (D : jx_D) (x2 : Int32) (x3 : Int32) (h : jx_H) : F66_46 D x2 x3 h = (jx_if (x2 = (1 : Int32)) (F66_66 D (jx_mx (0 : Int32) (x3 - (1 : Int32))) h) ((jx_if ((2 : Int32) = 0) none (F66_66 D ((x3 + (1 : Int32)) / (2 : Int32)) h)))) := (jx_it_eq (tl_m66 D) (jx_mem [9, 46, 66]) 46 _ _ _ _).trans rfl
set_option maxRecDepth 1000000 in
set_option maxHeartbeats 4000000 in
theorem e66_66 (D : jx_D) (s0 : Int32) (h : jx_H) : F66_66 D s0 h = some ([vi s0], h) := (jx_it_eq (tl_m66 D) (jx_mem [9, 46, 66]) 46 _ _ _ _).trans rfl
noncomputable def F67_0 (D : jx_D) (x2 : Int32) (x3 : Int32) (h : jx_H) : Option jx_R := jx_den (jx_look (tb_67 D)) (jx_nms mk_67) 0 [vr 19 0, vr 14 0, vi x2, vi x3, vn, vn, vn, vn] [] h
noncomputable def F67_6 (D : jx_D) (x2 : Int32) (x3 : Int32) (x4 : Int32) (h : jx_H) : Option jx_R := jx_den (jx_look (tb_67 D)) (jx_nms mk_67) 6 [vr 19 0, vr 14 0, vi x2, vi x3, vi x4, vn, vn, vn] [] h
noncomputable def F67_12 (D : jx_D) (x2 : Int32) (x4 : Int32) (x5 : Int32) (h : jx_H) : Option jx_R := jx_den (jx_look (tb_67 D)) (jx_nms mk_67) 12 [vr 19 0, vr 14 0, vi x2, vn, vi x4, vi x5, vn, vn] [] h
noncomputable def F67_33 (D : jx_D) (x2 : Int32) (x4 : Int32) (x5 : Int32) (x6 : Int32) (h : jx_H) : Option jx_R := jx_den (jx_look (tb_67 D)) (jx_nms mk_67) 33 [vr 19 0, vr 14 0, vi x2, vn, vi x4, vi x5, vi x6, vn] [] h
noncomputable def F67_37 (D : jx_D) (x2 : Int32) (x4 : Int32) (x5 : Int32) (x6 : Int32) (x7 : Int32) (h : jx_H) : Option jx_R := jx_den (jx_look (tb_67 D)) (jx_nms mk_67) 37 [vr 19 0, vr 14 0, vi x2, vn, vi x4, vi x5, vi x6, vi x7] [] h
noncomputable def F67_82 (D : jx_D) (x2 : Int32) (x4 : Int32) (x5 : Int32) (x6 : Int32) (x7 : Int32) (h : jx_H) : Option jx_R := jx_den (jx_look (tb_67 D)) (jx_nms mk_67) 82 [vr 19 0, vr 14 0, vi x2, vn, vi x4, vi x5, vi x6, vi x7] [] h
noncomputable def F67_91 (D : jx_D) (x2 : Int32) (x4 : Int32) (x5 : Int32) (x6 : Int32) (x7 : Int32) (h : jx_H) : Option jx_R := jx_den (jx_look (tb_67 D)) (jx_nms mk_67) 91 [vr 19 0, vr 14 0, vi x2, vn, vi x4, vi x5, vi x6, vi x7] [] h
set_option maxRecDepth 1000000 in
set_option maxHeartbeats 4000000 in
theorem e67_0 (D : jx_D) (x2 : Int32) (x3 : Int32) (h : jx_H) : F67_0 D x2 x3 h = F67_6 D x2 x3 (x3 &&& (-x3)) h := (jx_it_eq (tl_m67 D) (jx_mem [6, 12, 33, 37, 82, 91]) 59 _ _ _ _).trans rfl
set_option maxRecDepth 1000000 in
set_option maxHeartbeats 4000000 in
theorem e67_6 (D : jx_D) (x2 : Int32) (x3 : Int32) (x4 : Int32) (h : jx_H) : F67_6 D x2 x3 x4 h = F67_12 D x2 x4 (x3 ^^^ x4) h := (jx_it_eq (tl_m67 D) (jx_mem [6, 12, 33, 37, 82, 91]) 59 _ _ _ _).trans rfl
set_option maxRecDepth 1000000 in
set_option maxHeartbeats 4000000 in
theorem e67_12 (D : jx_D) (x2 : Int32) (x4 : Int32) (x5 : Int32) (h : jx_H) : F67_12 D x2 x4 x5 h = (jx_if (jx_in x5 256) ((jx_bI (D 68 [vr 14 0, vi x2, vi x4] h) fun y1 h1 => F67_33 D x2 x4 x5 ((h.1 20 0 x5.toNatClampNeg) + (jx_mx (0 : Int32) y1)) h1)) none) := (jx_it_eq (tl_m67 D) (jx_mem [6, 12, 33, 37, 82, 91]) 59 _ _ _ _).trans rfl
set_option maxRecDepth 1000000 in
set_option maxHeartbeats 4000000 in
theorem e67_33 (D : jx_D) (x2 : Int32) (x4 : Int32) (x5 : Int32) (x6 : Int32) (h : jx_H) : F67_33 D x2 x4 x5 x6 h = F67_37 D x2 x4 x5 x6 x5 h := (jx_it_eq (tl_m67 D) (jx_mem [6, 12, 33, 37, 82, 91]) 59 _ _ _ _).trans rfl
set_option maxRecDepth 1000000 in
set_option maxHeartbeats 4000000 in
theorem e67_37 (D : jx_D) (x2 : Int32) (x4 : Int32) (x5 : Int32) (x6 : Int32) (x7 : Int32) (h : jx_H) : F67_37 D x2 x4 x5 x6 x7 h = (jx_if (0 < x7) ((jx_if ((x4 ||| x7) = (h.1 14 0 3)) (F67_82 D x2 x4 x5 x6 x7 h) ((jx_bI (D 68 [vr 14 0, vi x2, vi (x4 ||| x7)] h) fun y1 h1 => (jx_if (jx_in (x5 ^^^ x7) 256) (F67_82 D x2 x4 x5 (jx_mx x6 (y1 + (h1.1 20 0 ((x5 ^^^ x7).toNatClampNeg)))) x7 h1) none))))) (some ([vi x6], h))) := (jx_it_eq (tl_m67 D) (jx_mem [6, 12, 33, 37, 82, 91]) 59 _ _ _ _).trans rfl
set_option maxRecDepth 1000000 in
set_option maxHeartbeats 4000000 in
theorem e67_82 (D : jx_D) (x2 : Int32) (x4 : Int32) (x5 : Int32) (x6 : Int32) (x7 : Int32) (h : jx_H) : F67_82 D x2 x4 x5 x6 x7 h = F67_91 D x2 x4 x5 x6 ((x7 - (1 : Int32)) &&& x5) h := (jx_it_eq (tl_m67 D) (jx_mem [6, 12, 33, 37, 82, 91]) 59 _ _ _ _).trans rfl
set_option maxRecDepth 1000000 in
set_option maxHeartbeats 4000000 in
theorem e67_91 (D : jx_D) (x2 : Int32) (x4 : Int32) (x5 : Int32) (x6 : Int32) (x7 : Int32) (h : jx_H) : F67_91 D x2 x4 x5 x6 x7 h = F67_37 D x2 x4 x5 x6 x7 h := (jx_it_eq (tl_m67 D) (jx_mem [6, 12, 33, 37, 82, 91]) 59 _ _ _ _).trans rfl
noncomputable def F68_0 (D : jx_D) (x1 : Int32) (x2 : Int32) (h : jx_H) : Option jx_R := jx_den (jx_look (tb_68 D)) (jx_nms mk_68) 0 [vr 14 0, vi x1, vi x2] [] h
set_option maxRecDepth 1000000 in
set_option maxHeartbeats 4000000 in
theorem e68_0 (D : jx_D) (x1 : Int32) (x2 : Int32) (h : jx_H) : F68_0 D x1 x2 h = (jx_if (jx_in x2 256) ((jx_bI (D 1 [vi (h.1 18 0 x2.toNatClampNeg)] h) fun y1 h1 => some ([vi (x1 - y1)], h1))) none) := (jx_it_eq (tl_m68 D) (jx_mem []) 11 _ _ _ _).trans rfl
noncomputable def F69_0 (D : jx_D) (x1 : Int32) (h : jx_H) : Option jx_R := jx_den (jx_look (tb_69 D)) (jx_nms mk_69) 0 [vr 0 0, vi x1] [] h
noncomputable def F69_11 (D : jx_D) (h : jx_H) : Option jx_R := jx_den (jx_look (tb_69 D)) (jx_nms mk_69) 11 [vr 0 0, vn] [] h
set_option maxRecDepth 1000000 in
set_option maxHeartbeats 4000000 in
theorem e69_0 (D : jx_D) (x1 : Int32) (h : jx_H) : F69_0 D x1 h = (jx_if (x1 < (1 : Int32)) (F69_11 D h) ((jx_if (x1 ≤ (8 : Int32)) ((jx_if ((h.1 1 0 1) ≤ (12 : Int32)) ((jx_bV (D 38 [vr 14 0, vr 1 0] h) fun h1 => (jx_bI (D 70 [vr 14 0, vi (h1.1 14 0 4), vi x1] h1) fun y2 h2 => (jx_if (y2 = 0) ((jx_bI (D 8 [vr 0 0, vi ((-6) : Int32)] h2) fun y3 h3 => some ([vi y3], h3))) ((jx_bI (D 71 [vr 21 0, vr 14 0, vr 1 0, vi x1] h2) fun y4 h4 => some ([vi y4], h4))))))) ((jx_bI (D 8 [vr 0 0, vi ((-7) : Int32)] h) fun y5 h5 => some ([vi y5], h5))))) (F69_11 D h)))) := (jx_it_eq (tl_m69 D) (jx_mem [11]) 48 _ _ _ _).trans rfl
set_option maxRecDepth 1000000 in
set_option maxHeartbeats 4000000 in
theorem e69_11 (D : jx_D) (h : jx_H) : F69_11 D h = (jx_bI (D 8 [vr 0 0, vi ((-1) : Int32)] h) fun y1 h1 => some ([vi y1], h1)) := (jx_it_eq (tl_m69 D) (jx_mem [11]) 48 _ _ _ _).trans rfl
noncomputable def F70_0 (D : jx_D) (x1 : Int32) (x2 : Int32) (h : jx_H) : Option jx_R := jx_den (jx_look (tb_70 D)) (jx_nms mk_70) 0 [vr 14 0, vi x1, vi x2, vn] [] h
noncomputable def F70_2 (D : jx_D) (x1 : Int32) (x2 : Int32) (x3 : Int32) (h : jx_H) : Option jx_R := jx_den (jx_look (tb_70 D)) (jx_nms mk_70) 2 [vr 14 0, vi x1, vi x2, vi x3] [] h
noncomputable def F70_51 (D : jx_D) (s0 : Int32) (h : jx_H) : Option jx_R := jx_den (jx_look (tb_70 D)) (jx_nms mk_70) 51 [vn, vn, vn, vn] [vi s0] h
set_option maxRecDepth 1000000 in
set_option maxHeartbeats 4000000 in
theorem e70_0 (D : jx_D) (x1 : Int32) (x2 : Int32) (h : jx_H) : F70_0 D x1 x2 h = F70_2 D x1 x2 (1 : Int32) h := (jx_it_eq (tl_m70 D) (jx_mem [2, 51]) 33 _ _ _ _).trans rfl
set_option maxRecDepth 1000000 in
set_option maxHeartbeats 4000000 in
theorem e70_2 (D : jx_D) (x1 : Int32) (x2 : Int32) (x3 : Int32) (h : jx_H) : F70_2 D x1 x2 x3 h = (jx_if (x3 < (h.1 14 0 5)) ((jx_if (jx_in (x3 <<< ((h.1 14 0 6) &&& 31)) 256) ((jx_bI (D 1 [vi ((h.1 18 0 ((x3 <<< ((h.1 14 0 6) &&& 31)).toNatClampNeg)) &&& x1)] h) fun y1 h1 => (jx_if (y1 < x2) ((jx_if ((0 : Int32) = 0 ∨ (0 : Int32) = 1) (some ([vi (0 : Int32)], h1)) none)) (F70_2 D x1 x2 (x3 + 1) h1)))) none)) ((jx_if ((h.1 14 0 0) ≤ (1 : Int32)) (F70_51 D (0 : Int32) h) (F70_51 D (1 : Int32) h)))) := (jx_it_eq (tl_m70 D) (jx_mem [2, 51]) 33 _ _ _ _).trans rfl
set_option maxRecDepth 1000000 in
set_option maxHeartbeats 4000000 in
theorem e70_51 (D : jx_D) (s0 : Int32) (h : jx_H) : F70_51 D s0 h = (jx_if (s0 = 0 ∨ s0 = 1) (some ([vi s0], h)) none) := (jx_it_eq (tl_m70 D) (jx_mem [2, 51]) 33 _ _ _ _).trans rfl
noncomputable def F71_0 (D : jx_D) (x3 : Int32) (h : jx_H) : Option jx_R := jx_den (jx_look (tb_71 D)) (jx_nms mk_71) 0 [vr 21 0, vr 14 0, vr 1 0, vi x3] [] h
set_option maxRecDepth 1000000 in
set_option maxHeartbeats 4000000 in
theorem e71_0 (D : jx_D) (x3 : Int32) (h : jx_H) : F71_0 D x3 h = (jx_if ((1 : Int32) = 1) ((jx_bV (D 72 [vr 21 0, vi ((h.1 1 0 1) - (1 : Int32)), vi (0 : Int32), vi (0 : Int32)] (jx_sI (jx_sI (jx_sI (jx_sI (jx_sI h 21 0 0 (1 : Int32)) 21 0 1 (1 : Int32)) 21 0 2 x3) 21 0 3 (20001 : Int32)) 21 0 4 (0 : Int32))) fun h1 => some ([vi (h1.1 21 0 4)], h1))) none) := (jx_it_eq (tl_m71 D) (jx_mem []) 30 _ _ _ _).trans rfl
noncomputable def F72_0 (D : jx_D) (x1 : Int32) (x2 : Int32) (x3 : Int32) (h : jx_H) : Option jx_R := jx_den (jx_look (tb_72 D)) (jx_nms mk_72) 0 [vr 21 0, vi x1, vi x2, vi x3] [] h
noncomputable def F72_53 (D : jx_D) (x1 : Int32) (x2 : Int32) (x3 : Int32) (h : jx_H) : Option jx_R := jx_den (jx_look (tb_72 D)) (jx_nms mk_72) 53 [vr 21 0, vi x1, vi x2, vi x3] [] h
set_option maxRecDepth 1000000 in
set_option maxHeartbeats 4000000 in
theorem e72_0 (D : jx_D) (x1 : Int32) (x2 : Int32) (x3 : Int32) (h : jx_H) : F72_0 D x1 x2 x3 h = (jx_if (x3 < (h.1 21 0 3)) ((jx_if (x1 < 0) (some ([], (jx_sI (jx_sI h 21 0 3 x3) 21 0 4 x2))) ((jx_if ((h.1 21 0 0) = 1) ((jx_bI (D 17 [vi x1] h) fun y1 h1 => (jx_bI (D 70 [vr 14 0, vi (x2 ||| y1), vi (h1.1 21 0 2)] h1) fun y2 h2 => (jx_if (y2 = 0) (F72_53 D x1 x2 x3 h2) ((jx_bV (D 72 [vr 21 0, vi (x1 - (1 : Int32)), vi x2, vi x3] h2) fun h3 => F72_53 D x1 x2 x3 h3)))))) none)))) (some ([], h))) := (jx_it_eq (tl_m72 D) (jx_mem [53]) 52 _ _ _ _).trans rfl
set_option maxRecDepth 1000000 in
set_option maxHeartbeats 4000000 in
theorem e72_53 (D : jx_D) (x1 : Int32) (x2 : Int32) (x3 : Int32) (h : jx_H) : F72_53 D x1 x2 x3 h = (jx_if ((h.1 21 0 1) = 1) ((jx_if (jx_in x1 20) ((jx_bV (D 72 [vr 21 0, vi (x1 - (1 : Int32)), vi (x2 ||| ((1 : Int32) <<< (x1 &&& 31))), vi (x3 + (h.1 4 0 x1.toNatClampNeg))] h) fun h1 => some ([], h1))) none)) none) := (jx_it_eq (tl_m72 D) (jx_mem [53]) 52 _ _ _ _).trans rfl
noncomputable def F73_0 (D : jx_D) (h : jx_H) : Option jx_R := jx_den (jx_look (tb_73 D)) (jx_nms mk_73) 0 [vr 0 0, vn, vn, vn, vn, vn] [] h
noncomputable def F73_56 (D : jx_D) (x1 : Int32) (x2 : Int32) (x3 : Int32) (x4 : Int32) (h : jx_H) : Option jx_R := jx_den (jx_look (tb_73 D)) (jx_nms mk_73) 56 [vr 0 0, vi x1, vi x2, vi x3, vi x4, vn] [] h
noncomputable def F73_72 (D : jx_D) (x1 : Int32) (x2 : Int32) (x3 : Int32) (x4 : Int32) (x5 : Int32) (h : jx_H) : Option jx_R := jx_den (jx_look (tb_73 D)) (jx_nms mk_73) 72 [vr 0 0, vi x1, vi x2, vi x3, vi x4, vi x5] [] h
noncomputable def F73_88 (D : jx_D) (x1 : Int32) (x2 : Int32) (x3 : Int32) (x4 : Int32) (h : jx_H) : Option jx_R := jx_den (jx_look (tb_73 D)) (jx_nms mk_73) 88 [vr 0 0, vi x1, vi x2, vi x3, vi x4, vn] [] h
set_option maxRecDepth 1000000 in
set_option maxHeartbeats 4000000 in
theorem e73_0 (D : jx_D) (h : jx_H) : F73_0 D h = (jx_bV (D 4 [vr 6 0, vr 1 0] h) fun h1 => (jx_bV (D 38 [vr 14 0, vr 1 0] h1) fun h2 => (jx_bI (D 44 [vr 14 0, vi (h2.1 14 0 4)] h2) fun y3 h3 => F73_56 D y3 (h3.1 1 0 1) (h3.1 14 0 4) (0 : Int32) h3))) := (jx_it_eq (tl_m73 D) (jx_mem [56, 72, 88]) 61 _ _ _ _).trans rfl
set_option maxRecDepth 1000000 in
set_option maxHeartbeats 4000000 in
theorem e73_56 (D : jx_D) (x1 : Int32) (x2 : Int32) (x3 : Int32) (x4 : Int32) (h : jx_H) : F73_56 D x1 x2 x3 x4 h = (jx_if (x4 < x2) (F73_72 D x1 x2 x3 x4 (x3 &&& (((1 : Int32) <<< (x4 &&& 31)) ^^^ ((-1) : Int32))) h) ((jx_bV (D 18 [vr 1 0, vi x3] h) fun h1 => some ([vi (x2 - (h1.1 1 0 1))], h1)))) := (jx_it_eq (tl_m73 D) (jx_mem [56, 72, 88]) 61 _ _ _ _).trans rfl
set_option maxRecDepth 1000000 in
set_option maxHeartbeats 4000000 in
theorem e73_72 (D : jx_D) (x1 : Int32) (x2 : Int32) (x3 : Int32) (x4 : Int32) (x5 : Int32) (h : jx_H) : F73_72 D x1 x2 x3 x4 x5 h = (jx_bI (D 44 [vr 14 0, vi x5] h) fun y1 h1 => (jx_if (y1 = x1) (F73_88 D x1 x2 x5 x4 h1) (F73_88 D x1 x2 x3 x4 h1))) := (jx_it_eq (tl_m73 D) (jx_mem [56, 72, 88]) 61 _ _ _ _).trans rfl
set_option maxRecDepth 1000000 in
set_option maxHeartbeats 4000000 in
theorem e73_88 (D : jx_D) (x1 : Int32) (x2 : Int32) (x3 : Int32) (x4 : Int32) (h : jx_H) : F73_88 D x1 x2 x3 x4 h = F73_56 D x1 x2 x3 (x4 + 1) h := (jx_it_eq (tl_m73 D) (jx_mem [56, 72, 88]) 61 _ _ _ _).trans rfl
noncomputable def F74_0 (D : jx_D) (h : jx_H) : Option jx_R := jx_den (jx_look (tb_74 D)) (jx_nms mk_74) 0 [vr 0 0] [] h
set_option maxRecDepth 1000000 in
set_option maxHeartbeats 4000000 in
theorem e74_0 (D : jx_D) (h : jx_H) : F74_0 D h = (jx_if ((h.1 1 0 2) = 0) ((jx_bV (D 38 [vr 14 0, vr 1 0] h) fun h1 => (jx_bI (D 75 [vr 22 0, vr 14 0] h1) fun y2 h2 => some ([vi y2], h2)))) ((jx_bI (D 8 [vr 0 0, vi ((-8) : Int32)] h) fun y3 h3 => some ([vi y3], h3)))) := (jx_it_eq (tl_m74 D) (jx_mem []) 22 _ _ _ _).trans rfl
noncomputable def F75_0 (D : jx_D) (h : jx_H) : Option jx_R := jx_den (jx_look (tb_75 D)) (jx_nms mk_75) 0 [vr 22 0, vr 14 0] [] h
set_option maxRecDepth 1000000 in
set_option maxHeartbeats 4000000 in
theorem e75_0 (D : jx_D) (h : jx_H) : F75_0 D h = (jx_if ((h.1 14 0 0) < (2 : Int32)) (some ([vi (0 : Int32)], h)) ((jx_if ((1 : Int32) = 1) ((jx_bV (D 76 [vr 22 0, vi (0 : Int32), vi (0 : Int32), vi (0 : Int32)] (jx_sI (jx_sI h 22 0 0 (1 : Int32)) 22 0 1 (h.1 14 0 1))) fun h1 => some ([vi (h1.1 22 0 1)], h1))) none))) := (jx_it_eq (tl_m75 D) (jx_mem []) 25 _ _ _ _).trans rfl
noncomputable def F76_0 (D : jx_D) (x1 : Int32) (x2 : Int32) (x3 : Int32) (h : jx_H) : Option jx_R := jx_den (jx_look (tb_76 D)) (jx_nms mk_76) 0 [vr 22 0, vi x1, vi x2, vi x3, vn, vn, vn, vn, vn, vn] [] h
noncomputable def F76_13 (D : jx_D) (x1 : Int32) (x2 : Int32) (x3 : Int32) (x4 : Int32) (h : jx_H) : Option jx_R := jx_den (jx_look (tb_76 D)) (jx_nms mk_76) 13 [vr 22 0, vi x1, vi x2, vi x3, vi x4, vn, vn, vn, vn, vn] [] h
noncomputable def F76_32 (D : jx_D) (h : jx_H) : Option jx_R := jx_den (jx_look (tb_76 D)) (jx_nms mk_76) 32 [vn, vn, vn, vn, vn, vn, vn, vn, vn, vn] [] h
noncomputable def F76_63 (D : jx_D) (x1 : Int32) (x2 : Int32) (x3 : Int32) (x5 : Int32) (x6 : Int32) (h : jx_H) : Option jx_R := jx_den (jx_look (tb_76 D)) (jx_nms mk_76) 63 [vr 22 0, vi x1, vi x2, vi x3, vn, vi x5, vi x6, vn, vn, vn] [] h
noncomputable def F76_87 (D : jx_D) (x1 : Int32) (x2 : Int32) (x3 : Int32) (x5 : Int32) (x6 : Int32) (s0 : Int32) (h : jx_H) : Option jx_R := jx_den (jx_look (tb_76 D)) (jx_nms mk_76) 87 [vr 22 0, vi x1, vi x2, vi x3, vn, vi x5, vi x6, vn, vn, vn] [vi s0] h
noncomputable def F76_180 (D : jx_D) (h : jx_H) : Option jx_R := jx_den (jx_look (tb_76 D)) (jx_nms mk_76) 180 [vn, vn, vn, vn, vn, vn, vn, vn, vn, vn] [] h
noncomputable def F76_105 (D : jx_D) (x1 : Int32) (x2 : Int32) (x3 : Int32) (x5 : Int32) (x6 : Int32) (x7 : Int32) (s0 : Int32) (h : jx_H) : Option jx_R := jx_den (jx_look (tb_76 D)) (jx_nms mk_76) 105 [vr 22 0, vi x1, vi x2, vi x3, vn, vi x5, vi x6, vi x7, vn, vn] [vi s0] h
noncomputable def F76_107 (D : jx_D) (x1 : Int32) (x2 : Int32) (x3 : Int32) (x5 : Int32) (x6 : Int32) (x7 : Int32) (x8 : Int32) (h : jx_H) : Option jx_R := jx_den (jx_look (tb_76 D)) (jx_nms mk_76) 107 [vr 22 0, vi x1, vi x2, vi x3, vn, vi x5, vi x6, vi x7, vi x8, vn] [] h
noncomputable def F76_158 (D : jx_D) (x1 : Int32) (x2 : Int32) (x3 : Int32) (x5 : Int32) (x6 : Int32) (x8 : Int32) (x9 : Int32) (s0 : Int32) (s1 : Int32) (h : jx_H) : Option jx_R := jx_den (jx_look (tb_76 D)) (jx_nms mk_76) 158 [vr 22 0, vi x1, vi x2, vi x3, vn, vi x5, vi x6, vn, vi x8, vi x9] [vi s0, vi s1, vr 22 0] h
set_option maxRecDepth 1000000 in
set_option maxHeartbeats 4000000 in
theorem e76_0 (D : jx_D) (x1 : Int32) (x2 : Int32) (x3 : Int32) (h : jx_H) : F76_0 D x1 x2 x3 h = (jx_if ((h.1 22 0 0) = 1) (F76_13 D x1 x2 x3 ((x2 + (h.1 14 0 0)) - x1) h) none) := (jx_it_eq (tl_m76 D) (jx_mem [13, 32, 63, 87, 105, 107, 158, 180]) 108 _ _ _ _).trans rfl
set_option maxRecDepth 1000000 in
set_option maxHeartbeats 4000000 in
theorem e76_13 (D : jx_D) (x1 : Int32) (x2 : Int32) (x3 : Int32) (x4 : Int32) (h : jx_H) : F76_13 D x1 x2 x3 x4 h = (jx_if (x4 < (2 : Int32)) (F76_32 D h) ((jx_if ((x4 - (1 : Int32)) = 0) none ((jx_if ((x3 / (x4 - (1 : Int32))) < (h.1 22 0 1)) ((jx_if ((h.1 22 0 0) = 1) ((jx_if (x1 < (h.1 14 0 0)) ((jx_bI (D 17 [vi x1] h) fun y1 h1 => F76_63 D x1 x2 x3 y1 (0 : Int32) h1)) ((jx_if ((x2 - (1 : Int32)) = 0) none (some ([], (jx_sI h 22 0 1 (x3 / (x2 - (1 : Int32)))))))))) none)) (F76_32 D h)))))) := (jx_it_eq (tl_m76 D) (jx_mem [13, 32, 63, 87, 105, 107, 158, 180]) 108 _ _ _ _).trans rfl
set_option maxRecDepth 1000000 in
set_option maxHeartbeats 4000000 in
theorem e76_32 (D : jx_D) (h : jx_H) : F76_32 D h = some ([], h) := (jx_it_eq (tl_m76 D) (jx_mem [13, 32, 63, 87, 105, 107, 158, 180]) 108 _ _ _ _).trans rfl
set_option maxRecDepth 1000000 in
set_option maxHeartbeats 4000000 in
theorem e76_63 (D : jx_D) (x1 : Int32) (x2 : Int32) (x3 : Int32) (x5 : Int32) (x6 : Int32) (h : jx_H) : F76_63 D x1 x2 x3 x5 x6 h = (jx_if (x6 ≤ x2) ((jx_if (x6 < (8 : Int32)) ((jx_if (x6 = x2) (F76_87 D x1 x2 x3 x5 x6 (1 : Int32) h) (F76_87 D x1 x2 x3 x5 x6 (0 : Int32) h))) (F76_180 D h))) (F76_180 D h)) := (jx_it_eq (tl_m76 D) (jx_mem [13, 32, 63, 87, 105, 107, 158, 180]) 108 _ _ _ _).trans rfl
set_option maxRecDepth 1000000 in
set_option maxHeartbeats 4000000 in
theorem e76_87 (D : jx_D) (x1 : Int32) (x2 : Int32) (x3 : Int32) (x5 : Int32) (x6 : Int32) (s0 : Int32) (h : jx_H) : F76_87 D x1 x2 x3 x5 x6 s0 h = (jx_if (s0 = 0) ((jx_if (jx_in x6 8) (F76_105 D x1 x2 x3 x5 x6 s0 (h.1 23 0 x6.toNatClampNeg) h) none)) (F76_105 D x1 x2 x3 x5 x6 s0 (0 : Int32) h)) := (jx_it_eq (tl_m76 D) (jx_mem [13, 32, 63, 87, 105, 107, 158, 180]) 108 _ _ _ _).trans rfl
set_option maxRecDepth 1000000 in
set_option maxHeartbeats 4000000 in
theorem e76_180 (D : jx_D) (h : jx_H) : F76_180 D h = some ([], h) := (jx_it_eq (tl_m76 D) (jx_mem [13, 32, 63, 87, 105, 107, 158, 180]) 108 _ _ _ _).trans rfl
set_option maxRecDepth 1000000 in
set_option maxHeartbeats 4000000 in
theorem e76_105 (D : jx_D) (x1 : Int32) (x2 : Int32) (x3 : Int32) (x5 : Int32) (x6 : Int32) (x7 : Int32) (s0 : Int32) (h : jx_H) : F76_105 D x1 x2 x3 x5 x6 x7 s0 h = F76_107 D x1 x2 x3 x5 x6 x7 s0 h := (jx_it_eq (tl_m76 D) (jx_mem [13, 32, 63, 87, 105, 107, 158, 180]) 108 _ _ _ _).trans rfl
set_option maxRecDepth 1000000 in
set_option maxHeartbeats 4000000 in
theorem e76_107 (D : jx_D) (x1 : Int32) (x2 : Int32) (x3 : Int32) (x5 : Int32) (x6 : Int32) (x7 : Int32) (x8 : Int32) (h : jx_H) : F76_107 D x1 x2 x3 x5 x6 x7 x8 h = (jx_if ((h.1 22 0 0) = 1) ((jx_bI (D 50 [vr 14 0, vi ((1 : Int32) <<< (x1 &&& 31)), vi (x5 &&& (x8 ^^^ ((-1) : Int32)))] h) fun y1 h1 => (jx_bI (D 1 [vi y1] h1) fun y2 h2 => (jx_if (jx_in x6 8) ((jx_if (x7 = 0) (F76_158 D x1 x2 x3 x5 x6 x8 y2 x2 (x1 + (1 : Int32)) (jx_sI h2 23 0 x6.toNatClampNeg (x8 ||| ((1 : Int32) <<< (x1 &&& 31))))) (F76_158 D x1 x2 x3 x5 x6 x8 y2 (x2 + (1 : Int32)) (x1 + (1 : Int32)) (jx_sI h2 23 0 x6.toNatClampNeg (x8 ||| ((1 : Int32) <<< (x1 &&& 31))))))) none)))) none) := (jx_it_eq (tl_m76 D) (jx_mem [13, 32, 63, 87, 105, 107, 158, 180]) 108 _ _ _ _).trans rfl
set_option maxRecDepth 1000000 in
set_option maxHeartbeats 4000000 in
theorem e76_158 (D : jx_D) (x1 : Int32) (x2 : Int32) (x3 : Int32) (x5 : Int32) (x6 : Int32) (x8 : Int32) (x9 : Int32) (s0 : Int32) (s1 : Int32) (h : jx_H) : F76_158 D x1 x2 x3 x5 x6 x8 x9 s0 s1 h = (jx_bV (D 76 [vr 22 0, vi s1, vi s0, vi (x3 + x9)] h) fun h1 => (jx_if (jx_in x6 8) (F76_63 D x1 x2 x3 x5 (x6 + 1) (jx_sI h1 23 0 x6.toNatClampNeg x8)) none)) := (jx_it_eq (tl_m76 D) (jx_mem [13, 32, 63, 87, 105, 107, 158, 180]) 108 _ _ _ _).trans rfl
noncomputable def F77_0 (D : jx_D) (h : jx_H) : Option jx_R := jx_den (jx_look (tb_77 D)) (jx_nms mk_77) 0 [vr 0 0] [] h
set_option maxRecDepth 1000000 in
set_option maxHeartbeats 4000000 in
theorem e77_0 (D : jx_D) (h : jx_H) : F77_0 D h = (jx_if ((h.1 1 0 2) = 0) ((jx_bV (D 38 [vr 14 0, vr 1 0] h) fun h1 => (jx_bI (D 78 [vr 22 0, vr 14 0] h1) fun y2 h2 => some ([vi y2], h2)))) ((jx_bI (D 8 [vr 0 0, vi ((-8) : Int32)] h) fun y3 h3 => some ([vi y3], h3)))) := (jx_it_eq (tl_m77 D) (jx_mem []) 22 _ _ _ _).trans rfl
noncomputable def F78_0 (D : jx_D) (h : jx_H) : Option jx_R := jx_den (jx_look (tb_78 D)) (jx_nms mk_78) 0 [vr 22 0, vr 14 0, vn, vn, vn, vn] [] h
noncomputable def F78_4 (D : jx_D) (x2 : Int32) (x3 : Int32) (h : jx_H) : Option jx_R := jx_den (jx_look (tb_78 D)) (jx_nms mk_78) 4 [vn, vr 14 0, vi x2, vi x3, vn, vn] [] h
noncomputable def F78_20 (D : jx_D) (x2 : Int32) (x3 : Int32) (x4 : Int32) (h : jx_H) : Option jx_R := jx_den (jx_look (tb_78 D)) (jx_nms mk_78) 20 [vn, vr 14 0, vi x2, vi x3, vi x4, vn] [] h
noncomputable def F78_58 (D : jx_D) (x2 : Int32) (x3 : Int32) (h : jx_H) : Option jx_R := jx_den (jx_look (tb_78 D)) (jx_nms mk_78) 58 [vn, vr 14 0, vi x2, vi x3, vn, vn] [] h
set_option maxRecDepth 1000000 in
set_option maxHeartbeats 4000000 in
theorem e78_0 (D : jx_D) (h : jx_H) : F78_0 D h = F78_4 D (0 : Int32) (1 : Int32) h := (jx_it_eq (tl_m78 D) (jx_mem [4, 20, 58]) 43 _ _ _ _).trans rfl
set_option maxRecDepth 1000000 in
set_option maxHeartbeats 4000000 in
theorem e78_4 (D : jx_D) (x2 : Int32) (x3 : Int32) (h : jx_H) : F78_4 D x2 x3 h = (jx_if (x3 ≤ (h.1 14 0 3)) ((jx_bI (D 1 [vi x3] h) fun y1 h1 => F78_20 D x2 x3 (y1 - (1 : Int32)) h1)) (some ([vi x2], h))) := (jx_it_eq (tl_m78 D) (jx_mem [4, 20, 58]) 43 _ _ _ _).trans rfl
set_option maxRecDepth 1000000 in
set_option maxHeartbeats 4000000 in
theorem e78_20 (D : jx_D) (x2 : Int32) (x3 : Int32) (x4 : Int32) (h : jx_H) : F78_20 D x2 x3 x4 h = (jx_if (0 < x4) ((jx_if (jx_in x3 256) ((jx_if (jx_in x3 256) ((jx_bI (D 1 [vi ((h.1 15 0 x3.toNatClampNeg) &&& (h.1 16 0 x3.toNatClampNeg))] h) fun y1 h1 => (jx_if (x4 = 0) none (F78_58 D (jx_mx x2 (((y1 + x4) - (1 : Int32)) / x4)) x3 h1)))) none)) none)) (F78_58 D x2 x3 h)) := (jx_it_eq (tl_m78 D) (jx_mem [4, 20, 58]) 43 _ _ _ _).trans rfl
set_option maxRecDepth 1000000 in
set_option maxHeartbeats 4000000 in
theorem e78_58 (D : jx_D) (x2 : Int32) (x3 : Int32) (h : jx_H) : F78_58 D x2 x3 h = F78_4 D x2 (x3 + 1) h := (jx_it_eq (tl_m78 D) (jx_mem [4, 20, 58]) 43 _ _ _ _).trans rfl
noncomputable def F79_0 (D : jx_D) (h : jx_H) : Option jx_R := jx_den (jx_look (tb_79 D)) (jx_nms mk_79) 0 [vr 0 0] [] h
set_option maxRecDepth 1000000 in
set_option maxHeartbeats 4000000 in
theorem e79_0 (D : jx_D) (h : jx_H) : F79_0 D h = (jx_if ((h.1 1 0 2) = 0) ((jx_bV (D 38 [vr 14 0, vr 1 0] h) fun h1 => (jx_bL (D 80 [vr 22 0, vr 14 0] h1) fun y2 h2 => some ([vl y2], h2)))) ((jx_bI (D 8 [vr 0 0, vi ((-8) : Int32)] h) fun y3 h3 => some ([vl ((y3).toInt64)], h3)))) := (jx_it_eq (tl_m79 D) (jx_mem []) 23 _ _ _ _).trans rfl
noncomputable def F80_0 (D : jx_D) (h : jx_H) : Option jx_R := jx_den (jx_look (tb_80 D)) (jx_nms mk_80) 0 [vr 22 0, vr 14 0, vn] [] h
noncomputable def F80_11 (D : jx_D) (x2 : Int32) (h : jx_H) : Option jx_R := jx_den (jx_look (tb_80 D)) (jx_nms mk_80) 11 [vr 22 0, vr 14 0, vi x2] [] h
set_option maxRecDepth 1000000 in
set_option maxHeartbeats 4000000 in
theorem e80_0 (D : jx_D) (h : jx_H) : F80_0 D h = (jx_if ((h.1 14 0 0) = 0) (some ([vl (0 : Int64)], h)) (F80_11 D (1 : Int32) h)) := (jx_it_eq (tl_m80 D) (jx_mem [11]) 30 _ _ _ _).trans rfl
set_option maxRecDepth 1000000 in
set_option maxHeartbeats 4000000 in
theorem e80_11 (D : jx_D) (x2 : Int32) (h : jx_H) : F80_11 D x2 h = (jx_if (x2 ≤ (h.1 14 0 3)) ((jx_bL (D 81 [vr 22 0, vr 14 0, vi x2] h) fun y1 h1 => (jx_if (jx_in x2 256) (F80_11 D (x2 + 1) (jx_sL h1 24 0 x2.toNatClampNeg y1)) none))) ((jx_if (jx_in (h.1 14 0 3) 256) (some ([vl (h.2 24 0 ((h.1 14 0 3).toNatClampNeg))], h)) none))) := (jx_it_eq (tl_m80 D) (jx_mem [11]) 30 _ _ _ _).trans rfl
noncomputable def F81_0 (D : jx_D) (x2 : Int32) (h : jx_H) : Option jx_R := jx_den (jx_look (tb_81 D)) (jx_nms mk_81) 0 [vr 22 0, vr 14 0, vi x2, vn, vn, vn, vn, vn, vn, vn] [] h
noncomputable def F81_5 (D : jx_D) (x2 : Int32) (x3 : Int32) (h : jx_H) : Option jx_R := jx_den (jx_look (tb_81 D)) (jx_nms mk_81) 5 [vr 22 0, vr 14 0, vi x2, vi x3, vn, vn, vn, vn, vn, vn] [] h
noncomputable def F81_10 (D : jx_D) (x2 : Int32) (x3 : Int32) (x4 : Int32) (h : jx_H) : Option jx_R := jx_den (jx_look (tb_81 D)) (jx_nms mk_81) 10 [vr 22 0, vr 14 0, vi x2, vi x3, vi x4, vn, vn, vn, vn, vn] [] h
noncomputable def F81_25 (D : jx_D) (x2 : Int32) (x3 : Int32) (x4 : Int32) (x5 : Int32) (h : jx_H) : Option jx_R := jx_den (jx_look (tb_81 D)) (jx_nms mk_81) 25 [vr 22 0, vr 14 0, vi x2, vi x3, vi x4, vi x5, vn, vn, vn, vn] [] h
noncomputable def F81_32 (D : jx_D) (x2 : Int32) (x3 : Int32) (x5 : Int32) (x6 : Int32) (h : jx_H) : Option jx_R := jx_den (jx_look (tb_81 D)) (jx_nms mk_81) 32 [vr 22 0, vr 14 0, vi x2, vi x3, vn, vi x5, vi x6, vn, vn, vn] [] h
noncomputable def F81_47 (D : jx_D) (x2 : Int32) (x3 : Int32) (x5 : Int32) (x6 : Int32) (x7 : Int64) (x9 : Int32) (h : jx_H) : Option jx_R := jx_den (jx_look (tb_81 D)) (jx_nms mk_81) 47 [vr 22 0, vr 14 0, vi x2, vi x3, vn, vi x5, vi x6, vl x7, vn, vi x9] [] h
noncomputable def F81_69 (D : jx_D) (x2 : Int32) (x3 : Int32) (x5 : Int32) (x6 : Int32) (x7 : Int64) (x9 : Int32) (h : jx_H) : Option jx_R := jx_den (jx_look (tb_81 D)) (jx_nms mk_81) 69 [vr 22 0, vr 14 0, vi x2, vi x3, vn, vi x5, vi x6, vl x7, vn, vi x9] [] h
noncomputable def F81_78 (D : jx_D) (x2 : Int32) (x3 : Int32) (x5 : Int32) (x6 : Int32) (x7 : Int64) (x9 : Int32) (h : jx_H) : Option jx_R := jx_den (jx_look (tb_81 D)) (jx_nms mk_81) 78 [vr 22 0, vr 14 0, vi x2, vi x3, vn, vi x5, vi x6, vl x7, vn, vi x9] [] h
set_option maxRecDepth 1000000 in
set_option maxHeartbeats 4000000 in
theorem e81_0 (D : jx_D) (x2 : Int32) (h : jx_H) : F81_0 D x2 h = F81_5 D x2 (x2 &&& (-x2)) h := (jx_it_eq (tl_m81 D) (jx_mem [5, 10, 25, 32, 47, 69, 78]) 56 _ _ _ _).trans rfl
set_option maxRecDepth 1000000 in
set_option maxHeartbeats 4000000 in
theorem e81_5 (D : jx_D) (x2 : Int32) (x3 : Int32) (h : jx_H) : F81_5 D x2 x3 h = F81_10 D x2 x3 (x2 ^^^ x3) h := (jx_it_eq (tl_m81 D) (jx_mem [5, 10, 25, 32, 47, 69, 78]) 56 _ _ _ _).trans rfl
set_option maxRecDepth 1000000 in
set_option maxHeartbeats 4000000 in
theorem e81_10 (D : jx_D) (x2 : Int32) (x3 : Int32) (x4 : Int32) (h : jx_H) : F81_10 D x2 x3 x4 h = (jx_if (x4 = 0) (some ([vl (1 : Int64)], h)) (F81_25 D x2 x3 x4 (x4 &&& (-x4)) h)) := (jx_it_eq (tl_m81 D) (jx_mem [5, 10, 25, 32, 47, 69, 78]) 56 _ _ _ _).trans rfl
set_option maxRecDepth 1000000 in
set_option maxHeartbeats 4000000 in
theorem e81_25 (D : jx_D) (x2 : Int32) (x3 : Int32) (x4 : Int32) (x5 : Int32) (h : jx_H) : F81_25 D x2 x3 x4 x5 h = F81_32 D x2 x3 x5 (x4 ^^^ x5) h := (jx_it_eq (tl_m81 D) (jx_mem [5, 10, 25, 32, 47, 69, 78]) 56 _ _ _ _).trans rfl
set_option maxRecDepth 1000000 in
set_option maxHeartbeats 4000000 in
theorem e81_32 (D : jx_D) (x2 : Int32) (x3 : Int32) (x5 : Int32) (x6 : Int32) (h : jx_H) : F81_32 D x2 x3 x5 x6 h = (jx_bL (D 82 [vr 22 0, vr 14 0, vi x3, vi x5, vi x2] h) fun y1 h1 => F81_47 D x2 x3 x5 x6 y1 x6 h1) := (jx_it_eq (tl_m81 D) (jx_mem [5, 10, 25, 32, 47, 69, 78]) 56 _ _ _ _).trans rfl
set_option maxRecDepth 1000000 in
set_option maxHeartbeats 4000000 in
theorem e81_47 (D : jx_D) (x2 : Int32) (x3 : Int32) (x5 : Int32) (x6 : Int32) (x7 : Int64) (x9 : Int32) (h : jx_H) : F81_47 D x2 x3 x5 x6 x7 x9 h = (jx_if (0 < x9) ((jx_bL (D 82 [vr 22 0, vr 14 0, vi x3, vi (x5 ||| x9), vi x2] h) fun y1 h1 => F81_69 D x2 x3 x5 x6 (x7 + y1) x9 h1)) (some ([vl x7], h))) := (jx_it_eq (tl_m81 D) (jx_mem [5, 10, 25, 32, 47, 69, 78]) 56 _ _ _ _).trans rfl
set_option maxRecDepth 1000000 in
set_option maxHeartbeats 4000000 in
theorem e81_69 (D : jx_D) (x2 : Int32) (x3 : Int32) (x5 : Int32) (x6 : Int32) (x7 : Int64) (x9 : Int32) (h : jx_H) : F81_69 D x2 x3 x5 x6 x7 x9 h = F81_78 D x2 x3 x5 x6 x7 ((x9 - (1 : Int32)) &&& x6) h := (jx_it_eq (tl_m81 D) (jx_mem [5, 10, 25, 32, 47, 69, 78]) 56 _ _ _ _).trans rfl
set_option maxRecDepth 1000000 in
set_option maxHeartbeats 4000000 in
theorem e81_78 (D : jx_D) (x2 : Int32) (x3 : Int32) (x5 : Int32) (x6 : Int32) (x7 : Int64) (x9 : Int32) (h : jx_H) : F81_78 D x2 x3 x5 x6 x7 x9 h = F81_47 D x2 x3 x5 x6 x7 x9 h := (jx_it_eq (tl_m81 D) (jx_mem [5, 10, 25, 32, 47, 69, 78]) 56 _ _ _ _).trans rfl
noncomputable def F82_0 (D : jx_D) (x2 : Int32) (x3 : Int32) (x4 : Int32) (h : jx_H) : Option jx_R := jx_den (jx_look (tb_82 D)) (jx_nms mk_82) 0 [vr 22 0, vr 14 0, vi x2, vi x3, vi x4, vn] [] h
set_option maxRecDepth 1000000 in
set_option maxHeartbeats 4000000 in
theorem e82_0 (D : jx_D) (x2 : Int32) (x3 : Int32) (x4 : Int32) (h : jx_H) : F82_0 D x2 x3 x4 h = (jx_bI (D 50 [vr 14 0, vi x2, vi x3] h) fun y1 h1 => (jx_bI (D 1 [vi y1] h1) fun y2 h2 => (jx_if (jx_in x3 256) ((jx_if (jx_in (x4 ^^^ x3) 256) (some ([vl ((((y2).toInt64) * (h2.2 24 0 x3.toNatClampNeg)) * (h2.2 24 0 ((x4 ^^^ x3).toNatClampNeg)))], h2)) none)) none))) := (jx_it_eq (tl_m82 D) (jx_mem []) 24 _ _ _ _).trans rfl
noncomputable def F83_0 (D : jx_D) (x1 : Int32) (h : jx_H) : Option jx_R := jx_den (jx_look (tb_83 D)) (jx_nms mk_83) 0 [vr 0 0, vi x1] [] h
set_option maxRecDepth 1000000 in
set_option maxHeartbeats 4000000 in
theorem e83_0 (D : jx_D) (x1 : Int32) (h : jx_H) : F83_0 D x1 h = (jx_bI (D 12 [vr 0 0, vi x1] h) fun y1 h1 => (jx_if (y1 = 0) ((jx_if ((h1.1 1 0 2) = 0) ((jx_bI (D 8 [vr 0 0, vi ((-4) : Int32)] h1) fun y2 h2 => some ([vi y2], h2))) ((jx_if ((h1.1 1 0 0) = (1 : Int32)) ((jx_bI (D 8 [vr 0 0, vi ((-3) : Int32)] h1) fun y3 h3 => some ([vi y3], h3))) ((jx_bV (D 38 [vr 14 0, vr 1 0] h1) fun h4 => (jx_bI (D 84 [vr 14 0, vi x1] h4) fun y5 h5 => some ([vi y5], h5)))))))) ((jx_bI (D 8 [vr 0 0, vi ((-1) : Int32)] h1) fun y6 h6 => some ([vi y6], h6))))) := (jx_it_eq (tl_m83 D) (jx_mem []) 38 _ _ _ _).trans rfl
noncomputable def F84_0 (D : jx_D) (x1 : Int32) (h : jx_H) : Option jx_R := jx_den (jx_look (tb_84 D)) (jx_nms mk_84) 0 [vr 14 0, vi x1, vn, vn] [] h
noncomputable def F84_7 (D : jx_D) (x1 : Int32) (x2 : Int32) (x3 : Int32) (h : jx_H) : Option jx_R := jx_den (jx_look (tb_84 D)) (jx_nms mk_84) 7 [vr 14 0, vi x1, vi x2, vi x3] [] h
noncomputable def F84_37 (D : jx_D) (x1 : Int32) (x2 : Int32) (x3 : Int32) (h : jx_H) : Option jx_R := jx_den (jx_look (tb_84 D)) (jx_nms mk_84) 37 [vr 14 0, vi x1, vi x2, vi x3] [] h
set_option maxRecDepth 1000000 in
set_option maxHeartbeats 4000000 in
theorem e84_0 (D : jx_D) (x1 : Int32) (h : jx_H) : F84_0 D x1 h = F84_7 D x1 (h.1 14 0 1) (1 : Int32) h := (jx_it_eq (tl_m84 D) (jx_mem [7, 37]) 28 _ _ _ _).trans rfl
set_option maxRecDepth 1000000 in
set_option maxHeartbeats 4000000 in
theorem e84_7 (D : jx_D) (x1 : Int32) (x2 : Int32) (x3 : Int32) (h : jx_H) : F84_7 D x1 x2 x3 h = (jx_if (x3 < (h.1 14 0 3)) ((jx_bI (D 19 [vi x3, vi x1] h) fun y1 h1 => (jx_if (y1 = 0) (F84_37 D x1 x2 x3 h1) ((jx_if (jx_in x3 256) ((jx_bI (D 1 [vi (h1.1 18 0 x3.toNatClampNeg)] h1) fun y2 h2 => F84_37 D x1 (jx_mn x2 y2) x3 h2)) none))))) (some ([vi x2], h))) := (jx_it_eq (tl_m84 D) (jx_mem [7, 37]) 28 _ _ _ _).trans rfl
set_option maxRecDepth 1000000 in
set_option maxHeartbeats 4000000 in
theorem e84_37 (D : jx_D) (x1 : Int32) (x2 : Int32) (x3 : Int32) (h : jx_H) : F84_37 D x1 x2 x3 h = F84_7 D x1 x2 (x3 + 1) h := (jx_it_eq (tl_m84 D) (jx_mem [7, 37]) 28 _ _ _ _).trans rfl
noncomputable def F85_0 (D : jx_D) (h : jx_H) : Option jx_R := jx_den (jx_look (tb_85 D)) (jx_nms mk_85) 0 [vr 0 0] [] h
set_option maxRecDepth 1000000 in
set_option maxHeartbeats 4000000 in
theorem e85_0 (D : jx_D) (h : jx_H) : F85_0 D h = (jx_if ((h.1 1 0 2) = 0) ((jx_if ((h.1 1 0 1) = 0) ((jx_bI (D 8 [vr 0 0, vi ((-6) : Int32)] h) fun y1 h1 => some ([vi y1], h1))) ((jx_bI (D 86 [vr 25 0, vr 1 0] h) fun y2 h2 => some ([vi y2], h2))))) ((jx_bI (D 8 [vr 0 0, vi ((-8) : Int32)] h) fun y3 h3 => some ([vi y3], h3)))) := (jx_it_eq (tl_m85 D) (jx_mem []) 25 _ _ _ _).trans rfl
noncomputable def F86_0 (D : jx_D) (h : jx_H) : Option jx_R := jx_den (jx_look (tb_86 D)) (jx_nms mk_86) 0 [vr 25 0, vr 1 0, vn] [] h
noncomputable def F86_22 (D : jx_D) (x2 : Int32) (h : jx_H) : Option jx_R := jx_den (jx_look (tb_86 D)) (jx_nms mk_86) 22 [vr 25 0, vn, vi x2] [] h
noncomputable def F86_50 (D : jx_D) (x2 : Int32) (h : jx_H) : Option jx_R := jx_den (jx_look (tb_86 D)) (jx_nms mk_86) 50 [vr 25 0, vn, vi x2] [] h
set_option maxRecDepth 1000000 in
set_option maxHeartbeats 4000000 in
theorem e86_0 (D : jx_D) (h : jx_H) : F86_0 D h = F86_22 D (0 : Int32) (jx_sI (jx_sI (jx_sI (jx_sI h 25 0 0 (1 : Int32)) 25 0 1 (0 : Int32)) 25 0 2 (0 : Int32)) 25 0 3 (0 : Int32)) := (jx_it_eq (tl_m86 D) (jx_mem [22, 50]) 36 _ _ _ _).trans rfl
set_option maxRecDepth 1000000 in
set_option maxHeartbeats 4000000 in
theorem e86_22 (D : jx_D) (x2 : Int32) (h : jx_H) : F86_22 D x2 h = (jx_if ((h.1 25 0 0) = 1) ((jx_if (x2 < (h.1 1 0 0)) ((jx_bI (D 19 [vi (h.1 25 0 1), vi x2] h) fun y1 h1 => (jx_if (y1 = 0) ((jx_bV (D 87 [vr 25 0, vi x2, vi (0 : Int32)] h1) fun h2 => F86_50 D x2 h2)) (F86_50 D x2 h1)))) (some ([vi (h.1 25 0 3)], h)))) none) := (jx_it_eq (tl_m86 D) (jx_mem [22, 50]) 36 _ _ _ _).trans rfl
set_option maxRecDepth 1000000 in
set_option maxHeartbeats 4000000 in
theorem e86_50 (D : jx_D) (x2 : Int32) (h : jx_H) : F86_50 D x2 h = F86_22 D (x2 + 1) h := (jx_it_eq (tl_m86 D) (jx_mem [22, 50]) 36 _ _ _ _).trans rfl
noncomputable def F87_0 (D : jx_D) (x1 : Int32) (x2 : Int32) (h : jx_H) : Option jx_R := jx_den (jx_look (tb_87 D)) (jx_nms mk_87) 0 [vr 25 0, vi x1, vi x2, vn, vn, vn] [] h
noncomputable def F87_21 (D : jx_D) (x1 : Int32) (x2 : Int32) (x3 : Int32) (h : jx_H) : Option jx_R := jx_den (jx_look (tb_87 D)) (jx_nms mk_87) 21 [vr 25 0, vi x1, vi x2, vi x3, vn, vn] [] h
noncomputable def F87_50 (D : jx_D) (x1 : Int32) (x2 : Int32) (x3 : Int32) (s0 : Int32) (h : jx_H) : Option jx_R := jx_den (jx_look (tb_87 D)) (jx_nms mk_87) 50 [vr 25 0, vi x1, vi x2, vi x3, vn, vn] [vi s0] h
noncomputable def F87_84 (D : jx_D) (x1 : Int32) (x2 : Int32) (x3 : Int32) (x4 : Int32) (h : jx_H) : Option jx_R := jx_den (jx_look (tb_87 D)) (jx_nms mk_87) 84 [vr 25 0, vi x1, vi x2, vi x3, vi x4, vn] [] h
noncomputable def F87_162 (D : jx_D) (x1 : Int32) (x2 : Int32) (x3 : Int32) (h : jx_H) : Option jx_R := jx_den (jx_look (tb_87 D)) (jx_nms mk_87) 162 [vr 25 0, vi x1, vi x2, vi x3, vn, vn] [] h
noncomputable def F87_113 (D : jx_D) (x1 : Int32) (x2 : Int32) (x3 : Int32) (x4 : Int32) (h : jx_H) : Option jx_R := jx_den (jx_look (tb_87 D)) (jx_nms mk_87) 113 [vr 25 0, vi x1, vi x2, vi x3, vi x4, vn] [] h
noncomputable def F87_139 (D : jx_D) (x1 : Int32) (x2 : Int32) (x3 : Int32) (s0 : Int32) (h : jx_H) : Option jx_R := jx_den (jx_look (tb_87 D)) (jx_nms mk_87) 139 [vr 25 0, vi x1, vi x2, vi x3, vn, vn] [vi s0] h
noncomputable def F87_141 (D : jx_D) (x1 : Int32) (x2 : Int32) (x3 : Int32) (x5 : Int32) (h : jx_H) : Option jx_R := jx_den (jx_look (tb_87 D)) (jx_nms mk_87) 141 [vr 25 0, vi x1, vi x2, vi x3, vn, vi x5] [] h
set_option maxRecDepth 1000000 in
set_option maxHeartbeats 4000000 in
theorem e87_0 (D : jx_D) (x1 : Int32) (x2 : Int32) (h : jx_H) : F87_0 D x1 x2 h = (jx_if (x2 < (8 : Int32)) (F87_21 D x1 x2 (0 : Int32) (jx_sI h 25 0 1 ((h.1 25 0 1) ||| ((1 : Int32) <<< (x1 &&& 31))))) (some ([], (jx_sI h 25 0 1 ((h.1 25 0 1) ||| ((1 : Int32) <<< (x1 &&& 31))))))) := (jx_it_eq (tl_m87 D) (jx_mem [21, 50, 84, 113, 139, 141, 162]) 94 _ _ _ _).trans rfl
set_option maxRecDepth 1000000 in
set_option maxHeartbeats 4000000 in
theorem e87_21 (D : jx_D) (x1 : Int32) (x2 : Int32) (x3 : Int32) (h : jx_H) : F87_21 D x1 x2 x3 h = (jx_if ((h.1 25 0 0) = 1) ((jx_if (x3 < (h.1 1 0 1)) ((jx_if ((h.1 25 0 0) = 1) ((jx_if (jx_in x3 20) ((jx_if ((h.1 2 0 x3.toNatClampNeg) = x1) (F87_50 D x1 x2 x3 (1 : Int32) h) (F87_50 D x1 x2 x3 (0 : Int32) h))) none)) none)) (some ([], h)))) none) := (jx_it_eq (tl_m87 D) (jx_mem [21, 50, 84, 113, 139, 141, 162]) 94 _ _ _ _).trans rfl
set_option maxRecDepth 1000000 in
set_option maxHeartbeats 4000000 in
theorem e87_50 (D : jx_D) (x1 : Int32) (x2 : Int32) (x3 : Int32) (s0 : Int32) (h : jx_H) : F87_50 D x1 x2 x3 s0 h = (jx_bI (D 19 [vi (h.1 25 0 2), vi x3] h) fun y1 h1 => (jx_if (y1 = 0) ((jx_if (s0 = 0) ((jx_if ((h1.1 25 0 0) = 1) ((jx_if (jx_in x3 20) ((jx_if ((h1.1 3 0 x3.toNatClampNeg) = x1) (F87_84 D x1 x2 x3 s0 h1) (F87_162 D x1 x2 x3 h1))) none)) none)) (F87_84 D x1 x2 x3 s0 h1))) (F87_162 D x1 x2 x3 h1))) := (jx_it_eq (tl_m87 D) (jx_mem [21, 50, 84, 113, 139, 141, 162]) 94 _ _ _ _).trans rfl
set_option maxRecDepth 1000000 in
set_option maxHeartbeats 4000000 in
theorem e87_84 (D : jx_D) (x1 : Int32) (x2 : Int32) (x3 : Int32) (x4 : Int32) (h : jx_H) : F87_84 D x1 x2 x3 x4 h = (jx_if (x4 = 0) (F87_113 D x1 x2 x3 x4 (jx_sI (jx_sI h 25 0 2 ((h.1 25 0 2) ||| ((1 : Int32) <<< (x3 &&& 31)))) 25 0 3 ((h.1 25 0 3) ||| ((1 : Int32) <<< (x3 &&& 31))))) (F87_113 D x1 x2 x3 x4 (jx_sI h 25 0 2 ((h.1 25 0 2) ||| ((1 : Int32) <<< (x3 &&& 31)))))) := (jx_it_eq (tl_m87 D) (jx_mem [21, 50, 84, 113, 139, 141, 162]) 94 _ _ _ _).trans rfl
set_option maxRecDepth 1000000 in
set_option maxHeartbeats 4000000 in
theorem e87_162 (D : jx_D) (x1 : Int32) (x2 : Int32) (x3 : Int32) (h : jx_H) : F87_162 D x1 x2 x3 h = F87_21 D x1 x2 (x3 + 1) h := (jx_it_eq (tl_m87 D) (jx_mem [21, 50, 84, 113, 139, 141, 162]) 94 _ _ _ _).trans rfl
set_option maxRecDepth 1000000 in
set_option maxHeartbeats 4000000 in
theorem e87_113 (D : jx_D) (x1 : Int32) (x2 : Int32) (x3 : Int32) (x4 : Int32) (h : jx_H) : F87_113 D x1 x2 x3 x4 h = (jx_if (x4 = 0) ((jx_if ((h.1 25 0 0) = 1) ((jx_if (jx_in x3 20) (F87_139 D x1 x2 x3 (h.1 2 0 x3.toNatClampNeg) h) none)) none)) ((jx_if ((h.1 25 0 0) = 1) ((jx_if (jx_in x3 20) (F87_139 D x1 x2 x3 (h.1 3 0 x3.toNatClampNeg) h) none)) none))) := (jx_it_eq (tl_m87 D) (jx_mem [21, 50, 84, 113, 139, 141, 162]) 94 _ _ _ _).trans rfl
set_option maxRecDepth 1000000 in
set_option maxHeartbeats 4000000 in
theorem e87_139 (D : jx_D) (x1 : Int32) (x2 : Int32) (x3 : Int32) (s0 : Int32) (h : jx_H) : F87_139 D x1 x2 x3 s0 h = F87_141 D x1 x2 x3 s0 h := (jx_it_eq (tl_m87 D) (jx_mem [21, 50, 84, 113, 139, 141, 162]) 94 _ _ _ _).trans rfl
set_option maxRecDepth 1000000 in
set_option maxHeartbeats 4000000 in
theorem e87_141 (D : jx_D) (x1 : Int32) (x2 : Int32) (x3 : Int32) (x5 : Int32) (h : jx_H) : F87_141 D x1 x2 x3 x5 h = (jx_bI (D 19 [vi (h.1 25 0 1), vi x5] h) fun y1 h1 => (jx_if (y1 = 0) ((jx_bV (D 87 [vr 25 0, vi x5, vi (x2 + (1 : Int32))] h1) fun h2 => F87_162 D x1 x2 x3 h2)) (F87_162 D x1 x2 x3 h1))) := (jx_it_eq (tl_m87 D) (jx_mem [21, 50, 84, 113, 139, 141, 162]) 94 _ _ _ _).trans rfl
noncomputable def F88_0 (D : jx_D) (h : jx_H) : Option jx_R := jx_den (jx_look (tb_88 D)) (jx_nms mk_88) 0 [vr 0 0] [] h
noncomputable def F88_54 (D : jx_D) (s0 : Int32) (h : jx_H) : Option jx_R := jx_den (jx_look (tb_88 D)) (jx_nms mk_88) 54 [vn] [vi s0] h
set_option maxRecDepth 1000000 in
set_option maxHeartbeats 4000000 in
theorem e88_0 (D : jx_D) (h : jx_H) : F88_0 D h = (jx_if ((h.1 1 0 2) = 0) ((jx_bV (D 38 [vr 14 0, vr 1 0] h) fun h1 => (jx_bI (D 86 [vr 25 0, vr 1 0] h1) fun y2 h2 => (jx_bI (D 89 [vr 14 0, vi y2] h2) fun y3 h3 => (jx_if (y3 = 0) (F88_54 D (0 : Int32) h3) (F88_54 D (1 : Int32) h3)))))) ((jx_bI (D 8 [vr 0 0, vi ((-8) : Int32)] h) fun y4 h4 => some ([vi y4], h4)))) := (jx_it_eq (tl_m88 D) (jx_mem [54]) 29 _ _ _ _).trans rfl
set_option maxRecDepth 1000000 in
set_option maxHeartbeats 4000000 in
theorem e88_54 (D : jx_D) (s0 : Int32) (h : jx_H) : F88_54 D s0 h = some ([vi s0], h) := (jx_it_eq (tl_m88 D) (jx_mem [54]) 29 _ _ _ _).trans rfl
noncomputable def F89_0 (D : jx_D) (x1 : Int32) (h : jx_H) : Option jx_R := jx_den (jx_look (tb_89 D)) (jx_nms mk_89) 0 [vr 14 0, vi x1, vn, vn] [] h
noncomputable def F89_2 (D : jx_D) (x1 : Int32) (x2 : Int32) (h : jx_H) : Option jx_R := jx_den (jx_look (tb_89 D)) (jx_nms mk_89) 2 [vr 14 0, vi x1, vi x2, vn] [] h
noncomputable def F89_72 (D : jx_D) (s0 : Int32) (h : jx_H) : Option jx_R := jx_den (jx_look (tb_89 D)) (jx_nms mk_89) 72 [vn, vn, vn, vn] [vi s0] h
set_option maxRecDepth 1000000 in
set_option maxHeartbeats 4000000 in
theorem e89_0 (D : jx_D) (x1 : Int32) (h : jx_H) : F89_0 D x1 h = F89_2 D x1 (1 : Int32) h := (jx_it_eq (tl_m89 D) (jx_mem [2, 72]) 52 _ _ _ _).trans rfl
set_option maxRecDepth 1000000 in
set_option maxHeartbeats 4000000 in
theorem e89_2 (D : jx_D) (x1 : Int32) (x2 : Int32) (h : jx_H) : F89_2 D x1 x2 h = (jx_if (x2 < (h.1 14 0 3)) ((jx_if (jx_in x2 256) ((jx_if (jx_in x2 256) ((jx_if (jx_in x2 256) ((jx_if (jx_in x2 256) ((jx_if (((((h.1 15 0 x2.toNatClampNeg) &&& ((h.1 16 0 x2.toNatClampNeg) ^^^ ((-1) : Int32))) &&& (x1 ^^^ ((-1) : Int32))) ||| (((h.1 16 0 x2.toNatClampNeg) &&& ((h.1 15 0 x2.toNatClampNeg) ^^^ ((-1) : Int32))) &&& x1)) = 0) ((jx_if ((0 : Int32) = 0 ∨ (0 : Int32) = 1) (some ([vi (0 : Int32)], h)) none)) (F89_2 D x1 (x2 + 1) h))) none)) none)) none)) none)) ((jx_if (0 < (h.1 14 0 0)) (F89_72 D (1 : Int32) h) (F89_72 D (0 : Int32) h)))) := (jx_it_eq (tl_m89 D) (jx_mem [2, 72]) 52 _ _ _ _).trans rfl
set_option maxRecDepth 1000000 in
set_option maxHeartbeats 4000000 in
theorem e89_72 (D : jx_D) (s0 : Int32) (h : jx_H) : F89_72 D s0 h = (jx_if (s0 = 0 ∨ s0 = 1) (some ([vi s0], h)) none) := (jx_it_eq (tl_m89 D) (jx_mem [2, 72]) 52 _ _ _ _).trans rfl
noncomputable def F90_0 (D : jx_D) (h : jx_H) : Option jx_R := jx_den (jx_look (tb_90 D)) (jx_nms mk_90) 0 [vr 0 0] [] h
noncomputable def F90_30 (D : jx_D) (h : jx_H) : Option jx_R := jx_den (jx_look (tb_90 D)) (jx_nms mk_90) 30 [vr 0 0] [] h
set_option maxRecDepth 1000000 in
set_option maxHeartbeats 4000000 in
theorem e90_0 (D : jx_D) (h : jx_H) : F90_0 D h = (jx_if ((h.1 1 0 2) = 0) (F90_30 D h) ((jx_if ((h.1 1 0 1) ≤ (12 : Int32)) (F90_30 D h) ((jx_bI (D 8 [vr 0 0, vi ((-7) : Int32)] h) fun y1 h1 => some ([vl ((y1).toInt64)], h1)))))) := (jx_it_eq (tl_m90 D) (jx_mem [30]) 30 _ _ _ _).trans rfl
set_option maxRecDepth 1000000 in
set_option maxHeartbeats 4000000 in
theorem e90_30 (D : jx_D) (h : jx_H) : F90_30 D h = (jx_bV (D 38 [vr 14 0, vr 1 0] h) fun h1 => (jx_bL (D 91 [vr 26 0, vr 14 0, vr 1 0] h1) fun y2 h2 => some ([vl y2], h2))) := (jx_it_eq (tl_m90 D) (jx_mem [30]) 30 _ _ _ _).trans rfl
noncomputable def F91_0 (D : jx_D) (h : jx_H) : Option jx_R := jx_den (jx_look (tb_91 D)) (jx_nms mk_91) 0 [vr 26 0, vr 14 0, vr 1 0] [] h
noncomputable def F91_52 (D : jx_D) (s0 : Int64) (h : jx_H) : Option jx_R := jx_den (jx_look (tb_91 D)) (jx_nms mk_91) 52 [vn, vn, vn] [vl s0] h
set_option maxRecDepth 1000000 in
set_option maxHeartbeats 4000000 in
theorem e91_0 (D : jx_D) (h : jx_H) : F91_0 D h = (jx_if ((1 : Int32) = 1) ((jx_if ((1 : Int32) = 1) ((jx_bI (D 55 [vr 14 0, vi (h.1 14 0 4)] (jx_sI (jx_sI h 26 0 0 (1 : Int32)) 26 0 1 (1 : Int32))) fun y1 h1 => (jx_if (y1 = 0) (some ([vl (0 : Int64)], h1)) ((jx_if ((h1.1 26 0 0) = 1) ((jx_if ((h1.1 14 0 2) = 0) ((jx_bL (D 93 [vr 26 0] h1) fun y2 h2 => F91_52 D y2 h2)) ((jx_bL (D 92 [vr 26 0, vi (0 : Int32), vi (0 : Int32)] h1) fun y3 h3 => F91_52 D y3 h3)))) none))))) none)) none) := (jx_it_eq (tl_m91 D) (jx_mem [52]) 30 _ _ _ _).trans rfl
set_option maxRecDepth 1000000 in
set_option maxHeartbeats 4000000 in
theorem e91_52 (D : jx_D) (s0 : Int64) (h : jx_H) : F91_52 D s0 h = some ([vl s0], h) := (jx_it_eq (tl_m91 D) (jx_mem [52]) 30 _ _ _ _).trans rfl
noncomputable def F92_0 (D : jx_D) (x1 : Int32) (x2 : Int32) (h : jx_H) : Option jx_R := jx_den (jx_look (tb_92 D)) (jx_nms mk_92) 0 [vr 26 0, vi x1, vi x2, vn, vn, vn, vn] [] h
noncomputable def F92_23 (D : jx_D) (x1 : Int32) (x2 : Int32) (x3 : Int32) (h : jx_H) : Option jx_R := jx_den (jx_look (tb_92 D)) (jx_nms mk_92) 23 [vr 26 0, vi x1, vi x2, vi x3, vn, vn, vn] [] h
noncomputable def F92_47 (D : jx_D) (x1 : Int32) (x2 : Int32) (x3 : Int32) (x4 : Int64) (h : jx_H) : Option jx_R := jx_den (jx_look (tb_92 D)) (jx_nms mk_92) 47 [vr 26 0, vi x1, vi x2, vi x3, vl x4, vn, vn] [] h
noncomputable def F92_104 (D : jx_D) (x4 : Int64) (h : jx_H) : Option jx_R := jx_den (jx_look (tb_92 D)) (jx_nms mk_92) 104 [vn, vn, vn, vn, vl x4, vn, vn] [] h
set_option maxRecDepth 1000000 in
set_option maxHeartbeats 4000000 in
theorem e92_0 (D : jx_D) (x1 : Int32) (x2 : Int32) (h : jx_H) : F92_0 D x1 x2 h = (jx_if ((h.1 26 0 0) = 1) ((jx_if (x1 < (h.1 14 0 1)) ((jx_if ((h.1 26 0 1) = 1) ((jx_if (jx_in x1 20) (F92_23 D x1 x2 (h.1 5 0 x1.toNatClampNeg) h) none)) none)) (some ([vl (1 : Int64)], h)))) none) := (jx_it_eq (tl_m92 D) (jx_mem [23, 47, 104]) 71 _ _ _ _).trans rfl
set_option maxRecDepth 1000000 in
set_option maxHeartbeats 4000000 in
theorem e92_23 (D : jx_D) (x1 : Int32) (x2 : Int32) (x3 : Int32) (h : jx_H) : F92_23 D x1 x2 x3 h = (jx_if (0 < x3) ((jx_bL (D 92 [vr 26 0, vi (x1 + (1 : Int32)), vi (x2 ||| ((1 : Int32) <<< (x1 &&& 31)))] h) fun y1 h1 => F92_47 D x1 x2 x3 (((x3).toInt64) * y1) h1)) (F92_47 D x1 x2 x3 (0 : Int64) h)) := (jx_it_eq (tl_m92 D) (jx_mem [23, 47, 104]) 71 _ _ _ _).trans rfl
set_option maxRecDepth 1000000 in
set_option maxHeartbeats 4000000 in
theorem e92_47 (D : jx_D) (x1 : Int32) (x2 : Int32) (x3 : Int32) (x4 : Int64) (h : jx_H) : F92_47 D x1 x2 x3 x4 h = (jx_if ((h.1 26 0 0) = 1) ((jx_bI (D 17 [vi (x1 + (1 : Int32))] h) fun y1 h1 => (jx_if (x3 < (8 : Int32)) ((jx_if ((h1.1 26 0 0) = 1) ((jx_bI (D 55 [vr 14 0, vi (x2 ||| ((h.1 14 0 4) &&& (y1 ^^^ ((-1) : Int32))))] h1) fun y2 h2 => (jx_if (y2 = 0) (F92_104 D x4 h2) ((jx_bL (D 92 [vr 26 0, vi (x1 + (1 : Int32)), vi x2] h2) fun y3 h3 => F92_104 D (x4 + (((((8 : Int32) - x3)).toInt64) * y3)) h3))))) none)) (F92_104 D x4 h1)))) none) := (jx_it_eq (tl_m92 D) (jx_mem [23, 47, 104]) 71 _ _ _ _).trans rfl
set_option maxRecDepth 1000000 in
set_option maxHeartbeats 4000000 in
theorem e92_104 (D : jx_D) (x4 : Int64) (h : jx_H) : F92_104 D x4 h = some ([vl x4], h) := (jx_it_eq (tl_m92 D) (jx_mem [23, 47, 104]) 71 _ _ _ _).trans rfl
noncomputable def F93_0 (D : jx_D) (h : jx_H) : Option jx_R := jx_den (jx_look (tb_93 D)) (jx_nms mk_93) 0 [vr 26 0, vn, vn, vn, vn, vn] [] h
noncomputable def F93_2 (D : jx_D) (x1 : Int32) (h : jx_H) : Option jx_R := jx_den (jx_look (tb_93 D)) (jx_nms mk_93) 2 [vr 26 0, vi x1, vn, vn, vn, vn] [] h
noncomputable def F93_17 (D : jx_D) (x1 : Int32) (x2 : Int32) (h : jx_H) : Option jx_R := jx_den (jx_look (tb_93 D)) (jx_nms mk_93) 17 [vr 26 0, vi x1, vi x2, vn, vn, vn] [] h
noncomputable def F93_26 (D : jx_D) (x1 : Int32) (x2 : Int32) (x3 : Int64) (x5 : Int32) (h : jx_H) : Option jx_R := jx_den (jx_look (tb_93 D)) (jx_nms mk_93) 26 [vr 26 0, vi x1, vi x2, vl x3, vn, vi x5] [] h
noncomputable def F93_44 (D : jx_D) (x1 : Int32) (x2 : Int32) (x3 : Int64) (x5 : Int32) (h : jx_H) : Option jx_R := jx_den (jx_look (tb_93 D)) (jx_nms mk_93) 44 [vr 26 0, vi x1, vi x2, vl x3, vn, vi x5] [] h
noncomputable def F93_52 (D : jx_D) (x1 : Int32) (x2 : Int32) (x3 : Int64) (x5 : Int32) (h : jx_H) : Option jx_R := jx_den (jx_look (tb_93 D)) (jx_nms mk_93) 52 [vr 26 0, vi x1, vi x2, vl x3, vn, vi x5] [] h
set_option maxRecDepth 1000000 in
set_option maxHeartbeats 4000000 in
theorem e93_0 (D : jx_D) (h : jx_H) : F93_0 D h = F93_2 D (1 : Int32) h := (jx_it_eq (tl_m93 D) (jx_mem [2, 17, 26, 44, 52]) 52 _ _ _ _).trans rfl
set_option maxRecDepth 1000000 in
set_option maxHeartbeats 4000000 in
theorem e93_2 (D : jx_D) (x1 : Int32) (h : jx_H) : F93_2 D x1 h = (jx_if ((h.1 26 0 0) = 1) ((jx_if (x1 ≤ (h.1 14 0 3)) (F93_17 D x1 (x1 ^^^ (1 : Int32)) h) ((jx_if ((h.1 26 0 0) = 1) ((jx_if (jx_in (h.1 14 0 3) 256) (some ([vl (h.2 27 0 ((h.1 14 0 3).toNatClampNeg))], h)) none)) none)))) none) := (jx_it_eq (tl_m93 D) (jx_mem [2, 17, 26, 44, 52]) 52 _ _ _ _).trans rfl
set_option maxRecDepth 1000000 in
set_option maxHeartbeats 4000000 in
theorem e93_17 (D : jx_D) (x1 : Int32) (x2 : Int32) (h : jx_H) : F93_17 D x1 x2 h = (jx_bL (D 94 [vr 26 0, vi x1] h) fun y1 h1 => F93_26 D x1 x2 y1 x2 h1) := (jx_it_eq (tl_m93 D) (jx_mem [2, 17, 26, 44, 52]) 52 _ _ _ _).trans rfl
set_option maxRecDepth 1000000 in
set_option maxHeartbeats 4000000 in
theorem e93_26 (D : jx_D) (x1 : Int32) (x2 : Int32) (x3 : Int64) (x5 : Int32) (h : jx_H) : F93_26 D x1 x2 x3 x5 h = (jx_if (0 < x5) ((jx_bL (D 95 [vr 26 0, vi (x1 ^^^ x5), vi x5] h) fun y1 h1 => F93_44 D x1 x2 (x3 - y1) x5 h1)) ((jx_if (jx_in x1 256) (F93_2 D (x1 + 2) (jx_sL h 27 0 x1.toNatClampNeg x3)) none))) := (jx_it_eq (tl_m93 D) (jx_mem [2, 17, 26, 44, 52]) 52 _ _ _ _).trans rfl
set_option maxRecDepth 1000000 in
set_option maxHeartbeats 4000000 in
theorem e93_44 (D : jx_D) (x1 : Int32) (x2 : Int32) (x3 : Int64) (x5 : Int32) (h : jx_H) : F93_44 D x1 x2 x3 x5 h = F93_52 D x1 x2 x3 ((x5 - (1 : Int32)) &&& x2) h := (jx_it_eq (tl_m93 D) (jx_mem [2, 17, 26, 44, 52]) 52 _ _ _ _).trans rfl
set_option maxRecDepth 1000000 in
set_option maxHeartbeats 4000000 in
theorem e93_52 (D : jx_D) (x1 : Int32) (x2 : Int32) (x3 : Int64) (x5 : Int32) (h : jx_H) : F93_52 D x1 x2 x3 x5 h = F93_26 D x1 x2 x3 x5 h := (jx_it_eq (tl_m93 D) (jx_mem [2, 17, 26, 44, 52]) 52 _ _ _ _).trans rfl
noncomputable def F94_0 (D : jx_D) (x1 : Int32) (h : jx_H) : Option jx_R := jx_den (jx_look (tb_94 D)) (jx_nms mk_94) 0 [vr 26 0, vi x1] [] h
set_option maxRecDepth 1000000 in
set_option maxHeartbeats 4000000 in
theorem e94_0 (D : jx_D) (x1 : Int32) (h : jx_H) : F94_0 D x1 h = (jx_if ((h.1 26 0 0) = 1) ((jx_if (jx_in x1 256) ((jx_if ((h.1 26 0 0) = 1) ((jx_if (jx_in x1 256) ((jx_bI (D 1 [vi ((h.1 15 0 x1.toNatClampNeg) &&& (h.1 16 0 x1.toNatClampNeg))] h) fun y1 h1 => some ([vl ((1 : Int64) <<< (((3 : Int32) * y1).toInt64 &&& 63))], h1))) none)) none)) none)) none) := (jx_it_eq (tl_m94 D) (jx_mem []) 20 _ _ _ _).trans rfl
noncomputable def F95_0 (D : jx_D) (x1 : Int32) (x2 : Int32) (h : jx_H) : Option jx_R := jx_den (jx_look (tb_95 D)) (jx_nms mk_95) 0 [vr 26 0, vi x1, vi x2, vn, vn, vn, vn] [] h
noncomputable def F95_7 (D : jx_D) (x1 : Int32) (x2 : Int32) (x3 : Int64) (h : jx_H) : Option jx_R := jx_den (jx_look (tb_95 D)) (jx_nms mk_95) 7 [vr 26 0, vi x1, vi x2, vl x3, vn, vn, vn] [] h
noncomputable def F95_29 (D : jx_D) (x2 : Int32) (x3 : Int64) (x5 : Int32) (x6 : Int32) (h : jx_H) : Option jx_R := jx_den (jx_look (tb_95 D)) (jx_nms mk_95) 29 [vr 26 0, vn, vi x2, vl x3, vn, vi x5, vi x6] [] h
noncomputable def F95_76 (D : jx_D) (x2 : Int32) (x3 : Int64) (h : jx_H) : Option jx_R := jx_den (jx_look (tb_95 D)) (jx_nms mk_95) 76 [vr 26 0, vn, vi x2, vl x3, vn, vn, vn] [] h
noncomputable def F95_61 (D : jx_D) (x2 : Int32) (x3 : Int64) (x5 : Int32) (x6 : Int32) (h : jx_H) : Option jx_R := jx_den (jx_look (tb_95 D)) (jx_nms mk_95) 61 [vr 26 0, vn, vi x2, vl x3, vn, vi x5, vi x6] [] h
noncomputable def F95_93 (D : jx_D) (s0 : Int64) (h : jx_H) : Option jx_R := jx_den (jx_look (tb_95 D)) (jx_nms mk_95) 93 [vn, vn, vn, vn, vn, vn, vn] [vl s0] h
noncomputable def F95_70 (D : jx_D) (x2 : Int32) (x3 : Int64) (x5 : Int32) (x6 : Int32) (h : jx_H) : Option jx_R := jx_den (jx_look (tb_95 D)) (jx_nms mk_95) 70 [vr 26 0, vn, vi x2, vl x3, vn, vi x5, vi x6] [] h
set_option maxRecDepth 1000000 in
set_option maxHeartbeats 4000000 in
theorem e95_0 (D : jx_D) (x1 : Int32) (x2 : Int32) (h : jx_H) : F95_0 D x1 x2 h = (jx_if (jx_in x1 256) (F95_7 D x1 x2 (h.2 27 0 x1.toNatClampNeg) h) none) := (jx_it_eq (tl_m95 D) (jx_mem [7, 29, 61, 70, 76, 93]) 59 _ _ _ _).trans rfl
set_option maxRecDepth 1000000 in
set_option maxHeartbeats 4000000 in
theorem e95_7 (D : jx_D) (x1 : Int32) (x2 : Int32) (x3 : Int64) (h : jx_H) : F95_7 D x1 x2 x3 h = (jx_if ((lg_cmp x3 (0 : Int64)) = 0) (some ([vl (0 : Int64)], h)) ((jx_if ((h.1 26 0 0) = 1) ((jx_bI (D 50 [vr 14 0, vi x1, vi x2] h) fun y1 h1 => F95_29 D x2 x3 y1 (0 : Int32) h1)) none))) := (jx_it_eq (tl_m95 D) (jx_mem [7, 29, 61, 70, 76, 93]) 59 _ _ _ _).trans rfl
set_option maxRecDepth 1000000 in
set_option maxHeartbeats 4000000 in
theorem e95_29 (D : jx_D) (x2 : Int32) (x3 : Int64) (x5 : Int32) (x6 : Int32) (h : jx_H) : F95_29 D x2 x3 x5 x6 h = (jx_if (x6 < (20 : Int32)) ((jx_if (x5 = 0) (F95_76 D x2 x3 h) ((jx_if ((h.1 26 0 1) = 1) ((jx_bI (D 63 [vi x5] h) fun y1 h1 => (jx_if (jx_in y1 20) (F95_61 D x2 (x3 * ((((8 : Int32) - (h1.1 5 0 y1.toNatClampNeg))).toInt64)) x5 x6 h1) none))) none)))) (F95_76 D x2 x3 h)) := (jx_it_eq (tl_m95 D) (jx_mem [7, 29, 61, 70, 76, 93]) 59 _ _ _ _).trans rfl
set_option maxRecDepth 1000000 in
set_option maxHeartbeats 4000000 in
theorem e95_76 (D : jx_D) (x2 : Int32) (x3 : Int64) (h : jx_H) : F95_76 D x2 x3 h = (jx_if ((lg_cmp x3 (0 : Int64)) = 0) (F95_93 D (0 : Int64) h) ((jx_bL (D 94 [vr 26 0, vi x2] h) fun y1 h1 => F95_93 D (x3 * y1) h1))) := (jx_it_eq (tl_m95 D) (jx_mem [7, 29, 61, 70, 76, 93]) 59 _ _ _ _).trans rfl
set_option maxRecDepth 1000000 in
set_option maxHeartbeats 4000000 in
theorem e95_61 (D : jx_D) (x2 : Int32) (x3 : Int64) (x5 : Int32) (x6 : Int32) (h : jx_H) : F95_61 D x2 x3 x5 x6 h = F95_70 D x2 x3 (x5 &&& (x5 - (1 : Int32))) x6 h := (jx_it_eq (tl_m95 D) (jx_mem [7, 29, 61, 70, 76, 93]) 59 _ _ _ _).trans rfl
set_option maxRecDepth 1000000 in
set_option maxHeartbeats 4000000 in
theorem e95_93 (D : jx_D) (s0 : Int64) (h : jx_H) : F95_93 D s0 h = some ([vl s0], h) := (jx_it_eq (tl_m95 D) (jx_mem [7, 29, 61, 70, 76, 93]) 59 _ _ _ _).trans rfl
set_option maxRecDepth 1000000 in
set_option maxHeartbeats 4000000 in
theorem e95_70 (D : jx_D) (x2 : Int32) (x3 : Int64) (x5 : Int32) (x6 : Int32) (h : jx_H) : F95_70 D x2 x3 x5 x6 h = F95_29 D x2 x3 x5 (x6 + 1) h := (jx_it_eq (tl_m95 D) (jx_mem [7, 29, 61, 70, 76, 93]) 59 _ _ _ _).trans rfl
noncomputable def F96_0 (D : jx_D) (x1 : Int32) (h : jx_H) : Option jx_R := jx_den (jx_look (tb_96 D)) (jx_nms mk_96) 0 [vr 0 0, vi x1] [] h
set_option maxRecDepth 1000000 in
set_option maxHeartbeats 4000000 in
theorem e96_0 (D : jx_D) (x1 : Int32) (h : jx_H) : F96_0 D x1 h = (jx_if ((h.1 0 0 6) < (60 : Int32)) ((jx_if (jx_in (h.1 0 0 6) 60) (some ([vi (((h.1 0 0 6) + (1 : Int32)))], (jx_sI (jx_sI h 13 0 ((h.1 0 0 6).toNatClampNeg) x1) 0 0 6 ((h.1 0 0 6) + (1 : Int32))))) none)) ((jx_bI (D 8 [vr 0 0, vi ((-5) : Int32)] h) fun y1 h1 => some ([vi y1], h1)))) := (jx_it_eq (tl_m96 D) (jx_mem []) 26 _ _ _ _).trans rfl
noncomputable def F97_0 (D : jx_D) (h : jx_H) : Option jx_R := jx_den (jx_look (tb_97 D)) (jx_nms mk_97) 0 [vr 0 0, vn] [] h
set_option maxRecDepth 1000000 in
set_option maxHeartbeats 4000000 in
theorem e97_0 (D : jx_D) (h : jx_H) : F97_0 D h = (jx_if ((2 : Int32) = 0) none ((jx_if (((h.1 0 0 6) - (h.1 0 0 6) / (2 : Int32) * (2 : Int32)) = 0) ((jx_if ((2 : Int32) = 0) none ((jx_bI (D 36 [vr 0 0, vr 13 0, vi ((h.1 0 0 6) / (2 : Int32))] (jx_sI h 0 0 6 (0 : Int32))) fun y1 h1 => (jx_if (y1 = 0) ((jx_bV (D 38 [vr 14 0, vr 1 0] h1) fun h2 => (jx_if ((2 : Int32) = 0) none ((jx_bI (D 98 [vr 14 0, vr 13 0, vi ((h.1 0 0 6) / (2 : Int32))] h2) fun y3 h3 => some ([vi y3], h3)))))) ((jx_bI (D 8 [vr 0 0, vi ((-1) : Int32)] h1) fun y4 h4 => some ([vi y4], h4)))))))) ((jx_bI (D 8 [vr 0 0, vi ((-3) : Int32)] (jx_sI h 0 0 6 (0 : Int32))) fun y5 h5 => some ([vi y5], h5)))))) := (jx_it_eq (tl_m97 D) (jx_mem []) 43 _ _ _ _).trans rfl
noncomputable def F98_0 (D : jx_D) (x2 : Int32) (h : jx_H) : Option jx_R := jx_den (jx_look (tb_98 D)) (jx_nms mk_98) 0 [vr 14 0, vr 13 0, vi x2, vn, vn, vn, vn, vn, vn, vn] [] h
noncomputable def F98_17 (D : jx_D) (x2 : Int32) (x3 : Int32) (h : jx_H) : Option jx_R := jx_den (jx_look (tb_98 D)) (jx_nms mk_98) 17 [vr 14 0, vr 13 0, vi x2, vi x3, vn, vn, vn, vn, vn, vn] [] h
noncomputable def F98_20 (D : jx_D) (x2 : Int32) (x3 : Int32) (x4 : Int32) (h : jx_H) : Option jx_R := jx_den (jx_look (tb_98 D)) (jx_nms mk_98) 20 [vr 14 0, vr 13 0, vi x2, vi x3, vi x4, vn, vn, vn, vn, vn] [] h
noncomputable def F98_38 (D : jx_D) (x2 : Int32) (x3 : Int32) (x4 : Int32) (x5 : Int32) (h : jx_H) : Option jx_R := jx_den (jx_look (tb_98 D)) (jx_nms mk_98) 38 [vr 14 0, vr 13 0, vi x2, vi x3, vi x4, vi x5, vn, vn, vn, vn] [] h
noncomputable def F98_53 (D : jx_D) (x2 : Int32) (x3 : Int32) (x4 : Int32) (x5 : Int32) (x6 : Int32) (x7 : Int32) (h : jx_H) : Option jx_R := jx_den (jx_look (tb_98 D)) (jx_nms mk_98) 53 [vr 14 0, vr 13 0, vi x2, vi x3, vi x4, vi x5, vi x6, vi x7, vn, vn] [] h
noncomputable def F98_117 (D : jx_D) (x2 : Int32) (x3 : Int32) (x4 : Int32) (x5 : Int32) (x6 : Int32) (x7 : Int32) (h : jx_H) : Option jx_R := jx_den (jx_look (tb_98 D)) (jx_nms mk_98) 117 [vr 14 0, vr 13 0, vi x2, vi x3, vi x4, vi x5, vi x6, vi x7, vn, vn] [] h
noncomputable def F98_114 (D : jx_D) (x2 : Int32) (x3 : Int32) (x4 : Int32) (x5 : Int32) (x6 : Int32) (x7 : Int32) (h : jx_H) : Option jx_R := jx_den (jx_look (tb_98 D)) (jx_nms mk_98) 114 [vr 14 0, vr 13 0, vi x2, vi x3, vi x4, vi x5, vi x6, vi x7, vn, vn] [] h
noncomputable def F98_130 (D : jx_D) (x2 : Int32) (x3 : Int32) (x4 : Int32) (h : jx_H) : Option jx_R := jx_den (jx_look (tb_98 D)) (jx_nms mk_98) 130 [vr 14 0, vr 13 0, vi x2, vi x3, vi x4, vn, vn, vn, vn, vn] [] h
set_option maxRecDepth 1000000 in
set_option maxHeartbeats 4000000 in
theorem e98_0 (D : jx_D) (x2 : Int32) (h : jx_H) : F98_0 D x2 h = (jx_if ((h.1 14 0 0) < (2 : Int32)) (some ([vi (0 : Int32)], h)) (F98_17 D x2 ((h.1 14 0 1) + x2) h)) := (jx_it_eq (tl_m98 D) (jx_mem [17, 20, 38, 53, 114, 117, 130]) 76 _ _ _ _).trans rfl
set_option maxRecDepth 1000000 in
set_option maxHeartbeats 4000000 in
theorem e98_17 (D : jx_D) (x2 : Int32) (x3 : Int32) (h : jx_H) : F98_17 D x2 x3 h = F98_20 D x2 x3 (1 : Int32) h := (jx_it_eq (tl_m98 D) (jx_mem [17, 20, 38, 53, 114, 117, 130]) 76 _ _ _ _).trans rfl
set_option maxRecDepth 1000000 in
set_option maxHeartbeats 4000000 in
theorem e98_20 (D : jx_D) (x2 : Int32) (x3 : Int32) (x4 : Int32) (h : jx_H) : F98_20 D x2 x3 x4 h = (jx_if (x4 < (h.1 14 0 5)) (F98_38 D x2 x3 x4 (x4 <<< ((h.1 14 0 6) &&& 31)) h) (some ([vi x3], h))) := (jx_it_eq (tl_m98 D) (jx_mem [17, 20, 38, 53, 114, 117, 130]) 76 _ _ _ _).trans rfl
set_option maxRecDepth 1000000 in
set_option maxHeartbeats 4000000 in
theorem e98_38 (D : jx_D) (x2 : Int32) (x3 : Int32) (x4 : Int32) (x5 : Int32) (h : jx_H) : F98_38 D x2 x3 x4 x5 h = (jx_if (jx_in x5 256) ((jx_bI (D 1 [vi (h.1 18 0 x5.toNatClampNeg)] h) fun y1 h1 => F98_53 D x2 x3 x4 x5 y1 (0 : Int32) h1)) none) := (jx_it_eq (tl_m98 D) (jx_mem [17, 20, 38, 53, 114, 117, 130]) 76 _ _ _ _).trans rfl
set_option maxRecDepth 1000000 in
set_option maxHeartbeats 4000000 in
theorem e98_53 (D : jx_D) (x2 : Int32) (x3 : Int32) (x4 : Int32) (x5 : Int32) (x6 : Int32) (x7 : Int32) (h : jx_H) : F98_53 D x2 x3 x4 x5 x6 x7 h = (jx_if (x7 < x2) ((jx_if (jx_in ((2 : Int32) * x7) 60) ((jx_bI (D 19 [vi x5, vi (h.1 13 0 (((2 : Int32) * x7).toNatClampNeg))] h) fun y1 h1 => (jx_if (jx_in (((2 : Int32) * x7) + (1 : Int32)) 60) ((jx_bI (D 19 [vi x5, vi (h1.1 13 0 ((((2 : Int32) * x7) + (1 : Int32)).toNatClampNeg))] h1) fun y2 h2 => (jx_if ((h2.1 14 0 2) = 0) ((jx_if (y1 = y2) (F98_117 D x2 x3 x4 x5 x6 x7 h2) (F98_114 D x2 x3 x4 x5 x6 x7 h2))) ((jx_if (y1 = 0) (F98_117 D x2 x3 x4 x5 x6 x7 h2) ((jx_if (y2 = 0) (F98_114 D x2 x3 x4 x5 x6 x7 h2) (F98_117 D x2 x3 x4 x5 x6 x7 h2)))))))) none))) none)) (F98_130 D x2 (jx_mn x3 x6) x4 h)) := (jx_it_eq (tl_m98 D) (jx_mem [17, 20, 38, 53, 114, 117, 130]) 76 _ _ _ _).trans rfl
set_option maxRecDepth 1000000 in
set_option maxHeartbeats 4000000 in
theorem e98_117 (D : jx_D) (x2 : Int32) (x3 : Int32) (x4 : Int32) (x5 : Int32) (x6 : Int32) (x7 : Int32) (h : jx_H) : F98_117 D x2 x3 x4 x5 x6 x7 h = F98_53 D x2 x3 x4 x5 x6 (x7 + 1) h := (jx_it_eq (tl_m98 D) (jx_mem [17, 20, 38, 53, 114, 117, 130]) 76 _ _ _ _).trans rfl
set_option maxRecDepth 1000000 in
set_option maxHeartbeats 4000000 in
theorem e98_114 (D : jx_D) (x2 : Int32) (x3 : Int32) (x4 : Int32) (x5 : Int32) (x6 : Int32) (x7 : Int32) (h : jx_H) : F98_114 D x2 x3 x4 x5 x6 x7 h = F98_117 D x2 x3 x4 x5 (x6 + 1) x7 h := (jx_it_eq (tl_m98 D) (jx_mem [17, 20, 38, 53, 114, 117, 130]) 76 _ _ _ _).trans rfl
set_option maxRecDepth 1000000 in
set_option maxHeartbeats 4000000 in
theorem e98_130 (D : jx_D) (x2 : Int32) (x3 : Int32) (x4 : Int32) (h : jx_H) : F98_130 D x2 x3 x4 h = F98_20 D x2 x3 (x4 + 1) h := (jx_it_eq (tl_m98 D) (jx_mem [17, 20, 38, 53, 114, 117, 130]) 76 _ _ _ _).trans rfl
noncomputable def F99_0 (D : jx_D) (x1 : Int32) (x2 : Int32) (h : jx_H) : Option jx_R := jx_den (jx_look (tb_99 D)) (jx_nms mk_99) 0 [vr 0 0, vi x1, vi x2, vn, vn] [] h
noncomputable def F99_52 (D : jx_D) (s0 : Int32) (h : jx_H) : Option jx_R := jx_den (jx_look (tb_99 D)) (jx_nms mk_99) 52 [vn, vn, vn, vn, vn] [vi s0] h
set_option maxRecDepth 1000000 in
set_option maxHeartbeats 4000000 in
theorem e99_0 (D : jx_D) (x1 : Int32) (x2 : Int32) (h : jx_H) : F99_0 D x1 x2 h = (jx_bI (D 11 [vr 0 0, vi x1, vi x2] (jx_sI h 0 0 6 (0 : Int32))) fun y1 h1 => (jx_if (y1 = 0) ((jx_bI (D 100 [vr 1 0, vi x1, vr 13 0, vi (h.1 0 0 6)] h1) fun y2 h2 => (jx_if (y2 = x2) (F99_52 D (1 : Int32) h2) (F99_52 D (0 : Int32) h2)))) ((jx_bI (D 8 [vr 0 0, vi y1] h1) fun y3 h3 => some ([vi y3], h3))))) := (jx_it_eq (tl_m99 D) (jx_mem [52]) 33 _ _ _ _).trans rfl
set_option maxRecDepth 1000000 in
set_option maxHeartbeats 4000000 in
theorem e99_52 (D : jx_D) (s0 : Int32) (h : jx_H) : F99_52 D s0 h = some ([vi s0], h) := (jx_it_eq (tl_m99 D) (jx_mem [52]) 33 _ _ _ _).trans rfl
noncomputable def F100_0 (D : jx_D) (i0 : Nat) (x1 : Int32) (x3 : Int32) (h : jx_H) : Option jx_R := jx_den (jx_look (tb_100 D)) (jx_nms mk_100) 0 [vr 1 i0, vi x1, vr 13 0, vi x3, vn, vn, vn] [] h
noncomputable def F100_8 (D : jx_D) (i0 : Nat) (x3 : Int32) (x4 : Int32) (x5 : Int32) (h : jx_H) : Option jx_R := jx_den (jx_look (tb_100 D)) (jx_nms mk_100) 8 [vr 1 i0, vn, vr 13 0, vi x3, vi x4, vi x5, vn] [] h
noncomputable def F100_11 (D : jx_D) (i0 : Nat) (x3 : Int32) (x4 : Int32) (x5 : Int32) (x6 : Int32) (h : jx_H) : Option jx_R := jx_den (jx_look (tb_100 D)) (jx_nms mk_100) 11 [vr 1 i0, vn, vr 13 0, vi x3, vi x4, vi x5, vi x6] [] h
noncomputable def F100_44 (D : jx_D) (h : jx_H) : Option jx_R := jx_den (jx_look (tb_100 D)) (jx_nms mk_100) 44 [vn, vn, vn, vn, vn, vn, vn] [] h
noncomputable def F100_55 (D : jx_D) (i0 : Nat) (x3 : Int32) (x4 : Int32) (x5 : Int32) (x6 : Int32) (h : jx_H) : Option jx_R := jx_den (jx_look (tb_100 D)) (jx_nms mk_100) 55 [vr 1 i0, vn, vr 13 0, vi x3, vi x4, vi x5, vi x6] [] h
set_option maxRecDepth 1000000 in
set_option maxHeartbeats 4000000 in
theorem e100_0 (D : jx_D) (i0 : Nat) (x1 : Int32) (x3 : Int32) (h : jx_H) : F100_0 D i0 x1 x3 h = F100_8 D i0 x3 x1 ((1 : Int32) <<< (x1 &&& 31)) h := (jx_it_eq (tl_m100 D) (jx_mem [8, 11, 44, 55]) 39 _ _ _ _).trans rfl
set_option maxRecDepth 1000000 in
set_option maxHeartbeats 4000000 in
theorem e100_8 (D : jx_D) (i0 : Nat) (x3 : Int32) (x4 : Int32) (x5 : Int32) (h : jx_H) : F100_8 D i0 x3 x4 x5 h = F100_11 D i0 x3 x4 x5 (0 : Int32) h := (jx_it_eq (tl_m100 D) (jx_mem [8, 11, 44, 55]) 39 _ _ _ _).trans rfl
set_option maxRecDepth 1000000 in
set_option maxHeartbeats 4000000 in
theorem e100_11 (D : jx_D) (i0 : Nat) (x3 : Int32) (x4 : Int32) (x5 : Int32) (x6 : Int32) (h : jx_H) : F100_11 D i0 x3 x4 x5 x6 h = (jx_if (x6 < x3) ((jx_if (jx_in x6 60) ((jx_bI (D 101 [vr 1 i0, vi (h.1 13 0 x6.toNatClampNeg), vi x4] h) fun y1 h1 => (jx_if (y1 < 0) (F100_44 D h1) ((jx_bI (D 19 [vi x5, vi y1] h1) fun y2 h2 => (jx_if (y2 = 0) (F100_55 D i0 x3 y1 (x5 ||| ((1 : Int32) <<< (y1 &&& 31))) x6 h2) (F100_44 D h2))))))) none)) (some ([vi x4], h))) := (jx_it_eq (tl_m100 D) (jx_mem [8, 11, 44, 55]) 39 _ _ _ _).trans rfl
set_option maxRecDepth 1000000 in
set_option maxHeartbeats 4000000 in
theorem e100_44 (D : jx_D) (h : jx_H) : F100_44 D h = some ([vi ((-1) : Int32)], h) := (jx_it_eq (tl_m100 D) (jx_mem [8, 11, 44, 55]) 39 _ _ _ _).trans rfl
set_option maxRecDepth 1000000 in
set_option maxHeartbeats 4000000 in
theorem e100_55 (D : jx_D) (i0 : Nat) (x3 : Int32) (x4 : Int32) (x5 : Int32) (x6 : Int32) (h : jx_H) : F100_55 D i0 x3 x4 x5 x6 h = F100_11 D i0 x3 x4 x5 (x6 + 1) h := (jx_it_eq (tl_m100 D) (jx_mem [8, 11, 44, 55]) 39 _ _ _ _).trans rfl
noncomputable def F101_0 (D : jx_D) (i0 : Nat) (x1 : Int32) (x2 : Int32) (h : jx_H) : Option jx_R := jx_den (jx_look (tb_101 D)) (jx_nms mk_101) 0 [vr 1 i0, vi x1, vi x2] [] h
noncomputable def F101_12 (D : jx_D) (h : jx_H) : Option jx_R := jx_den (jx_look (tb_101 D)) (jx_nms mk_101) 12 [vn, vn, vn] [] h
noncomputable def F101_58 (D : jx_D) (s0 : Int32) (h : jx_H) : Option jx_R := jx_den (jx_look (tb_101 D)) (jx_nms mk_101) 58 [vn, vn, vn] [vi s0] h
noncomputable def F101_57 (D : jx_D) (h : jx_H) : Option jx_R := jx_den (jx_look (tb_101 D)) (jx_nms mk_101) 57 [vn, vn, vn] [] h
set_option maxRecDepth 1000000 in
set_option maxHeartbeats 4000000 in
theorem e101_0 (D : jx_D) (i0 : Nat) (x1 : Int32) (x2 : Int32) (h : jx_H) : F101_0 D i0 x1 x2 h = (jx_if (x1 < 0) (F101_12 D h) ((jx_if (x1 < (h.1 1 i0 1)) ((jx_if (jx_in x1 20) ((jx_if ((h.1 2 i0 x1.toNatClampNeg) = x2) ((jx_if (jx_in x1 20) (some ([vi (h.1 3 i0 x1.toNatClampNeg)], h)) none)) ((jx_if ((h.1 1 i0 2) = 0) ((jx_if (jx_in x1 20) ((jx_if ((h.1 3 i0 x1.toNatClampNeg) = x2) ((jx_if (jx_in x1 20) (F101_58 D (h.1 2 i0 x1.toNatClampNeg) h) none)) (F101_57 D h))) none)) (F101_57 D h))))) none)) (F101_12 D h)))) := (jx_it_eq (tl_m101 D) (jx_mem [12, 57, 58]) 38 _ _ _ _).trans rfl
set_option maxRecDepth 1000000 in
set_option maxHeartbeats 4000000 in
theorem e101_12 (D : jx_D) (h : jx_H) : F101_12 D h = some ([vi ((-1) : Int32)], h) := (jx_it_eq (tl_m101 D) (jx_mem [12, 57, 58]) 38 _ _ _ _).trans rfl
set_option maxRecDepth 1000000 in
set_option maxHeartbeats 4000000 in
theorem e101_58 (D : jx_D) (s0 : Int32) (h : jx_H) : F101_58 D s0 h = some ([vi s0], h) := (jx_it_eq (tl_m101 D) (jx_mem [12, 57, 58]) 38 _ _ _ _).trans rfl
set_option maxRecDepth 1000000 in
set_option maxHeartbeats 4000000 in
theorem e101_57 (D : jx_D) (h : jx_H) : F101_57 D h = F101_58 D ((-1) : Int32) h := (jx_it_eq (tl_m101 D) (jx_mem [12, 57, 58]) 38 _ _ _ _).trans rfl
noncomputable def F102_0 (D : jx_D) (x1 : Int32) (h : jx_H) : Option jx_R := jx_den (jx_look (tb_102 D)) (jx_nms mk_102) 0 [vr 0 0, vi x1] [] h
set_option maxRecDepth 1000000 in
set_option maxHeartbeats 4000000 in
theorem e102_0 (D : jx_D) (x1 : Int32) (h : jx_H) : F102_0 D x1 h = (jx_bI (D 103 [vi x1] h) fun y1 h1 => (jx_if (y1 = 0) ((jx_if (jx_in x1 4) ((jx_bV (D 5 [vr 1 (31 + x1.toNatClampNeg), vr 1 0] h1) fun h2 => (jx_bI (D 104 [vr 0 0] h2) fun y3 h3 => (jx_if (jx_in x1 4) ((jx_if (jx_in x1 4) (some ([vi ((jx_sI h3 9 0 x1.toNatClampNeg y3).1 9 0 x1.toNatClampNeg)], (jx_sI h3 9 0 x1.toNatClampNeg y3))) none)) none)))) none)) ((jx_bI (D 8 [vr 0 0, vi ((-1) : Int32)] h1) fun y4 h4 => some ([vi y4], h4))))) := (jx_it_eq (tl_m102 D) (jx_mem []) 28 _ _ _ _).trans rfl
noncomputable def F103_0 (D : jx_D) (x0 : Int32) (h : jx_H) : Option jx_R := jx_den (jx_look (tb_103 D)) (jx_nms mk_103) 0 [vi x0] [] h
noncomputable def F103_9 (D : jx_D) (h : jx_H) : Option jx_R := jx_den (jx_look (tb_103 D)) (jx_nms mk_103) 9 [vn] [] h
noncomputable def F103_14 (D : jx_D) (s0 : Int32) (h : jx_H) : Option jx_R := jx_den (jx_look (tb_103 D)) (jx_nms mk_103) 14 [vn] [vi s0] h
set_option maxRecDepth 1000000 in
set_option maxHeartbeats 4000000 in
theorem e103_0 (D : jx_D) (x0 : Int32) (h : jx_H) : F103_0 D x0 h = (jx_if (x0 < 0) (F103_9 D h) ((jx_if (x0 < (4 : Int32)) (F103_14 D (0 : Int32) h) (F103_9 D h)))) := (jx_it_eq (tl_m103 D) (jx_mem [9, 14]) 12 _ _ _ _).trans rfl
set_option maxRecDepth 1000000 in
set_option maxHeartbeats 4000000 in
theorem e103_9 (D : jx_D) (h : jx_H) : F103_9 D h = F103_14 D (1 : Int32) h := (jx_it_eq (tl_m103 D) (jx_mem [9, 14]) 12 _ _ _ _).trans rfl
set_option maxRecDepth 1000000 in
set_option maxHeartbeats 4000000 in
theorem e103_14 (D : jx_D) (s0 : Int32) (h : jx_H) : F103_14 D s0 h = (jx_if (s0 = 0 ∨ s0 = 1) (some ([vi s0], h)) none) := (jx_it_eq (tl_m103 D) (jx_mem [9, 14]) 12 _ _ _ _).trans rfl
noncomputable def F104_0 (D : jx_D) (h : jx_H) : Option jx_R := jx_den (jx_look (tb_104 D)) (jx_nms mk_104) 0 [vr 0 0] [] h
noncomputable def F104_65 (D : jx_D) (s0 : Int32) (h : jx_H) : Option jx_R := jx_den (jx_look (tb_104 D)) (jx_nms mk_104) 65 [vn] [vi s0] h
set_option maxRecDepth 1000000 in
set_option maxHeartbeats 4000000 in
theorem e104_0 (D : jx_D) (h : jx_H) : F104_0 D h = (jx_if ((h.1 1 0 2) = 0) ((jx_bV (D 38 [vr 14 0, vr 1 0] h) fun h1 => (jx_bI (D 70 [vr 14 0, vi (h1.1 14 0 4), vi (2 : Int32)] h1) fun y2 h2 => (jx_if (y2 = 0) ((jx_bI (D 55 [vr 14 0, vi (h2.1 14 0 4)] h2) fun y3 h3 => (jx_if (y3 = 0) (F104_65 D (0 : Int32) h3) (F104_65 D (1 : Int32) h3)))) (some ([vi (2 : Int32)], h2)))))) (some ([vi (3 : Int32)], h))) := (jx_it_eq (tl_m104 D) (jx_mem [65]) 35 _ _ _ _).trans rfl
set_option maxRecDepth 1000000 in
set_option maxHeartbeats 4000000 in
theorem e104_65 (D : jx_D) (s0 : Int32) (h : jx_H) : F104_65 D s0 h = some ([vi s0], h) := (jx_it_eq (tl_m104 D) (jx_mem [65]) 35 _ _ _ _).trans rfl
noncomputable def F105_0 (D : jx_D) (x1 : Int32) (h : jx_H) : Option jx_R := jx_den (jx_look (tb_105 D)) (jx_nms mk_105) 0 [vr 0 0, vi x1] [] h
set_option maxRecDepth 1000000 in
set_option maxHeartbeats 4000000 in
theorem e105_0 (D : jx_D) (x1 : Int32) (h : jx_H) : F105_0 D x1 h = (jx_bI (D 103 [vi x1] h) fun y1 h1 => (jx_if (y1 = 0) ((jx_if (jx_in x1 4) ((jx_if ((h1.1 9 0 x1.toNatClampNeg) = ((-1) : Int32)) ((jx_bI (D 8 [vr 0 0, vi ((-6) : Int32)] h1) fun y2 h2 => some ([vi y2], h2))) ((jx_bV (D 4 [vr 6 0, vr 1 0] h1) fun h3 => (jx_if (jx_in x1 4) ((jx_bV (D 5 [vr 1 0, vr 1 (31 + x1.toNatClampNeg)] h3) fun h4 => some ([vi (h4.1 1 0 0)], h4))) none))))) none)) ((jx_bI (D 8 [vr 0 0, vi ((-1) : Int32)] h1) fun y5 h5 => some ([vi y5], h5))))) := (jx_it_eq (tl_m105 D) (jx_mem []) 36 _ _ _ _).trans rfl
noncomputable def F106_0 (D : jx_D) (x1 : Int32) (x2 : Int32) (h : jx_H) : Option jx_R := jx_den (jx_look (tb_106 D)) (jx_nms mk_106) 0 [vr 0 0, vi x1, vi x2] [] h
noncomputable def F106_19 (D : jx_D) (h : jx_H) : Option jx_R := jx_den (jx_look (tb_106 D)) (jx_nms mk_106) 19 [vr 0 0, vn, vn] [] h
set_option maxRecDepth 1000000 in
set_option maxHeartbeats 4000000 in
theorem e106_0 (D : jx_D) (x1 : Int32) (x2 : Int32) (h : jx_H) : F106_0 D x1 x2 h = (jx_bI (D 103 [vi x1] h) fun y1 h1 => (jx_if (y1 = 0) ((jx_if (x2 < 0) (F106_19 D h1) ((jx_if (x2 < (4 : Int32)) ((jx_if (jx_in x1 4) ((jx_if ((h1.1 9 0 x1.toNatClampNeg) = ((-1) : Int32)) ((jx_bI (D 8 [vr 0 0, vi ((-6) : Int32)] h1) fun y2 h2 => some ([vi y2], h2))) ((jx_if (jx_in x1 4) ((jx_bI (D 107 [vi (h1.1 9 0 x1.toNatClampNeg), vi x2] h1) fun y3 h3 => (jx_if (y3 = 0) ((jx_bI (D 8 [vr 0 0, vi ((-4) : Int32)] h3) fun y4 h4 => some ([vi y4], h4))) ((jx_if (jx_in x1 4) (some ([vi (h3.1 1 (31 + x1.toNatClampNeg) 1)], h3)) none))))) none)))) none)) (F106_19 D h1))))) (F106_19 D h1))) := (jx_it_eq (tl_m106 D) (jx_mem [19]) 43 _ _ _ _).trans rfl
set_option maxRecDepth 1000000 in
set_option maxHeartbeats 4000000 in
theorem e106_19 (D : jx_D) (h : jx_H) : F106_19 D h = (jx_bI (D 8 [vr 0 0, vi ((-1) : Int32)] h) fun y1 h1 => some ([vi y1], h1)) := (jx_it_eq (tl_m106 D) (jx_mem [19]) 43 _ _ _ _).trans rfl
noncomputable def F107_0 (D : jx_D) (x0 : Int32) (x1 : Int32) (h : jx_H) : Option jx_R := jx_den (jx_look (tb_107 D)) (jx_nms mk_107) 0 [vi x0, vi x1, vn, vn] [] h
noncomputable def F107_4 (D : jx_D) (x1 : Int32) (x2 : Int32) (x3 : Int32) (h : jx_H) : Option jx_R := jx_den (jx_look (tb_107 D)) (jx_nms mk_107) 4 [vn, vi x1, vi x2, vi x3] [] h
noncomputable def F107_36 (D : jx_D) (h : jx_H) : Option jx_R := jx_den (jx_look (tb_107 D)) (jx_nms mk_107) 36 [vn, vn, vn, vn] [] h
noncomputable def F107_30 (D : jx_D) (x1 : Int32) (x2 : Int32) (x3 : Int32) (h : jx_H) : Option jx_R := jx_den (jx_look (tb_107 D)) (jx_nms mk_107) 30 [vn, vi x1, vi x2, vi x3] [] h
set_option maxRecDepth 1000000 in
set_option maxHeartbeats 4000000 in
theorem e107_0 (D : jx_D) (x0 : Int32) (x1 : Int32) (h : jx_H) : F107_0 D x0 x1 h = F107_4 D x1 x0 (0 : Int32) h := (jx_it_eq (tl_m107 D) (jx_mem [4, 30, 36]) 27 _ _ _ _).trans rfl
set_option maxRecDepth 1000000 in
set_option maxHeartbeats 4000000 in
theorem e107_4 (D : jx_D) (x1 : Int32) (x2 : Int32) (x3 : Int32) (h : jx_H) : F107_4 D x1 x2 x3 h = (jx_if (x3 < (4 : Int32)) ((jx_if (x2 = ((-1) : Int32)) (F107_36 D h) ((jx_if (x2 = x1) ((jx_if ((1 : Int32) = 0 ∨ (1 : Int32) = 1) (some ([vi (1 : Int32)], h)) none)) ((jx_if (jx_in x2 4) (F107_30 D x1 (jx_ka x2.toNatClampNeg) x3 h) none)))))) (F107_36 D h)) := (jx_it_eq (tl_m107 D) (jx_mem [4, 30, 36]) 27 _ _ _ _).trans rfl
set_option maxRecDepth 1000000 in
set_option maxHeartbeats 4000000 in
theorem e107_36 (D : jx_D) (h : jx_H) : F107_36 D h = (jx_if ((0 : Int32) = 0 ∨ (0 : Int32) = 1) (some ([vi (0 : Int32)], h)) none) := (jx_it_eq (tl_m107 D) (jx_mem [4, 30, 36]) 27 _ _ _ _).trans rfl
set_option maxRecDepth 1000000 in
set_option maxHeartbeats 4000000 in
theorem e107_30 (D : jx_D) (x1 : Int32) (x2 : Int32) (x3 : Int32) (h : jx_H) : F107_30 D x1 x2 x3 h = F107_4 D x1 x2 (x3 + 1) h := (jx_it_eq (tl_m107 D) (jx_mem [4, 30, 36]) 27 _ _ _ _).trans rfl
noncomputable def F108_0 (D : jx_D) (x1 : Int32) (h : jx_H) : Option jx_R := jx_den (jx_look (tb_108 D)) (jx_nms mk_108) 0 [vr 0 0, vi x1] [] h
noncomputable def F108_75 (D : jx_D) (s0 : Int32) (h : jx_H) : Option jx_R := jx_den (jx_look (tb_108 D)) (jx_nms mk_108) 75 [vn, vn] [vi s0] h
noncomputable def F108_109 (D : jx_D) (s0 : Int32) (h : jx_H) : Option jx_R := jx_den (jx_look (tb_108 D)) (jx_nms mk_108) 109 [vn, vn] [vi s0] h
set_option maxRecDepth 1000000 in
set_option maxHeartbeats 4000000 in
theorem e108_0 (D : jx_D) (x1 : Int32) (h : jx_H) : F108_0 D x1 h = (jx_if (x1 = 0) (some ([vi (h.1 1 0 0)], h)) (jx_if (x1 = 1) (some ([vi (h.1 1 0 1)], h)) (jx_if (x1 = 2) ((jx_if ((h.1 1 0 2) = 0) (F108_75 D (0 : Int32) h) (F108_75 D (1 : Int32) h))) (jx_if (x1 = 3) ((jx_bV (D 38 [vr 14 0, vr 1 0] h) fun h1 => (jx_bI (D 55 [vr 14 0, vi (h1.1 14 0 4)] h1) fun y2 h2 => (jx_if (y2 = 0) (F108_109 D (0 : Int32) h2) (F108_109 D (1 : Int32) h2))))) (jx_if (x1 = 4) (some ([vi (h.1 0 0 6)], h)) (jx_if (x1 = 5) ((jx_bI (D 109 [vr 1 0] h) fun y3 h3 => some ([vi y3], h3))) (jx_if (x1 = 6) (some ([vi (h.1 0 0 7)], h)) ((jx_bI (D 8 [vr 0 0, vi ((-1) : Int32)] h) fun y4 h4 => some ([vi y4], h4)))))))))) := (jx_it_eq (tl_m108 D) (jx_mem [75, 109]) 51 _ _ _ _).trans rfl
set_option maxRecDepth 1000000 in
set_option maxHeartbeats 4000000 in
theorem e108_75 (D : jx_D) (s0 : Int32) (h : jx_H) : F108_75 D s0 h = some ([vi s0], h) := (jx_it_eq (tl_m108 D) (jx_mem [75, 109]) 51 _ _ _ _).trans rfl
set_option maxRecDepth 1000000 in
set_option maxHeartbeats 4000000 in
theorem e108_109 (D : jx_D) (s0 : Int32) (h : jx_H) : F108_109 D s0 h = some ([vi s0], h) := (jx_it_eq (tl_m108 D) (jx_mem [75, 109]) 51 _ _ _ _).trans rfl
noncomputable def F109_0 (D : jx_D) (i0 : Nat) (h : jx_H) : Option jx_R := jx_den (jx_look (tb_109 D)) (jx_nms mk_109) 0 [vr 1 i0, vn, vn] [] h
noncomputable def F109_4 (D : jx_D) (i0 : Nat) (x1 : Int32) (x2 : Int32) (h : jx_H) : Option jx_R := jx_den (jx_look (tb_109 D)) (jx_nms mk_109) 4 [vr 1 i0, vi x1, vi x2] [] h
noncomputable def F109_21 (D : jx_D) (i0 : Nat) (x1 : Int32) (x2 : Int32) (h : jx_H) : Option jx_R := jx_den (jx_look (tb_109 D)) (jx_nms mk_109) 21 [vr 1 i0, vi x1, vi x2] [] h
set_option maxRecDepth 1000000 in
set_option maxHeartbeats 4000000 in
theorem e109_0 (D : jx_D) (i0 : Nat) (h : jx_H) : F109_0 D i0 h = F109_4 D i0 (0 : Int32) (0 : Int32) h := (jx_it_eq (tl_m109 D) (jx_mem [4, 21]) 22 _ _ _ _).trans rfl
set_option maxRecDepth 1000000 in
set_option maxHeartbeats 4000000 in
theorem e109_4 (D : jx_D) (i0 : Nat) (x1 : Int32) (x2 : Int32) (h : jx_H) : F109_4 D i0 x1 x2 h = (jx_if (x2 < (h.1 1 i0 1)) ((jx_if (jx_in x2 20) (F109_21 D i0 (x1 + (h.1 4 i0 x2.toNatClampNeg)) x2 h) none)) (some ([vi x1], h))) := (jx_it_eq (tl_m109 D) (jx_mem [4, 21]) 22 _ _ _ _).trans rfl
set_option maxRecDepth 1000000 in
set_option maxHeartbeats 4000000 in
theorem e109_21 (D : jx_D) (i0 : Nat) (x1 : Int32) (x2 : Int32) (h : jx_H) : F109_21 D i0 x1 x2 h = F109_4 D i0 x1 (x2 + 1) h := (jx_it_eq (tl_m109 D) (jx_mem [4, 21]) 22 _ _ _ _).trans rfl
