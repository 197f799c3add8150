/-- java/lang/Integer.bitCount(I)I -/
noncomputable def tb_1 (D : jx_D) : List (Nat × jx_A) := [(0, jx_ldI 0 1), (1, jx_ldI 0 2), (2, jx_push (vi 1) 3), (3, jx_i2 (fun x y => (x.toUInt32 >>> (y.toUInt32 &&& Int32.toUInt32 31)).toInt32) 4), (4, jx_push (vi 1431655765) 7), (7, jx_i2 (fun x y => x &&& y) 8), (8, jx_i2 (fun x y => x - y) 9), (9, jx_stI 0 1 10), (10, jx_ldI 0 11), (11, jx_push (vi 858993459) 14), (14, jx_i2 (fun x y => x &&& y) 15), (15, jx_ldI 0 16), (16, jx_push (vi 2) 17), (17, jx_i2 (fun x y => (x.toUInt32 >>> (y.toUInt32 &&& Int32.toUInt32 31)).toInt32) 18), (18, jx_push (vi 858993459) 21), (21, jx_i2 (fun x y => x &&& y) 22), (22, jx_i2 (fun x y => x + y) 23), (23, jx_stI 0 1 24), (24, jx_ldI 0 25), (25, jx_ldI 0 26), (26, jx_push (vi 4) 27), (27, jx_i2 (fun x y => (x.toUInt32 >>> (y.toUInt32 &&& Int32.toUInt32 31)).toInt32) 28), (28, jx_i2 (fun x y => x + y) 29), (29, jx_push (vi 252645135) 32), (32, jx_i2 (fun x y => x &&& y) 33), (33, jx_stI 0 1 34), (34, jx_ldI 0 35), (35, jx_ldI 0 36), (36, jx_push (vi 8) 38), (38, jx_i2 (fun x y => (x.toUInt32 >>> (y.toUInt32 &&& Int32.toUInt32 31)).toInt32) 39), (39, jx_i2 (fun x y => x + y) 40), (40, jx_stI 0 1 41), (41, jx_ldI 0 42), (42, jx_ldI 0 43), (43, jx_push (vi 16) 45), (45, jx_i2 (fun x y => (x.toUInt32 >>> (y.toUInt32 &&& Int32.toUInt32 31)).toInt32) 46), (46, jx_i2 (fun x y => x + y) 47), (47, jx_stI 0 1 48), (48, jx_ldI 0 49), (49, jx_push (vi 63) 51), (51, jx_i2 (fun x y => x &&& y) 52), (52, jx_rI)]
set_option maxRecDepth 100000 in
theorem tl_m1 (D : jx_D) : ∀ pc, jx_tl (jx_look (tb_1 D) pc) := jx_tlm <| by
  unfold tb_1
  exact jx_all1 (tl_ldI) <|
  jx_all1 (tl_ldI) <|
  jx_all1 (tl_push) <|
  jx_all1 (tl_i2) <|
  jx_all1 (tl_push) <|
  jx_all1 (tl_i2) <|
  jx_all1 (tl_i2) <|
  jx_all1 (tl_stI) <|
  jx_all1 (tl_ldI) <|
  jx_all1 (tl_push) <|
  jx_all1 (tl_i2) <|
  jx_all1 (tl_ldI) <|
  jx_all1 (tl_push) <|
  jx_all1 (tl_i2) <|
  jx_all1 (tl_push) <|
  jx_all1 (tl_i2) <|
  jx_all1 (tl_i2) <|
  jx_all1 (tl_stI) <|
  jx_all1 (tl_ldI) <|
  jx_all1 (tl_ldI) <|
  jx_all1 (tl_push) <|
  jx_all1 (tl_i2) <|
  jx_all1 (tl_i2) <|
  jx_all1 (tl_push) <|
  jx_all1 (tl_i2) <|
  jx_all1 (tl_stI) <|
  jx_all1 (tl_ldI) <|
  jx_all1 (tl_ldI) <|
  jx_all1 (tl_push) <|
  jx_all1 (tl_i2) <|
  jx_all1 (tl_i2) <|
  jx_all1 (tl_stI) <|
  jx_all1 (tl_ldI) <|
  jx_all1 (tl_ldI) <|
  jx_all1 (tl_push) <|
  jx_all1 (tl_i2) <|
  jx_all1 (tl_i2) <|
  jx_all1 (tl_stI) <|
  jx_all1 (tl_ldI) <|
  jx_all1 (tl_push) <|
  jx_all1 (tl_i2) <|
  jx_all1 (tl_rI) <|
  jx_all0
def mk_1 : List (Nat × List Bool) := [(10, [true]), (24, [true]), (34, [true]), (41, [true]), (48, [true])]
/-- RoadBench.anew(Z)I -/
noncomputable def tb_3 (D : jx_D) : List (Nat × jx_A) := [(0, jx_ldR 0 1), (1, jx_gR 0 1 (fun _ => 0) 4), (4, jx_gI 1 0 7), (7, jx_stI 2 3 8), (8, jx_ldR 0 9), (9, jx_gR 0 6 (fun _ => 0) 12), (12, jx_ldR 0 13), (13, jx_gR 0 1 (fun _ => 0) 16), (16, jx_vV D 4 6 2 19), (19, jx_ldR 0 20), (20, jx_gR 0 1 (fun _ => 0) 23), (23, jx_ldI 1 24), (24, jx_vV D 6 1 2 27), (27, jx_ldI 2 28), (28, jx_rI)]
set_option maxRecDepth 100000 in
theorem tl_m3 (D : jx_D) : ∀ pc, jx_tl (jx_look (tb_3 D) pc) := jx_tlm <| by
  unfold tb_3
  exact jx_all1 (tl_ldR) <|
  jx_all1 (tl_gR) <|
  jx_all1 (tl_gI) <|
  jx_all1 (tl_stI) <|
  jx_all1 (tl_ldR) <|
  jx_all1 (tl_gR) <|
  jx_all1 (tl_ldR) <|
  jx_all1 (tl_gR) <|
  jx_all1 (tl_vV) <|
  jx_all1 (tl_ldR) <|
  jx_all1 (tl_gR) <|
  jx_all1 (tl_ldI) <|
  jx_all1 (tl_vV) <|
  jx_all1 (tl_ldI) <|
  jx_all1 (tl_rI) <|
  jx_all0
def mk_3 : List (Nat × List Bool) := []
/-- RoadBench$Past.remember(LRoadBench$Net;)V -/
noncomputable def tb_4 (D : jx_D) : List (Nat × jx_A) := [(0, jx_ldR 0 1), (1, jx_gR 6 7 (fun _ => 0) 4), (4, jx_ldR 0 5), (5, jx_gI 6 1 8), (8, jx_aald 9), (9, jx_ldR 1 10), (10, jx_vV D 5 1 2 13), (13, jx_ldR 0 14), (14, jx_ldR 0 15), (15, jx_gI 6 1 18), (18, jx_push (vi 1) 19), (19, jx_i2 (fun x y => x + y) 20), (20, jx_push (vi 30) 22), (22, jx_dv (fun x y => x - x / y * y) 23), (23, jx_pI 6 1 26), (26, jx_ldR 0 27), (27, jx_ldR 0 28), (28, jx_gI 6 2 31), (31, jx_push (vi 1) 32), (32, jx_i2 (fun x y => x + y) 33), (33, jx_push (vi 30) 35), (35, jx_m2 jx_mn 38), (38, jx_pI 6 2 41), (41, jx_rV)]
set_option maxRecDepth 100000 in
theorem tl_m4 (D : jx_D) : ∀ pc, jx_tl (jx_look (tb_4 D) pc) := jx_tlm <| by
  unfold tb_4
  exact jx_all1 (tl_ldR) <|
  jx_all1 (tl_gR) <|
  jx_all1 (tl_ldR) <|
  jx_all1 (tl_gI) <|
  jx_all1 (tl_aald) <|
  jx_all1 (tl_ldR) <|
  jx_all1 (tl_vV) <|
  jx_all1 (tl_ldR) <|
  jx_all1 (tl_ldR) <|
  jx_all1 (tl_gI) <|
  jx_all1 (tl_push) <|
  jx_all1 (tl_i2) <|
  jx_all1 (tl_push) <|
  jx_all1 (tl_dv) <|
  jx_all1 (tl_pI) <|
  jx_all1 (tl_ldR) <|
  jx_all1 (tl_ldR) <|
  jx_all1 (tl_gI) <|
  jx_all1 (tl_push) <|
  jx_all1 (tl_i2) <|
  jx_all1 (tl_push) <|
  jx_all1 (tl_m2) <|
  jx_all1 (tl_pI) <|
  jx_all1 (tl_rV) <|
  jx_all0
def mk_4 : List (Nat × List Bool) := []
/-- RoadBench$Net.become(LRoadBench$Net;)V -/
noncomputable def tb_5 (D : jx_D) : List (Nat × jx_A) := [(0, jx_ldR 0 1), (1, jx_ldR 1 2), (2, jx_gI 1 0 5), (5, jx_pI 1 0 8), (8, jx_ldR 0 9), (9, jx_ldR 1 10), (10, jx_gI 1 1 13), (13, jx_pI 1 1 16), (16, jx_ldR 0 17), (17, jx_ldR 1 18), (18, jx_gI 1 2 21), (21, jx_pZ 1 2 24), (24, jx_ldR 1 25), (25, jx_gR 1 2 (fun i => i) 28), (28, jx_push (vi 0) 29), (29, jx_ldR 0 30), (30, jx_gR 1 2 (fun i => i) 33), (33, jx_push (vi 0) 34), (34, jx_ldR 0 35), (35, jx_gI 1 1 38), (38, jx_acp 41), (41, jx_ldR 1 42), (42, jx_gR 1 3 (fun i => i) 45), (45, jx_push (vi 0) 46), (46, jx_ldR 0 47), (47, jx_gR 1 3 (fun i => i) 50), (50, jx_push (vi 0) 51), (51, jx_ldR 0 52), (52, jx_gI 1 1 55), (55, jx_acp 58), (58, jx_ldR 1 59), (59, jx_gR 1 4 (fun i => i) 62), (62, jx_push (vi 0) 63), (63, jx_ldR 0 64), (64, jx_gR 1 4 (fun i => i) 67), (67, jx_push (vi 0) 68), (68, jx_ldR 0 69), (69, jx_gI 1 1 72), (72, jx_acp 75), (75, jx_ldR 1 76), (76, jx_gR 1 5 (fun i => i) 79), (79, jx_push (vi 0) 80), (80, jx_ldR 0 81), (81, jx_gR 1 5 (fun i => i) 84), (84, jx_push (vi 0) 85), (85, jx_ldR 0 86), (86, jx_gI 1 1 89), (89, jx_acp 92), (92, jx_rV)]
set_option maxRecDepth 100000 in
theorem tl_m5 (D : jx_D) : ∀ pc, jx_tl (jx_look (tb_5 D) pc) := jx_tlm <| by
  unfold tb_5
  exact jx_all1 (tl_ldR) <|
  jx_all1 (tl_ldR) <|
  jx_all1 (tl_gI) <|
  jx_all1 (tl_pI) <|
  jx_all1 (tl_ldR) <|
  jx_all1 (tl_ldR) <|
  jx_all1 (tl_gI) <|
  jx_all1 (tl_pI) <|
  jx_all1 (tl_ldR) <|
  jx_all1 (tl_ldR) <|
  jx_all1 (tl_gI) <|
  jx_all1 (tl_pZ) <|
  jx_all1 (tl_ldR) <|
  jx_all1 (tl_gR) <|
  jx_all1 (tl_push) <|
  jx_all1 (tl_ldR) <|
  jx_all1 (tl_gR) <|
  jx_all1 (tl_push) <|
  jx_all1 (tl_ldR) <|
  jx_all1 (tl_gI) <|
  jx_all1 (tl_acp) <|
  jx_all1 (tl_ldR) <|
  jx_all1 (tl_gR) <|
  jx_all1 (tl_push) <|
  jx_all1 (tl_ldR) <|
  jx_all1 (tl_gR) <|
  jx_all1 (tl_push) <|
  jx_all1 (tl_ldR) <|
  jx_all1 (tl_gI) <|
  jx_all1 (tl_acp) <|
  jx_all1 (tl_ldR) <|
  jx_all1 (tl_gR) <|
  jx_all1 (tl_push) <|
  jx_all1 (tl_ldR) <|
  jx_all1 (tl_gR) <|
  jx_all1 (tl_push) <|
  jx_all1 (tl_ldR) <|
  jx_all1 (tl_gI) <|
  jx_all1 (tl_acp) <|
  jx_all1 (tl_ldR) <|
  jx_all1 (tl_gR) <|
  jx_all1 (tl_push) <|
  jx_all1 (tl_ldR) <|
  jx_all1 (tl_gR) <|
  jx_all1 (tl_push) <|
  jx_all1 (tl_ldR) <|
  jx_all1 (tl_gI) <|
  jx_all1 (tl_acp) <|
  jx_all1 (tl_rV) <|
  jx_all0
def mk_5 : List (Nat × List Bool) := [(8, [true, true]), (16, [true, true]), (24, [true, true]), (41, [true, true]), (58, [true, true]), (75, [true, true]), (92, [false, false])]
/-- RoadBench$Net.empty(Z)V -/
noncomputable def tb_6 (D : jx_D) : List (Nat × jx_A) := [(0, jx_ldR 0 1), (1, jx_push (vi 0) 2), (2, jx_pI 1 0 5), (5, jx_ldR 0 6), (6, jx_push (vi 0) 7), (7, jx_pI 1 1 10), (10, jx_ldR 0 11), (11, jx_ldI 1 12), (12, jx_pZ 1 2 15), (15, jx_rV)]
set_option maxRecDepth 100000 in
theorem tl_m6 (D : jx_D) : ∀ pc, jx_tl (jx_look (tb_6 D) pc) := jx_tlm <| by
  unfold tb_6
  exact jx_all1 (tl_ldR) <|
  jx_all1 (tl_push) <|
  jx_all1 (tl_pI) <|
  jx_all1 (tl_ldR) <|
  jx_all1 (tl_push) <|
  jx_all1 (tl_pI) <|
  jx_all1 (tl_ldR) <|
  jx_all1 (tl_ldI) <|
  jx_all1 (tl_pZ) <|
  jx_all1 (tl_rV) <|
  jx_all0
def mk_6 : List (Nat × List Bool) := []
/-- RoadBench.post()I -/
noncomputable def tb_7 (D : jx_D) : List (Nat × jx_A) := [(0, jx_ldR 0 1), (1, jx_gR 0 1 (fun _ => 0) 4), (4, jx_gI 1 0 7), (7, jx_push (vi 8) 9), (9, jx_clt 19 12), (12, jx_ldR 0 13), (13, jx_push (vi (-5)) 15), (15, jx_vI D 8 0 2 18), (18, jx_rI), (19, jx_ldR 0 20), (20, jx_gR 0 6 (fun _ => 0) 23), (23, jx_ldR 0 24), (24, jx_gR 0 1 (fun _ => 0) 27), (27, jx_vV D 4 6 2 30), (30, jx_ldR 0 31), (31, jx_gR 0 1 (fun _ => 0) 34), (34, jx_vI D 9 1 1 37), (37, jx_rI)]
set_option maxRecDepth 100000 in
theorem tl_m7 (D : jx_D) : ∀ pc, jx_tl (jx_look (tb_7 D) pc) := jx_tlm <| by
  unfold tb_7
  exact jx_all1 (tl_ldR) <|
  jx_all1 (tl_gR) <|
  jx_all1 (tl_gI) <|
  jx_all1 (tl_push) <|
  jx_all1 (tl_clt) <|
  jx_all1 (tl_ldR) <|
  jx_all1 (tl_push) <|
  jx_all1 (tl_vI) <|
  jx_all1 (tl_rI) <|
  jx_all1 (tl_ldR) <|
  jx_all1 (tl_gR) <|
  jx_all1 (tl_ldR) <|
  jx_all1 (tl_gR) <|
  jx_all1 (tl_vV) <|
  jx_all1 (tl_ldR) <|
  jx_all1 (tl_gR) <|
  jx_all1 (tl_vI) <|
  jx_all1 (tl_rI) <|
  jx_all0
def mk_7 : List (Nat × List Bool) := []
/-- RoadBench.finding(I)I -/
noncomputable def tb_8 (D : jx_D) : List (Nat × jx_A) := [(0, jx_ldR 0 1), (1, jx_dup 2), (2, jx_gI 0 7 5), (5, jx_push (vi 1) 6), (6, jx_i2 (fun x y => x + y) 7), (7, jx_pI 0 7 10), (10, jx_ldI 1 11), (11, jx_rI)]
set_option maxRecDepth 100000 in
theorem tl_m8 (D : jx_D) : ∀ pc, jx_tl (jx_look (tb_8 D) pc) := jx_tlm <| by
  unfold tb_8
  exact jx_all1 (tl_ldR) <|
  jx_all1 (tl_dup) <|
  jx_all1 (tl_gI) <|
  jx_all1 (tl_push) <|
  jx_all1 (tl_i2) <|
  jx_all1 (tl_pI) <|
  jx_all1 (tl_ldI) <|
  jx_all1 (tl_rI) <|
  jx_all0
def mk_8 : List (Nat × List Bool) := []
/-- RoadBench$Net.addPost()I -/
noncomputable def tb_9 (D : jx_D) : List (Nat × jx_A) := [(0, jx_ldR 0 1), (1, jx_dup 2), (2, jx_gI 1 0 5), (5, jx_push (vi 1) 6), (6, jx_i2 (fun x y => x + y) 7), (7, jx_pI 1 0 10), (10, jx_ldR 0 11), (11, jx_gI 1 0 14), (14, jx_push (vi 1) 15), (15, jx_i2 (fun x y => x - y) 16), (16, jx_rI)]
set_option maxRecDepth 100000 in
theorem tl_m9 (D : jx_D) : ∀ pc, jx_tl (jx_look (tb_9 D) pc) := jx_tlm <| by
  unfold tb_9
  exact jx_all1 (tl_ldR) <|
  jx_all1 (tl_dup) <|
  jx_all1 (tl_gI) <|
  jx_all1 (tl_push) <|
  jx_all1 (tl_i2) <|
  jx_all1 (tl_pI) <|
  jx_all1 (tl_ldR) <|
  jx_all1 (tl_gI) <|
  jx_all1 (tl_push) <|
  jx_all1 (tl_i2) <|
  jx_all1 (tl_rI) <|
  jx_all0
def mk_9 : List (Nat × List Bool) := []
/-- RoadBench.road(II)I -/
noncomputable def tb_10 (D : jx_D) : List (Nat × jx_A) := [(0, jx_ldR 0 1), (1, jx_ldI 1 2), (2, jx_ldI 2 3), (3, jx_vI D 11 0 3 6), (6, jx_stI 3 4 7), (7, jx_ldI 3 8), (8, jx_ne0 26 11), (11, jx_ldR 0 12), (12, jx_gR 0 1 (fun _ => 0) 15), (15, jx_gI 1 1 18), (18, jx_push (vi 20) 20), (20, jx_clt 26 23), (23, jx_push (vi (-5)) 25), (25, jx_stI 3 4 26), (26, jx_ldI 3 27), (27, jx_eq0 36 30), (30, jx_ldR 0 31), (31, jx_ldI 3 32), (32, jx_vI D 8 0 2 35), (35, jx_rI), (36, jx_ldR 0 37), (37, jx_gR 0 6 (fun _ => 0) 40), (40, jx_ldR 0 41), (41, jx_gR 0 1 (fun _ => 0) 44), (44, jx_vV D 4 6 2 47), (47, jx_ldR 0 48), (48, jx_gR 0 1 (fun _ => 0) 51), (51, jx_ldI 1 52), (52, jx_ldI 2 53), (53, jx_vI D 13 1 3 56), (56, jx_rI)]
set_option maxRecDepth 100000 in
theorem tl_m10 (D : jx_D) : ∀ pc, jx_tl (jx_look (tb_10 D) pc) := jx_tlm <| by
  unfold tb_10
  exact jx_all1 (tl_ldR) <|
  jx_all1 (tl_ldI) <|
  jx_all1 (tl_ldI) <|
  jx_all1 (tl_vI) <|
  jx_all1 (tl_stI) <|
  jx_all1 (tl_ldI) <|
  jx_all1 (tl_ne0) <|
  jx_all1 (tl_ldR) <|
  jx_all1 (tl_gR) <|
  jx_all1 (tl_gI) <|
  jx_all1 (tl_push) <|
  jx_all1 (tl_clt) <|
  jx_all1 (tl_push) <|
  jx_all1 (tl_stI) <|
  jx_all1 (tl_ldI) <|
  jx_all1 (tl_eq0) <|
  jx_all1 (tl_ldR) <|
  jx_all1 (tl_ldI) <|
  jx_all1 (tl_vI) <|
  jx_all1 (tl_rI) <|
  jx_all1 (tl_ldR) <|
  jx_all1 (tl_gR) <|
  jx_all1 (tl_ldR) <|
  jx_all1 (tl_gR) <|
  jx_all1 (tl_vV) <|
  jx_all1 (tl_ldR) <|
  jx_all1 (tl_gR) <|
  jx_all1 (tl_ldI) <|
  jx_all1 (tl_ldI) <|
  jx_all1 (tl_vI) <|
  jx_all1 (tl_rI) <|
  jx_all0
def mk_10 : List (Nat × List Bool) := [(26, [true, true, true, true])]
/-- RoadBench.faultOfTwo(II)I -/
noncomputable def tb_11 (D : jx_D) : List (Nat × jx_A) := [(0, jx_ldR 0 1), (1, jx_ldI 1 2), (2, jx_vI D 12 0 2 5), (5, jx_ne0 16 8), (8, jx_ldR 0 9), (9, jx_ldI 2 10), (10, jx_vI D 12 0 2 13), (13, jx_eq0 18 16), (16, jx_push (vi (-1)) 17), (17, jx_rI), (18, jx_ldI 1 19), (19, jx_ldI 2 20), (20, jx_cne 28 23), (23, jx_push (vi (-3)) 25), (25, jx_go 29), (28, jx_push (vi 0) 29), (29, jx_rI)]
set_option maxRecDepth 100000 in
theorem tl_m11 (D : jx_D) : ∀ pc, jx_tl (jx_look (tb_11 D) pc) := jx_tlm <| by
  unfold tb_11
  exact jx_all1 (tl_ldR) <|
  jx_all1 (tl_ldI) <|
  jx_all1 (tl_vI) <|
  jx_all1 (tl_ne0) <|
  jx_all1 (tl_ldR) <|
  jx_all1 (tl_ldI) <|
  jx_all1 (tl_vI) <|
  jx_all1 (tl_eq0) <|
  jx_all1 (tl_push) <|
  jx_all1 (tl_rI) <|
  jx_all1 (tl_ldI) <|
  jx_all1 (tl_ldI) <|
  jx_all1 (tl_cne) <|
  jx_all1 (tl_push) <|
  jx_all1 (tl_go) <|
  jx_all1 (tl_push) <|
  jx_all1 (tl_rI) <|
  jx_all0
def mk_11 : List (Nat × List Bool) := [(16, [false, false, false]), (29, [false, false, false])]
/-- RoadBench.isNoPost(I)Z -/
noncomputable def tb_12 (D : jx_D) : List (Nat × jx_A) := [(0, jx_ldI 1 1), (1, jx_lt0 15 4), (4, jx_ldI 1 5), (5, jx_ldR 0 6), (6, jx_gR 0 1 (fun _ => 0) 9), (9, jx_gI 1 0 12), (12, jx_clt 19 15), (15, jx_push (vi 1) 16), (16, jx_go 20), (19, jx_push (vi 0) 20), (20, jx_rZ)]
set_option maxRecDepth 100000 in
theorem tl_m12 (D : jx_D) : ∀ pc, jx_tl (jx_look (tb_12 D) pc) := jx_tlm <| by
  unfold tb_12
  exact jx_all1 (tl_ldI) <|
  jx_all1 (tl_lt0) <|
  jx_all1 (tl_ldI) <|
  jx_all1 (tl_ldR) <|
  jx_all1 (tl_gR) <|
  jx_all1 (tl_gI) <|
  jx_all1 (tl_clt) <|
  jx_all1 (tl_push) <|
  jx_all1 (tl_go) <|
  jx_all1 (tl_push) <|
  jx_all1 (tl_rZ) <|
  jx_all0
def mk_12 : List (Nat × List Bool) := [(15, [false, false]), (20, [false, false])]
/-- RoadBench$Net.addRoad(II)I -/
noncomputable def tb_13 (D : jx_D) : List (Nat × jx_A) := [(0, jx_ldR 0 1), (1, jx_gI 1 1 4), (4, jx_stI 3 4 5), (5, jx_ldR 0 6), (6, jx_gR 1 2 (fun i => i) 9), (9, jx_ldI 3 10), (10, jx_ldI 1 11), (11, jx_iast 12), (12, jx_ldR 0 13), (13, jx_gR 1 3 (fun i => i) 16), (16, jx_ldI 3 17), (17, jx_ldI 2 18), (18, jx_iast 19), (19, jx_ldR 0 20), (20, jx_gR 1 4 (fun i => i) 23), (23, jx_ldI 3 24), (24, jx_push (vi 1) 25), (25, jx_iast 26), (26, jx_ldR 0 27), (27, jx_gR 1 5 (fun i => i) 30), (30, jx_ldI 3 31), (31, jx_push (vi 4) 32), (32, jx_iast 33), (33, jx_ldR 0 34), (34, jx_dup 35), (35, jx_gI 1 1 38), (38, jx_push (vi 1) 39), (39, jx_i2 (fun x y => x + y) 40), (40, jx_pI 1 1 43), (43, jx_ldI 3 44), (44, jx_rI)]
set_option maxRecDepth 100000 in
theorem tl_m13 (D : jx_D) : ∀ pc, jx_tl (jx_look (tb_13 D) pc) := jx_tlm <| by
  unfold tb_13
  exact jx_all1 (tl_ldR) <|
  jx_all1 (tl_gI) <|
  jx_all1 (tl_stI) <|
  jx_all1 (tl_ldR) <|
  jx_all1 (tl_gR) <|
  jx_all1 (tl_ldI) <|
  jx_all1 (tl_ldI) <|
  jx_all1 (tl_iast) <|
  jx_all1 (tl_ldR) <|
  jx_all1 (tl_gR) <|
  jx_all1 (tl_ldI) <|
  jx_all1 (tl_ldI) <|
  jx_all1 (tl_iast) <|
  jx_all1 (tl_ldR) <|
  jx_all1 (tl_gR) <|
  jx_all1 (tl_ldI) <|
  jx_all1 (tl_push) <|
  jx_all1 (tl_iast) <|
  jx_all1 (tl_ldR) <|
  jx_all1 (tl_gR) <|
  jx_all1 (tl_ldI) <|
  jx_all1 (tl_push) <|
  jx_all1 (tl_iast) <|
  jx_all1 (tl_ldR) <|
  jx_all1 (tl_dup) <|
  jx_all1 (tl_gI) <|
  jx_all1 (tl_push) <|
  jx_all1 (tl_i2) <|
  jx_all1 (tl_pI) <|
  jx_all1 (tl_ldI) <|
  jx_all1 (tl_rI) <|
  jx_all0
def mk_13 : List (Nat × List Bool) := []
/-- RoadBench.worth(IZI)I -/
noncomputable def tb_14 (D : jx_D) : List (Nat × jx_A) := [(0, jx_ldR 0 1), (1, jx_ldI 1 2), (2, jx_vI D 15 0 2 5), (5, jx_ne0 28 8), (8, jx_ldI 3 9), (9, jx_lt0 28 12), (12, jx_ldI 3 13), (13, jx_ldI 2 14), (14, jx_eq0 22 17), (17, jx_push (vi 8) 19), (19, jx_go 25), (22, jx_push (vi 1000) 25), (25, jx_cle 34 28), (28, jx_ldR 0 29), (29, jx_push (vi (-1)) 30), (30, jx_vI D 8 0 2 33), (33, jx_rI), (34, jx_ldR 0 35), (35, jx_gR 0 6 (fun _ => 0) 38), (38, jx_ldR 0 39), (39, jx_gR 0 1 (fun _ => 0) 42), (42, jx_vV D 4 6 2 45), (45, jx_ldI 2 46), (46, jx_eq0 59 49), (49, jx_ldR 0 50), (50, jx_gR 0 1 (fun _ => 0) 53), (53, jx_gR 1 5 (fun i => i) 56), (56, jx_go 66), (59, jx_ldR 0 60), (60, jx_gR 0 1 (fun _ => 0) 63), (63, jx_gR 1 4 (fun i => i) 66), (66, jx_stR 4 6 68), (68, jx_ldR 4 70), (70, jx_ldI 1 71), (71, jx_iald 72), (72, jx_stI 5 6 74), (74, jx_ldR 4 76), (76, jx_ldI 1 77), (77, jx_ldI 3 78), (78, jx_iast 79), (79, jx_ldI 5 81), (81, jx_rI)]
set_option maxRecDepth 100000 in
theorem tl_m14 (D : jx_D) : ∀ pc, jx_tl (jx_look (tb_14 D) pc) := jx_tlm <| by
  unfold tb_14
  exact jx_all1 (tl_ldR) <|
  jx_all1 (tl_ldI) <|
  jx_all1 (tl_vI) <|
  jx_all1 (tl_ne0) <|
  jx_all1 (tl_ldI) <|
  jx_all1 (tl_lt0) <|
  jx_all1 (tl_ldI) <|
  jx_all1 (tl_ldI) <|
  jx_all1 (tl_eq0) <|
  jx_all1 (tl_push) <|
  jx_all1 (tl_go) <|
  jx_all1 (tl_push) <|
  jx_all1 (tl_cle) <|
  jx_all1 (tl_ldR) <|
  jx_all1 (tl_push) <|
  jx_all1 (tl_vI) <|
  jx_all1 (tl_rI) <|
  jx_all1 (tl_ldR) <|
  jx_all1 (tl_gR) <|
  jx_all1 (tl_ldR) <|
  jx_all1 (tl_gR) <|
  jx_all1 (tl_vV) <|
  jx_all1 (tl_ldI) <|
  jx_all1 (tl_eq0) <|
  jx_all1 (tl_ldR) <|
  jx_all1 (tl_gR) <|
  jx_all1 (tl_gR) <|
  jx_all1 (tl_go) <|
  jx_all1 (tl_ldR) <|
  jx_all1 (tl_gR) <|
  jx_all1 (tl_gR) <|
  jx_all1 (tl_stR) <|
  jx_all1 (tl_ldR) <|
  jx_all1 (tl_ldI) <|
  jx_all1 (tl_iald) <|
  jx_all1 (tl_stI) <|
  jx_all1 (tl_ldR) <|
  jx_all1 (tl_ldI) <|
  jx_all1 (tl_ldI) <|
  jx_all1 (tl_iast) <|
  jx_all1 (tl_ldI) <|
  jx_all1 (tl_rI) <|
  jx_all0
def mk_14 : List (Nat × List Bool) := [(25, [true, true, true, true, false, false]), (28, [true, false, false, false, false, false])]
/-- RoadBench.isNoRoad(I)Z -/
noncomputable def tb_15 (D : jx_D) : List (Nat × jx_A) := [(0, jx_ldI 1 1), (1, jx_lt0 15 4), (4, jx_ldI 1 5), (5, jx_ldR 0 6), (6, jx_gR 0 1 (fun _ => 0) 9), (9, jx_gI 1 1 12), (12, jx_clt 19 15), (15, jx_push (vi 1) 16), (16, jx_go 20), (19, jx_push (vi 0) 20), (20, jx_rZ)]
set_option maxRecDepth 100000 in
theorem tl_m15 (D : jx_D) : ∀ pc, jx_tl (jx_look (tb_15 D) pc) := jx_tlm <| by
  unfold tb_15
  exact jx_all1 (tl_ldI) <|
  jx_all1 (tl_lt0) <|
  jx_all1 (tl_ldI) <|
  jx_all1 (tl_ldR) <|
  jx_all1 (tl_gR) <|
  jx_all1 (tl_gI) <|
  jx_all1 (tl_clt) <|
  jx_all1 (tl_push) <|
  jx_all1 (tl_go) <|
  jx_all1 (tl_push) <|
  jx_all1 (tl_rZ) <|
  jx_all0
def mk_15 : List (Nat × List Bool) := [(15, [false, false]), (20, [false, false])]
/-- RoadBench.drop(I)I -/
noncomputable def tb_16 (D : jx_D) : List (Nat × jx_A) := [(0, jx_ldR 0 1), (1, jx_ldI 1 2), (2, jx_vI D 15 0 2 5), (5, jx_eq0 14 8), (8, jx_ldR 0 9), (9, jx_push (vi (-1)) 10), (10, jx_vI D 8 0 2 13), (13, jx_rI), (14, jx_ldR 0 15), (15, jx_gR 0 6 (fun _ => 0) 18), (18, jx_ldR 0 19), (19, jx_gR 0 1 (fun _ => 0) 22), (22, jx_vV D 4 6 2 25), (25, jx_ldR 0 26), (26, jx_gR 0 1 (fun _ => 0) 29), (29, jx_ldR 0 30), (30, jx_gR 0 1 (fun _ => 0) 33), (33, jx_gI 1 1 36), (36, jx_cI D 17 1 39), (39, jx_push (vi 1) 40), (40, jx_ldI 1 41), (41, jx_i2 (fun x y => x <<< (y &&& 31)) 42), (42, jx_push (vi (-1)) 43), (43, jx_i2 (fun x y => x ^^^ y) 44), (44, jx_i2 (fun x y => x &&& y) 45), (45, jx_vV D 18 1 2 48), (48, jx_ldR 0 49), (49, jx_gR 0 1 (fun _ => 0) 52), (52, jx_gI 1 1 55), (55, jx_rI)]
set_option maxRecDepth 100000 in
theorem tl_m16 (D : jx_D) : ∀ pc, jx_tl (jx_look (tb_16 D) pc) := jx_tlm <| by
  unfold tb_16
  exact jx_all1 (tl_ldR) <|
  jx_all1 (tl_ldI) <|
  jx_all1 (tl_vI) <|
  jx_all1 (tl_eq0) <|
  jx_all1 (tl_ldR) <|
  jx_all1 (tl_push) <|
  jx_all1 (tl_vI) <|
  jx_all1 (tl_rI) <|
  jx_all1 (tl_ldR) <|
  jx_all1 (tl_gR) <|
  jx_all1 (tl_ldR) <|
  jx_all1 (tl_gR) <|
  jx_all1 (tl_vV) <|
  jx_all1 (tl_ldR) <|
  jx_all1 (tl_gR) <|
  jx_all1 (tl_ldR) <|
  jx_all1 (tl_gR) <|
  jx_all1 (tl_gI) <|
  jx_all1 (tl_cI) <|
  jx_all1 (tl_push) <|
  jx_all1 (tl_ldI) <|
  jx_all1 (tl_i2) <|
  jx_all1 (tl_push) <|
  jx_all1 (tl_i2) <|
  jx_all1 (tl_i2) <|
  jx_all1 (tl_vV) <|
  jx_all1 (tl_ldR) <|
  jx_all1 (tl_gR) <|
  jx_all1 (tl_gI) <|
  jx_all1 (tl_rI) <|
  jx_all0
def mk_16 : List (Nat × List Bool) := []
/-- RoadBench.setOfFirst(I)I -/
noncomputable def tb_17 (D : jx_D) : List (Nat × jx_A) := [(0, jx_push (vi 1) 1), (1, jx_ldI 0 2), (2, jx_i2 (fun x y => x <<< (y &&& 31)) 3), (3, jx_push (vi 1) 4), (4, jx_i2 (fun x y => x - y) 5), (5, jx_rI)]
set_option maxRecDepth 100000 in
theorem tl_m17 (D : jx_D) : ∀ pc, jx_tl (jx_look (tb_17 D) pc) := jx_tlm <| by
  unfold tb_17
  exact jx_all1 (tl_push) <|
  jx_all1 (tl_ldI) <|
  jx_all1 (tl_i2) <|
  jx_all1 (tl_push) <|
  jx_all1 (tl_i2) <|
  jx_all1 (tl_rI) <|
  jx_all0
def mk_17 : List (Nat × List Bool) := []
/-- RoadBench$Net.leaveOnly(I)V -/
noncomputable def tb_18 (D : jx_D) : List (Nat × jx_A) := [(0, jx_ldR 0 1), (1, jx_gI 1 1 4), (4, jx_stI 2 4 5), (5, jx_ldR 0 6), (6, jx_push (vi 0) 7), (7, jx_pI 1 1 10), (10, jx_push (vi 0) 11), (11, jx_stI 3 4 12), (12, jx_ldI 3 13), (13, jx_ldI 2 14), (14, jx_cge 101 17), (17, jx_ldI 1 18), (18, jx_ldI 3 19), (19, jx_cI D 19 2 22), (22, jx_eq0 95 25), (25, jx_ldR 0 26), (26, jx_gR 1 2 (fun i => i) 29), (29, jx_ldR 0 30), (30, jx_gI 1 1 33), (33, jx_ldR 0 34), (34, jx_gR 1 2 (fun i => i) 37), (37, jx_ldI 3 38), (38, jx_iald 39), (39, jx_iast 40), (40, jx_ldR 0 41), (41, jx_gR 1 3 (fun i => i) 44), (44, jx_ldR 0 45), (45, jx_gI 1 1 48), (48, jx_ldR 0 49), (49, jx_gR 1 3 (fun i => i) 52), (52, jx_ldI 3 53), (53, jx_iald 54), (54, jx_iast 55), (55, jx_ldR 0 56), (56, jx_gR 1 4 (fun i => i) 59), (59, jx_ldR 0 60), (60, jx_gI 1 1 63), (63, jx_ldR 0 64), (64, jx_gR 1 4 (fun i => i) 67), (67, jx_ldI 3 68), (68, jx_iald 69), (69, jx_iast 70), (70, jx_ldR 0 71), (71, jx_gR 1 5 (fun i => i) 74), (74, jx_ldR 0 75), (75, jx_gI 1 1 78), (78, jx_ldR 0 79), (79, jx_gR 1 5 (fun i => i) 82), (82, jx_ldI 3 83), (83, jx_iald 84), (84, jx_iast 85), (85, jx_ldR 0 86), (86, jx_dup 87), (87, jx_gI 1 1 90), (90, jx_push (vi 1) 91), (91, jx_i2 (fun x y => x + y) 92), (92, jx_pI 1 1 95), (95, jx_incI 3 4 1 98), (98, jx_go 12), (101, jx_rV)]
set_option maxRecDepth 100000 in
theorem tl_m18 (D : jx_D) : ∀ pc, jx_tl (jx_look (tb_18 D) pc) := jx_tlm <| by
  unfold tb_18
  exact jx_all1 (tl_ldR) <|
  jx_all1 (tl_gI) <|
  jx_all1 (tl_stI) <|
  jx_all1 (tl_ldR) <|
  jx_all1 (tl_push) <|
  jx_all1 (tl_pI) <|
  jx_all1 (tl_push) <|
  jx_all1 (tl_stI) <|
  jx_all1 (tl_ldI) <|
  jx_all1 (tl_ldI) <|
  jx_all1 (tl_cge) <|
  jx_all1 (tl_ldI) <|
  jx_all1 (tl_ldI) <|
  jx_all1 (tl_cI) <|
  jx_all1 (tl_eq0) <|
  jx_all1 (tl_ldR) <|
  jx_all1 (tl_gR) <|
  jx_all1 (tl_ldR) <|
  jx_all1 (tl_gI) <|
  jx_all1 (tl_ldR) <|
  jx_all1 (tl_gR) <|
  jx_all1 (tl_ldI) <|
  jx_all1 (tl_iald) <|
  jx_all1 (tl_iast) <|
  jx_all1 (tl_ldR) <|
  jx_all1 (tl_gR) <|
  jx_all1 (tl_ldR) <|
  jx_all1 (tl_gI) <|
  jx_all1 (tl_ldR) <|
  jx_all1 (tl_gR) <|
  jx_all1 (tl_ldI) <|
  jx_all1 (tl_iald) <|
  jx_all1 (tl_iast) <|
  jx_all1 (tl_ldR) <|
  jx_all1 (tl_gR) <|
  jx_all1 (tl_ldR) <|
  jx_all1 (tl_gI) <|
  jx_all1 (tl_ldR) <|
  jx_all1 (tl_gR) <|
  jx_all1 (tl_ldI) <|
  jx_all1 (tl_iald) <|
  jx_all1 (tl_iast) <|
  jx_all1 (tl_ldR) <|
  jx_all1 (tl_gR) <|
  jx_all1 (tl_ldR) <|
  jx_all1 (tl_gI) <|
  jx_all1 (tl_ldR) <|
  jx_all1 (tl_gR) <|
  jx_all1 (tl_ldI) <|
  jx_all1 (tl_iald) <|
  jx_all1 (tl_iast) <|
  jx_all1 (tl_ldR) <|
  jx_all1 (tl_dup) <|
  jx_all1 (tl_gI) <|
  jx_all1 (tl_push) <|
  jx_all1 (tl_i2) <|
  jx_all1 (tl_pI) <|
  jx_all1 (tl_incI) <|
  jx_all1 (tl_go) <|
  jx_all1 (tl_rV) <|
  jx_all0
def mk_18 : List (Nat × List Bool) := [(10, [true, true, true, false]), (12, [true, true, true, true]), (40, [true, true, true, true]), (55, [true, true, true, true]), (70, [true, true, true, true]), (85, [true, true, true, true]), (95, [true, true, true, true])]
/-- RoadBench.has(II)Z -/
noncomputable def tb_19 (D : jx_D) : List (Nat × jx_A) := [(0, jx_ldI 0 1), (1, jx_ldI 1 2), (2, jx_i2 (fun x y => x >>> (y &&& 31)) 3), (3, jx_push (vi 1) 4), (4, jx_i2 (fun x y => x &&& y) 5), (5, jx_eq0 12 8), (8, jx_push (vi 1) 9), (9, jx_go 13), (12, jx_push (vi 0) 13), (13, jx_rZ)]
set_option maxRecDepth 100000 in
theorem tl_m19 (D : jx_D) : ∀ pc, jx_tl (jx_look (tb_19 D) pc) := jx_tlm <| by
  unfold tb_19
  exact jx_all1 (tl_ldI) <|
  jx_all1 (tl_ldI) <|
  jx_all1 (tl_i2) <|
  jx_all1 (tl_push) <|
  jx_all1 (tl_i2) <|
  jx_all1 (tl_eq0) <|
  jx_all1 (tl_push) <|
  jx_all1 (tl_go) <|
  jx_all1 (tl_push) <|
  jx_all1 (tl_rZ) <|
  jx_all0
def mk_19 : List (Nat × List Bool) := [(13, [false, false])]
/-- RoadBench.join(II)I -/
noncomputable def tb_20 (D : jx_D) : List (Nat × jx_A) := [(0, jx_ldR 0 1), (1, jx_ldI 1 2), (2, jx_vI D 12 0 2 5), (5, jx_ne0 16 8), (8, jx_ldR 0 9), (9, jx_ldI 2 10), (10, jx_vI D 12 0 2 13), (13, jx_eq0 22 16), (16, jx_ldR 0 17), (17, jx_push (vi (-1)) 18), (18, jx_vI D 8 0 2 21), (21, jx_rI), (22, jx_ldI 1 23), (23, jx_ldI 2 24), (24, jx_clt 34 27), (27, jx_ldR 0 28), (28, jx_push (vi (-3)) 30), (30, jx_vI D 8 0 2 33), (33, jx_rI), (34, jx_ldR 0 35), (35, jx_gR 0 6 (fun _ => 0) 38), (38, jx_ldR 0 39), (39, jx_gR 0 1 (fun _ => 0) 42), (42, jx_vV D 4 6 2 45), (45, jx_ldR 0 46), (46, jx_gR 0 1 (fun _ => 0) 49), (49, jx_ldI 1 50), (50, jx_ldI 2 51), (51, jx_vV D 21 1 3 54), (54, jx_ldR 0 55), (55, jx_gR 0 1 (fun _ => 0) 58), (58, jx_gI 1 0 61), (61, jx_rI)]
set_option maxRecDepth 100000 in
theorem tl_m20 (D : jx_D) : ∀ pc, jx_tl (jx_look (tb_20 D) pc) := jx_tlm <| by
  unfold tb_20
  exact jx_all1 (tl_ldR) <|
  jx_all1 (tl_ldI) <|
  jx_all1 (tl_vI) <|
  jx_all1 (tl_ne0) <|
  jx_all1 (tl_ldR) <|
  jx_all1 (tl_ldI) <|
  jx_all1 (tl_vI) <|
  jx_all1 (tl_eq0) <|
  jx_all1 (tl_ldR) <|
  jx_all1 (tl_push) <|
  jx_all1 (tl_vI) <|
  jx_all1 (tl_rI) <|
  jx_all1 (tl_ldI) <|
  jx_all1 (tl_ldI) <|
  jx_all1 (tl_clt) <|
  jx_all1 (tl_ldR) <|
  jx_all1 (tl_push) <|
  jx_all1 (tl_vI) <|
  jx_all1 (tl_rI) <|
  jx_all1 (tl_ldR) <|
  jx_all1 (tl_gR) <|
  jx_all1 (tl_ldR) <|
  jx_all1 (tl_gR) <|
  jx_all1 (tl_vV) <|
  jx_all1 (tl_ldR) <|
  jx_all1 (tl_gR) <|
  jx_all1 (tl_ldI) <|
  jx_all1 (tl_ldI) <|
  jx_all1 (tl_vV) <|
  jx_all1 (tl_ldR) <|
  jx_all1 (tl_gR) <|
  jx_all1 (tl_gI) <|
  jx_all1 (tl_rI) <|
  jx_all0
def mk_20 : List (Nat × List Bool) := [(16, [true, false, false])]
/-- RoadBench$Net.melt(II)V -/
noncomputable def tb_21 (D : jx_D) : List (Nat × jx_A) := [(0, jx_push (vi 0) 1), (1, jx_stI 3 5 2), (2, jx_push (vi 0) 3), (3, jx_stI 4 5 5), (5, jx_ldI 4 7), (7, jx_ldR 0 8), (8, jx_gI 1 1 11), (11, jx_cge 82 14), (14, jx_ldR 0 15), (15, jx_gR 1 2 (fun i => i) 18), (18, jx_ldI 4 20), (20, jx_ldR 0 21), (21, jx_gR 1 2 (fun i => i) 24), (24, jx_ldI 4 26), (26, jx_iald 27), (27, jx_ldI 1 28), (28, jx_ldI 2 29), (29, jx_cI D 22 3 32), (32, jx_iast 33), (33, jx_ldR 0 34), (34, jx_gR 1 3 (fun i => i) 37), (37, jx_ldI 4 39), (39, jx_ldR 0 40), (40, jx_gR 1 3 (fun i => i) 43), (43, jx_ldI 4 45), (45, jx_iald 46), (46, jx_ldI 1 47), (47, jx_ldI 2 48), (48, jx_cI D 22 3 51), (51, jx_iast 52), (52, jx_ldR 0 53), (53, jx_gR 1 2 (fun i => i) 56), (56, jx_ldI 4 58), (58, jx_iald 59), (59, jx_ldR 0 60), (60, jx_gR 1 3 (fun i => i) 63), (63, jx_ldI 4 65), (65, jx_iald 66), (66, jx_ceq 76 69), (69, jx_ldI 3 70), (70, jx_push (vi 1) 71), (71, jx_ldI 4 73), (73, jx_i2 (fun x y => x <<< (y &&& 31)) 74), (74, jx_i2 (fun x y => x ||| y) 75), (75, jx_stI 3 5 76), (76, jx_incI 4 5 1 79), (79, jx_go 5), (82, jx_ldR 0 83), (83, jx_ldI 3 84), (84, jx_vV D 18 1 2 87), (87, jx_ldR 0 88), (88, jx_dup 89), (89, jx_gI 1 0 92), (92, jx_push (vi 1) 93), (93, jx_i2 (fun x y => x - y) 94), (94, jx_pI 1 0 97), (97, jx_rV)]
set_option maxRecDepth 100000 in
theorem tl_m21 (D : jx_D) : ∀ pc, jx_tl (jx_look (tb_21 D) pc) := jx_tlm <| by
  unfold tb_21
  exact jx_all1 (tl_push) <|
  jx_all1 (tl_stI) <|
  jx_all1 (tl_push) <|
  jx_all1 (tl_stI) <|
  jx_all1 (tl_ldI) <|
  jx_all1 (tl_ldR) <|
  jx_all1 (tl_gI) <|
  jx_all1 (tl_cge) <|
  jx_all1 (tl_ldR) <|
  jx_all1 (tl_gR) <|
  jx_all1 (tl_ldI) <|
  jx_all1 (tl_ldR) <|
  jx_all1 (tl_gR) <|
  jx_all1 (tl_ldI) <|
  jx_all1 (tl_iald) <|
  jx_all1 (tl_ldI) <|
  jx_all1 (tl_ldI) <|
  jx_all1 (tl_cI) <|
  jx_all1 (tl_iast) <|
  jx_all1 (tl_ldR) <|
  jx_all1 (tl_gR) <|
  jx_all1 (tl_ldI) <|
  jx_all1 (tl_ldR) <|
  jx_all1 (tl_gR) <|
  jx_all1 (tl_ldI) <|
  jx_all1 (tl_iald) <|
  jx_all1 (tl_ldI) <|
  jx_all1 (tl_ldI) <|
  jx_all1 (tl_cI) <|
  jx_all1 (tl_iast) <|
  jx_all1 (tl_ldR) <|
  jx_all1 (tl_gR) <|
  jx_all1 (tl_ldI) <|
  jx_all1 (tl_iald) <|
  jx_all1 (tl_ldR) <|
  jx_all1 (tl_gR) <|
  jx_all1 (tl_ldI) <|
  jx_all1 (tl_iald) <|
  jx_all1 (tl_ceq) <|
  jx_all1 (tl_ldI) <|
  jx_all1 (tl_push) <|
  jx_all1 (tl_ldI) <|
  jx_all1 (tl_i2) <|
  jx_all1 (tl_i2) <|
  jx_all1 (tl_stI) <|
  jx_all1 (tl_incI) <|
  jx_all1 (tl_go) <|
  jx_all1 (tl_ldR) <|
  jx_all1 (tl_ldI) <|
  jx_all1 (tl_vV) <|
  jx_all1 (tl_ldR) <|
  jx_all1 (tl_dup) <|
  jx_all1 (tl_gI) <|
  jx_all1 (tl_push) <|
  jx_all1 (tl_i2) <|
  jx_all1 (tl_pI) <|
  jx_all1 (tl_rV) <|
  jx_all0
def mk_21 : List (Nat × List Bool) := [(5, [true, true, true, true, true]), (33, [true, true, true, true, true]), (52, [true, true, true, true, true]), (76, [true, true, true, true, true]), (97, [false, false, false, false, false])]
/-- RoadBench$Net.numberAfterMelt(III)I -/
noncomputable def tb_22 (D : jx_D) : List (Nat × jx_A) := [(0, jx_ldI 0 1), (1, jx_ldI 2 2), (2, jx_cne 7 5), (5, jx_ldI 1 6), (6, jx_rI), (7, jx_ldI 0 8), (8, jx_ldI 2 9), (9, jx_cle 18 12), (12, jx_ldI 0 13), (13, jx_push (vi 1) 14), (14, jx_i2 (fun x y => x - y) 15), (15, jx_go 19), (18, jx_ldI 0 19), (19, jx_rI)]
set_option maxRecDepth 100000 in
theorem tl_m22 (D : jx_D) : ∀ pc, jx_tl (jx_look (tb_22 D) pc) := jx_tlm <| by
  unfold tb_22
  exact jx_all1 (tl_ldI) <|
  jx_all1 (tl_ldI) <|
  jx_all1 (tl_cne) <|
  jx_all1 (tl_ldI) <|
  jx_all1 (tl_rI) <|
  jx_all1 (tl_ldI) <|
  jx_all1 (tl_ldI) <|
  jx_all1 (tl_cle) <|
  jx_all1 (tl_ldI) <|
  jx_all1 (tl_push) <|
  jx_all1 (tl_i2) <|
  jx_all1 (tl_go) <|
  jx_all1 (tl_ldI) <|
  jx_all1 (tl_rI) <|
  jx_all0
def mk_22 : List (Nat × List Bool) := [(19, [false, false, false])]
/-- RoadBench.of(II)I -/
noncomputable def tb_23 (D : jx_D) : List (Nat × jx_A) := [(0, jx_ldR 0 1), (1, jx_ldI 1 2), (2, jx_vI D 15 0 2 5), (5, jx_eq0 14 8), (8, jx_ldR 0 9), (9, jx_push (vi (-1)) 10), (10, jx_vI D 8 0 2 13), (13, jx_rI), (14, jx_ldI 2 15), (15, jx_sw [(0, 44), (1, 54), (2, 64), (3, 74)] 84), (44, jx_ldR 0 45), (45, jx_gR 0 1 (fun _ => 0) 48), (48, jx_gR 1 2 (fun i => i) 51), (51, jx_ldI 1 52), (52, jx_iald 53), (53, jx_rI), (54, jx_ldR 0 55), (55, jx_gR 0 1 (fun _ => 0) 58), (58, jx_gR 1 3 (fun i => i) 61), (61, jx_ldI 1 62), (62, jx_iald 63), (63, jx_rI), (64, jx_ldR 0 65), (65, jx_gR 0 1 (fun _ => 0) 68), (68, jx_gR 1 4 (fun i => i) 71), (71, jx_ldI 1 72), (72, jx_iald 73), (73, jx_rI), (74, jx_ldR 0 75), (75, jx_gR 0 1 (fun _ => 0) 78), (78, jx_gR 1 5 (fun i => i) 81), (81, jx_ldI 1 82), (82, jx_iald 83), (83, jx_rI), (84, jx_ldR 0 85), (85, jx_push (vi (-1)) 86), (86, jx_vI D 8 0 2 89), (89, jx_rI)]
set_option maxRecDepth 100000 in
theorem tl_m23 (D : jx_D) : ∀ pc, jx_tl (jx_look (tb_23 D) pc) := jx_tlm <| by
  unfold tb_23
  exact jx_all1 (tl_ldR) <|
  jx_all1 (tl_ldI) <|
  jx_all1 (tl_vI) <|
  jx_all1 (tl_eq0) <|
  jx_all1 (tl_ldR) <|
  jx_all1 (tl_push) <|
  jx_all1 (tl_vI) <|
  jx_all1 (tl_rI) <|
  jx_all1 (tl_ldI) <|
  jx_all1 (tl_sw) <|
  jx_all1 (tl_ldR) <|
  jx_all1 (tl_gR) <|
  jx_all1 (tl_gR) <|
  jx_all1 (tl_ldI) <|
  jx_all1 (tl_iald) <|
  jx_all1 (tl_rI) <|
  jx_all1 (tl_ldR) <|
  jx_all1 (tl_gR) <|
  jx_all1 (tl_gR) <|
  jx_all1 (tl_ldI) <|
  jx_all1 (tl_iald) <|
  jx_all1 (tl_rI) <|
  jx_all1 (tl_ldR) <|
  jx_all1 (tl_gR) <|
  jx_all1 (tl_gR) <|
  jx_all1 (tl_ldI) <|
  jx_all1 (tl_iald) <|
  jx_all1 (tl_rI) <|
  jx_all1 (tl_ldR) <|
  jx_all1 (tl_gR) <|
  jx_all1 (tl_gR) <|
  jx_all1 (tl_ldI) <|
  jx_all1 (tl_iald) <|
  jx_all1 (tl_rI) <|
  jx_all1 (tl_ldR) <|
  jx_all1 (tl_push) <|
  jx_all1 (tl_vI) <|
  jx_all1 (tl_rI) <|
  jx_all0
def mk_23 : List (Nat × List Bool) := []
/-- RoadBench.undo()I -/
noncomputable def tb_24 (D : jx_D) : List (Nat × jx_A) := [(0, jx_ldR 0 1), (1, jx_gR 0 6 (fun _ => 0) 4), (4, jx_gI 6 2 7), (7, jx_ne0 17 10), (10, jx_ldR 0 11), (11, jx_push (vi (-6)) 13), (13, jx_vI D 8 0 2 16), (16, jx_rI), (17, jx_ldR 0 18), (18, jx_gR 0 6 (fun _ => 0) 21), (21, jx_ldR 0 22), (22, jx_gR 0 1 (fun _ => 0) 25), (25, jx_vV D 25 6 2 28), (28, jx_ldR 0 29), (29, jx_gR 0 6 (fun _ => 0) 32), (32, jx_gI 6 2 35), (35, jx_rI)]
set_option maxRecDepth 100000 in
theorem tl_m24 (D : jx_D) : ∀ pc, jx_tl (jx_look (tb_24 D) pc) := jx_tlm <| by
  unfold tb_24
  exact jx_all1 (tl_ldR) <|
  jx_all1 (tl_gR) <|
  jx_all1 (tl_gI) <|
  jx_all1 (tl_ne0) <|
  jx_all1 (tl_ldR) <|
  jx_all1 (tl_push) <|
  jx_all1 (tl_vI) <|
  jx_all1 (tl_rI) <|
  jx_all1 (tl_ldR) <|
  jx_all1 (tl_gR) <|
  jx_all1 (tl_ldR) <|
  jx_all1 (tl_gR) <|
  jx_all1 (tl_vV) <|
  jx_all1 (tl_ldR) <|
  jx_all1 (tl_gR) <|
  jx_all1 (tl_gI) <|
  jx_all1 (tl_rI) <|
  jx_all0
def mk_24 : List (Nat × List Bool) := []
/-- RoadBench$Past.restore(LRoadBench$Net;)V -/
noncomputable def tb_25 (D : jx_D) : List (Nat × jx_A) := [(0, jx_ldR 0 1), (1, jx_ldR 0 2), (2, jx_gI 6 1 5), (5, jx_push (vi 30) 7), (7, jx_i2 (fun x y => x + y) 8), (8, jx_push (vi 1) 9), (9, jx_i2 (fun x y => x - y) 10), (10, jx_push (vi 30) 12), (12, jx_dv (fun x y => x - x / y * y) 13), (13, jx_pI 6 1 16), (16, jx_ldR 0 17), (17, jx_dup 18), (18, jx_gI 6 2 21), (21, jx_push (vi 1) 22), (22, jx_i2 (fun x y => x - y) 23), (23, jx_pI 6 2 26), (26, jx_ldR 1 27), (27, jx_ldR 0 28), (28, jx_gR 6 7 (fun _ => 0) 31), (31, jx_ldR 0 32), (32, jx_gI 6 1 35), (35, jx_aald 36), (36, jx_vV D 5 1 2 39), (39, jx_rV)]
set_option maxRecDepth 100000 in
theorem tl_m25 (D : jx_D) : ∀ pc, jx_tl (jx_look (tb_25 D) pc) := jx_tlm <| by
  unfold tb_25
  exact jx_all1 (tl_ldR) <|
  jx_all1 (tl_ldR) <|
  jx_all1 (tl_gI) <|
  jx_all1 (tl_push) <|
  jx_all1 (tl_i2) <|
  jx_all1 (tl_push) <|
  jx_all1 (tl_i2) <|
  jx_all1 (tl_push) <|
  jx_all1 (tl_dv) <|
  jx_all1 (tl_pI) <|
  jx_all1 (tl_ldR) <|
  jx_all1 (tl_dup) <|
  jx_all1 (tl_gI) <|
  jx_all1 (tl_push) <|
  jx_all1 (tl_i2) <|
  jx_all1 (tl_pI) <|
  jx_all1 (tl_ldR) <|
  jx_all1 (tl_ldR) <|
  jx_all1 (tl_gR) <|
  jx_all1 (tl_ldR) <|
  jx_all1 (tl_gI) <|
  jx_all1 (tl_aald) <|
  jx_all1 (tl_vV) <|
  jx_all1 (tl_rV) <|
  jx_all0
def mk_25 : List (Nat × List Bool) := []
/-- RoadBench.sheet(III)I -/
noncomputable def tb_26 (D : jx_D) : List (Nat × jx_A) := [(0, jx_ldI 1 1), (1, jx_cI D 27 1 4), (4, jx_ne0 29 7), (7, jx_ldI 2 8), (8, jx_eq0 35 11), (11, jx_ldI 2 12), (12, jx_push (vi 8) 14), (14, jx_ceq 35 17), (17, jx_ldI 2 18), (18, jx_push (vi 16) 20), (20, jx_ceq 35 23), (23, jx_ldI 2 24), (24, jx_push (vi 32) 26), (26, jx_ceq 35 29), (29, jx_ldR 0 30), (30, jx_push (vi (-1)) 31), (31, jx_vI D 8 0 2 34), (34, jx_rI), (35, jx_ldI 3 36), (36, jx_ge0 46 39), (39, jx_ldR 0 40), (40, jx_push (vi (-3)) 42), (42, jx_vI D 8 0 2 45), (45, jx_rI), (46, jx_ldI 3 47), (47, jx_push (vi 24) 49), (49, jx_cle 58 52), (52, jx_ldR 0 53), (53, jx_push (vi (-1)) 54), (54, jx_vI D 8 0 2 57), (57, jx_rI), (58, jx_ldR 0 59), (59, jx_gR 0 10 (fun _ => 0) 62), (62, jx_ldI 1 63), (63, jx_aald 64), (64, jx_ldI 2 65), (65, jx_ldI 3 66), (66, jx_vI D 28 11 3 69), (69, jx_rI)]
set_option maxRecDepth 100000 in
theorem tl_m26 (D : jx_D) : ∀ pc, jx_tl (jx_look (tb_26 D) pc) := jx_tlm <| by
  unfold tb_26
  exact jx_all1 (tl_ldI) <|
  jx_all1 (tl_cI) <|
  jx_all1 (tl_ne0) <|
  jx_all1 (tl_ldI) <|
  jx_all1 (tl_eq0) <|
  jx_all1 (tl_ldI) <|
  jx_all1 (tl_push) <|
  jx_all1 (tl_ceq) <|
  jx_all1 (tl_ldI) <|
  jx_all1 (tl_push) <|
  jx_all1 (tl_ceq) <|
  jx_all1 (tl_ldI) <|
  jx_all1 (tl_push) <|
  jx_all1 (tl_ceq) <|
  jx_all1 (tl_ldR) <|
  jx_all1 (tl_push) <|
  jx_all1 (tl_vI) <|
  jx_all1 (tl_rI) <|
  jx_all1 (tl_ldI) <|
  jx_all1 (tl_ge0) <|
  jx_all1 (tl_ldR) <|
  jx_all1 (tl_push) <|
  jx_all1 (tl_vI) <|
  jx_all1 (tl_rI) <|
  jx_all1 (tl_ldI) <|
  jx_all1 (tl_push) <|
  jx_all1 (tl_cle) <|
  jx_all1 (tl_ldR) <|
  jx_all1 (tl_push) <|
  jx_all1 (tl_vI) <|
  jx_all1 (tl_rI) <|
  jx_all1 (tl_ldR) <|
  jx_all1 (tl_gR) <|
  jx_all1 (tl_ldI) <|
  jx_all1 (tl_aald) <|
  jx_all1 (tl_ldI) <|
  jx_all1 (tl_ldI) <|
  jx_all1 (tl_vI) <|
  jx_all1 (tl_rI) <|
  jx_all0
def mk_26 : List (Nat × List Bool) := [(29, [true, false, false, false]), (35, [true, true, true, true])]
/-- RoadBench.isNoSheet(I)Z -/
noncomputable def tb_27 (D : jx_D) : List (Nat × jx_A) := [(0, jx_ldI 0 1), (1, jx_lt0 9 4), (4, jx_ldI 0 5), (5, jx_push (vi 4) 6), (6, jx_clt 13 9), (9, jx_push (vi 1) 10), (10, jx_go 14), (13, jx_push (vi 0) 14), (14, jx_rZ)]
set_option maxRecDepth 100000 in
theorem tl_m27 (D : jx_D) : ∀ pc, jx_tl (jx_look (tb_27 D) pc) := jx_tlm <| by
  unfold tb_27
  exact jx_all1 (tl_ldI) <|
  jx_all1 (tl_lt0) <|
  jx_all1 (tl_ldI) <|
  jx_all1 (tl_push) <|
  jx_all1 (tl_clt) <|
  jx_all1 (tl_push) <|
  jx_all1 (tl_go) <|
  jx_all1 (tl_push) <|
  jx_all1 (tl_rZ) <|
  jx_all0
def mk_27 : List (Nat × List Bool) := [(9, [false]), (14, [false])]
/-- RoadBench$Sheet.become(II)I -/
noncomputable def tb_28 (D : jx_D) : List (Nat × jx_A) := [(0, jx_ldR 0 1), (1, jx_ldI 1 2), (2, jx_pI 11 0 5), (5, jx_ldR 0 6), (6, jx_ldI 1 7), (7, jx_ne0 14 10), (10, jx_push (vi 0) 11), (11, jx_go 15), (14, jx_ldI 2 15), (15, jx_pI 11 1 18), (18, jx_push (vi 0) 19), (19, jx_stI 3 4 20), (20, jx_ldI 3 21), (21, jx_ldR 0 22), (22, jx_gI 11 1 25), (25, jx_cge 41 28), (28, jx_ldR 0 29), (29, jx_gR 11 12 (fun i => i) 32), (32, jx_ldI 3 33), (33, jx_push (vi 0) 34), (34, jx_iast 35), (35, jx_incI 3 4 1 38), (38, jx_go 20), (41, jx_ldR 0 42), (42, jx_gI 11 1 45), (45, jx_rI)]
set_option maxRecDepth 100000 in
theorem tl_m28 (D : jx_D) : ∀ pc, jx_tl (jx_look (tb_28 D) pc) := jx_tlm <| by
  unfold tb_28
  exact jx_all1 (tl_ldR) <|
  jx_all1 (tl_ldI) <|
  jx_all1 (tl_pI) <|
  jx_all1 (tl_ldR) <|
  jx_all1 (tl_ldI) <|
  jx_all1 (tl_ne0) <|
  jx_all1 (tl_push) <|
  jx_all1 (tl_go) <|
  jx_all1 (tl_ldI) <|
  jx_all1 (tl_pI) <|
  jx_all1 (tl_push) <|
  jx_all1 (tl_stI) <|
  jx_all1 (tl_ldI) <|
  jx_all1 (tl_ldR) <|
  jx_all1 (tl_gI) <|
  jx_all1 (tl_cge) <|
  jx_all1 (tl_ldR) <|
  jx_all1 (tl_gR) <|
  jx_all1 (tl_ldI) <|
  jx_all1 (tl_push) <|
  jx_all1 (tl_iast) <|
  jx_all1 (tl_incI) <|
  jx_all1 (tl_go) <|
  jx_all1 (tl_ldR) <|
  jx_all1 (tl_gI) <|
  jx_all1 (tl_rI) <|
  jx_all0
def mk_28 : List (Nat × List Bool) := [(5, [true, true, true, false]), (15, [true, false, false, false]), (18, [true, false, false, false]), (20, [true, false, false, true]), (35, [true, false, false, true])]
/-- RoadBench.put(III)I -/
noncomputable def tb_29 (D : jx_D) : List (Nat × jx_A) := [(0, jx_ldI 1 1), (1, jx_cI D 27 1 4), (4, jx_eq0 13 7), (7, jx_ldR 0 8), (8, jx_push (vi (-1)) 9), (9, jx_vI D 8 0 2 12), (12, jx_rI), (13, jx_ldR 0 14), (14, jx_gR 0 10 (fun _ => 0) 17), (17, jx_ldI 1 18), (18, jx_aald 19), (19, jx_stR 4 5 21), (21, jx_ldR 4 23), (23, jx_vI D 30 11 1 26), (26, jx_eq0 36 29), (29, jx_ldR 0 30), (30, jx_push (vi (-2)) 32), (32, jx_vI D 8 0 2 35), (35, jx_rI), (36, jx_ldI 2 37), (37, jx_lt0 49 40), (40, jx_ldI 2 41), (41, jx_ldR 4 43), (43, jx_gI 11 1 46), (46, jx_clt 55 49), (49, jx_ldR 0 50), (50, jx_push (vi (-1)) 51), (51, jx_vI D 8 0 2 54), (54, jx_rI), (55, jx_ldR 4 57), (57, jx_ldI 2 58), (58, jx_ldI 3 59), (59, jx_vV D 31 11 3 62), (62, jx_push (vi 0) 63), (63, jx_rI)]
set_option maxRecDepth 100000 in
theorem tl_m29 (D : jx_D) : ∀ pc, jx_tl (jx_look (tb_29 D) pc) := jx_tlm <| by
  unfold tb_29
  exact jx_all1 (tl_ldI) <|
  jx_all1 (tl_cI) <|
  jx_all1 (tl_eq0) <|
  jx_all1 (tl_ldR) <|
  jx_all1 (tl_push) <|
  jx_all1 (tl_vI) <|
  jx_all1 (tl_rI) <|
  jx_all1 (tl_ldR) <|
  jx_all1 (tl_gR) <|
  jx_all1 (tl_ldI) <|
  jx_all1 (tl_aald) <|
  jx_all1 (tl_stR) <|
  jx_all1 (tl_ldR) <|
  jx_all1 (tl_vI) <|
  jx_all1 (tl_eq0) <|
  jx_all1 (tl_ldR) <|
  jx_all1 (tl_push) <|
  jx_all1 (tl_vI) <|
  jx_all1 (tl_rI) <|
  jx_all1 (tl_ldI) <|
  jx_all1 (tl_lt0) <|
  jx_all1 (tl_ldI) <|
  jx_all1 (tl_ldR) <|
  jx_all1 (tl_gI) <|
  jx_all1 (tl_clt) <|
  jx_all1 (tl_ldR) <|
  jx_all1 (tl_push) <|
  jx_all1 (tl_vI) <|
  jx_all1 (tl_rI) <|
  jx_all1 (tl_ldR) <|
  jx_all1 (tl_ldI) <|
  jx_all1 (tl_ldI) <|
  jx_all1 (tl_vV) <|
  jx_all1 (tl_push) <|
  jx_all1 (tl_rI) <|
  jx_all0
def mk_29 : List (Nat × List Bool) := [(49, [true, false, false, false, false])]
/-- RoadBench$Sheet.isMissing()Z -/
noncomputable def tb_30 (D : jx_D) : List (Nat × jx_A) := [(0, jx_ldR 0 1), (1, jx_gI 11 0 4), (4, jx_ne0 11 7), (7, jx_push (vi 1) 8), (8, jx_go 12), (11, jx_push (vi 0) 12), (12, jx_rZ)]
set_option maxRecDepth 100000 in
theorem tl_m30 (D : jx_D) : ∀ pc, jx_tl (jx_look (tb_30 D) pc) := jx_tlm <| by
  unfold tb_30
  exact jx_all1 (tl_ldR) <|
  jx_all1 (tl_gI) <|
  jx_all1 (tl_ne0) <|
  jx_all1 (tl_push) <|
  jx_all1 (tl_go) <|
  jx_all1 (tl_push) <|
  jx_all1 (tl_rZ) <|
  jx_all0
def mk_30 : List (Nat × List Bool) := [(12, [false])]
/-- RoadBench$Sheet.write(II)V -/
noncomputable def tb_31 (D : jx_D) : List (Nat × jx_A) := [(0, jx_ldR 0 1), (1, jx_gR 11 12 (fun i => i) 4), (4, jx_ldI 1 5), (5, jx_ldR 0 6), (6, jx_gI 11 0 9), (9, jx_push (vi 32) 11), (11, jx_cne 18 14), (14, jx_ldI 2 15), (15, jx_go 27), (18, jx_ldI 2 19), (19, jx_ldR 0 20), (20, jx_gI 11 0 23), (23, jx_cI D 17 1 26), (26, jx_i2 (fun x y => x &&& y) 27), (27, jx_iast 28), (28, jx_rV)]
set_option maxRecDepth 100000 in
theorem tl_m31 (D : jx_D) : ∀ pc, jx_tl (jx_look (tb_31 D) pc) := jx_tlm <| by
  unfold tb_31
  exact jx_all1 (tl_ldR) <|
  jx_all1 (tl_gR) <|
  jx_all1 (tl_ldI) <|
  jx_all1 (tl_ldR) <|
  jx_all1 (tl_gI) <|
  jx_all1 (tl_push) <|
  jx_all1 (tl_cne) <|
  jx_all1 (tl_ldI) <|
  jx_all1 (tl_go) <|
  jx_all1 (tl_ldI) <|
  jx_all1 (tl_ldR) <|
  jx_all1 (tl_gI) <|
  jx_all1 (tl_cI) <|
  jx_all1 (tl_i2) <|
  jx_all1 (tl_iast) <|
  jx_all1 (tl_rV) <|
  jx_all0
def mk_31 : List (Nat × List Bool) := [(27, [false, false, false])]
/-- RoadBench.copy(IIIII)I -/
noncomputable def tb_32 (D : jx_D) : List (Nat × jx_A) := [(0, jx_ldI 1 1), (1, jx_cI D 27 1 4), (4, jx_ne0 14 7), (7, jx_ldI 3 8), (8, jx_cI D 27 1 11), (11, jx_eq0 20 14), (14, jx_ldR 0 15), (15, jx_push (vi (-1)) 16), (16, jx_vI D 8 0 2 19), (19, jx_rI), (20, jx_ldR 0 21), (21, jx_gR 0 10 (fun _ => 0) 24), (24, jx_ldI 1 25), (25, jx_aald 26), (26, jx_stR 6 8 28), (28, jx_ldR 0 29), (29, jx_gR 0 10 (fun _ => 0) 32), (32, jx_ldI 3 33), (33, jx_aald 34), (34, jx_stR 7 8 36), (36, jx_ldR 6 38), (38, jx_vI D 30 11 1 41), (41, jx_ne0 52 44), (44, jx_ldR 7 46), (46, jx_vI D 30 11 1 49), (49, jx_eq0 59 52), (52, jx_ldR 0 53), (53, jx_push (vi (-2)) 55), (55, jx_vI D 8 0 2 58), (58, jx_rI), (59, jx_ldR 6 61), (61, jx_gI 11 0 64), (64, jx_ldR 7 66), (66, jx_gI 11 0 69), (69, jx_ceq 79 72), (72, jx_ldR 0 73), (73, jx_push (vi (-4)) 75), (75, jx_vI D 8 0 2 78), (78, jx_rI), (79, jx_ldR 6 81), (81, jx_ldI 2 82), (82, jx_ldI 5 84), (84, jx_vI D 33 11 3 87), (87, jx_eq0 102 90), (90, jx_ldR 7 92), (92, jx_ldI 4 94), (94, jx_ldI 5 96), (96, jx_vI D 33 11 3 99), (99, jx_ne0 108 102), (102, jx_ldR 0 103), (103, jx_push (vi (-1)) 104), (104, jx_vI D 8 0 2 107), (107, jx_rI), (108, jx_ldR 6 110), (110, jx_gR 11 12 (fun i => i) 113), (113, jx_ldI 2 114), (114, jx_ldR 7 116), (116, jx_gR 11 12 (fun i => i) 119), (119, jx_ldI 4 121), (121, jx_ldI 5 123), (123, jx_acp 126), (126, jx_ldI 5 128), (128, jx_rI)]
set_option maxRecDepth 100000 in
theorem tl_m32 (D : jx_D) : ∀ pc, jx_tl (jx_look (tb_32 D) pc) := jx_tlm <| by
  unfold tb_32
  exact jx_all1 (tl_ldI) <|
  jx_all1 (tl_cI) <|
  jx_all1 (tl_ne0) <|
  jx_all1 (tl_ldI) <|
  jx_all1 (tl_cI) <|
  jx_all1 (tl_eq0) <|
  jx_all1 (tl_ldR) <|
  jx_all1 (tl_push) <|
  jx_all1 (tl_vI) <|
  jx_all1 (tl_rI) <|
  jx_all1 (tl_ldR) <|
  jx_all1 (tl_gR) <|
  jx_all1 (tl_ldI) <|
  jx_all1 (tl_aald) <|
  jx_all1 (tl_stR) <|
  jx_all1 (tl_ldR) <|
  jx_all1 (tl_gR) <|
  jx_all1 (tl_ldI) <|
  jx_all1 (tl_aald) <|
  jx_all1 (tl_stR) <|
  jx_all1 (tl_ldR) <|
  jx_all1 (tl_vI) <|
  jx_all1 (tl_ne0) <|
  jx_all1 (tl_ldR) <|
  jx_all1 (tl_vI) <|
  jx_all1 (tl_eq0) <|
  jx_all1 (tl_ldR) <|
  jx_all1 (tl_push) <|
  jx_all1 (tl_vI) <|
  jx_all1 (tl_rI) <|
  jx_all1 (tl_ldR) <|
  jx_all1 (tl_gI) <|
  jx_all1 (tl_ldR) <|
  jx_all1 (tl_gI) <|
  jx_all1 (tl_ceq) <|
  jx_all1 (tl_ldR) <|
  jx_all1 (tl_push) <|
  jx_all1 (tl_vI) <|
  jx_all1 (tl_rI) <|
  jx_all1 (tl_ldR) <|
  jx_all1 (tl_ldI) <|
  jx_all1 (tl_ldI) <|
  jx_all1 (tl_vI) <|
  jx_all1 (tl_eq0) <|
  jx_all1 (tl_ldR) <|
  jx_all1 (tl_ldI) <|
  jx_all1 (tl_ldI) <|
  jx_all1 (tl_vI) <|
  jx_all1 (tl_ne0) <|
  jx_all1 (tl_ldR) <|
  jx_all1 (tl_push) <|
  jx_all1 (tl_vI) <|
  jx_all1 (tl_rI) <|
  jx_all1 (tl_ldR) <|
  jx_all1 (tl_gR) <|
  jx_all1 (tl_ldI) <|
  jx_all1 (tl_ldR) <|
  jx_all1 (tl_gR) <|
  jx_all1 (tl_ldI) <|
  jx_all1 (tl_ldI) <|
  jx_all1 (tl_acp) <|
  jx_all1 (tl_ldI) <|
  jx_all1 (tl_rI) <|
  jx_all0
def mk_32 : List (Nat × List Bool) := [(14, [true, false, false, false, false, false, false, false]), (52, [true, false, false, false, false, false, false, false]), (102, [true, false, false, false, false, false, false, false])]
/-- RoadBench$Sheet.hasRow(II)Z -/
noncomputable def tb_33 (D : jx_D) : List (Nat × jx_A) := [(0, jx_ldI 1 1), (1, jx_lt0 30 4), (4, jx_ldI 2 5), (5, jx_lt0 30 8), (8, jx_ldI 2 9), (9, jx_ldR 0 10), (10, jx_gI 11 1 13), (13, jx_cgt 30 16), (16, jx_ldI 1 17), (17, jx_ldR 0 18), (18, jx_gI 11 1 21), (21, jx_ldI 2 22), (22, jx_i2 (fun x y => x - y) 23), (23, jx_cgt 30 26), (26, jx_push (vi 1) 27), (27, jx_go 31), (30, jx_push (vi 0) 31), (31, jx_rZ)]
set_option maxRecDepth 100000 in
theorem tl_m33 (D : jx_D) : ∀ pc, jx_tl (jx_look (tb_33 D) pc) := jx_tlm <| by
  unfold tb_33
  exact jx_all1 (tl_ldI) <|
  jx_all1 (tl_lt0) <|
  jx_all1 (tl_ldI) <|
  jx_all1 (tl_lt0) <|
  jx_all1 (tl_ldI) <|
  jx_all1 (tl_ldR) <|
  jx_all1 (tl_gI) <|
  jx_all1 (tl_cgt) <|
  jx_all1 (tl_ldI) <|
  jx_all1 (tl_ldR) <|
  jx_all1 (tl_gI) <|
  jx_all1 (tl_ldI) <|
  jx_all1 (tl_i2) <|
  jx_all1 (tl_cgt) <|
  jx_all1 (tl_push) <|
  jx_all1 (tl_go) <|
  jx_all1 (tl_push) <|
  jx_all1 (tl_rZ) <|
  jx_all0
def mk_33 : List (Nat × List Bool) := [(30, [false, false, false]), (31, [false, false, false])]
/-- RoadBench.lay(I)I -/
noncomputable def tb_34 (D : jx_D) : List (Nat × jx_A) := [(0, jx_ldR 0 1), (1, jx_ldI 1 2), (2, jx_vI D 35 0 2 5), (5, jx_stI 2 6 6), (6, jx_ldI 2 7), (7, jx_eq0 16 10), (10, jx_ldR 0 11), (11, jx_ldI 2 12), (12, jx_vI D 8 0 2 15), (15, jx_rI), (16, jx_ldR 0 17), (17, jx_gR 0 6 (fun _ => 0) 20), (20, jx_ldR 0 21), (21, jx_gR 0 1 (fun _ => 0) 24), (24, jx_vV D 4 6 2 27), (27, jx_ldR 0 28), (28, jx_gR 0 10 (fun _ => 0) 31), (31, jx_ldI 1 32), (32, jx_aald 33), (33, jx_gR 11 12 (fun i => i) 36), (36, jx_stR 3 6 37), (37, jx_ldR 0 38), (38, jx_gR 0 10 (fun _ => 0) 41), (41, jx_ldI 1 42), (42, jx_aald 43), (43, jx_gI 11 1 46), (46, jx_push (vi 2) 47), (47, jx_dv (fun x y => x / y) 48), (48, jx_stI 4 6 50), (50, jx_push (vi 0) 51), (51, jx_stI 5 6 53), (53, jx_ldI 5 55), (55, jx_ldI 4 57), (57, jx_cge 88 60), (60, jx_ldR 0 61), (61, jx_gR 0 1 (fun _ => 0) 64), (64, jx_ldR 3 65), (65, jx_push (vi 2) 66), (66, jx_ldI 5 68), (68, jx_i2 (fun x y => x * y) 69), (69, jx_iald 70), (70, jx_ldR 3 71), (71, jx_push (vi 2) 72), (72, jx_ldI 5 74), (74, jx_i2 (fun x y => x * y) 75), (75, jx_push (vi 1) 76), (76, jx_i2 (fun x y => x + y) 77), (77, jx_iald 78), (78, jx_vI D 13 1 3 81), (81, jx_pop 82), (82, jx_incI 5 6 1 85), (85, jx_go 53), (88, jx_ldI 4 90), (90, jx_rI)]
set_option maxRecDepth 100000 in
theorem tl_m34 (D : jx_D) : ∀ pc, jx_tl (jx_look (tb_34 D) pc) := jx_tlm <| by
  unfold tb_34
  exact jx_all1 (tl_ldR) <|
  jx_all1 (tl_ldI) <|
  jx_all1 (tl_vI) <|
  jx_all1 (tl_stI) <|
  jx_all1 (tl_ldI) <|
  jx_all1 (tl_eq0) <|
  jx_all1 (tl_ldR) <|
  jx_all1 (tl_ldI) <|
  jx_all1 (tl_vI) <|
  jx_all1 (tl_rI) <|
  jx_all1 (tl_ldR) <|
  jx_all1 (tl_gR) <|
  jx_all1 (tl_ldR) <|
  jx_all1 (tl_gR) <|
  jx_all1 (tl_vV) <|
  jx_all1 (tl_ldR) <|
  jx_all1 (tl_gR) <|
  jx_all1 (tl_ldI) <|
  jx_all1 (tl_aald) <|
  jx_all1 (tl_gR) <|
  jx_all1 (tl_stR) <|
  jx_all1 (tl_ldR) <|
  jx_all1 (tl_gR) <|
  jx_all1 (tl_ldI) <|
  jx_all1 (tl_aald) <|
  jx_all1 (tl_gI) <|
  jx_all1 (tl_push) <|
  jx_all1 (tl_dv) <|
  jx_all1 (tl_stI) <|
  jx_all1 (tl_push) <|
  jx_all1 (tl_stI) <|
  jx_all1 (tl_ldI) <|
  jx_all1 (tl_ldI) <|
  jx_all1 (tl_cge) <|
  jx_all1 (tl_ldR) <|
  jx_all1 (tl_gR) <|
  jx_all1 (tl_ldR) <|
  jx_all1 (tl_push) <|
  jx_all1 (tl_ldI) <|
  jx_all1 (tl_i2) <|
  jx_all1 (tl_iald) <|
  jx_all1 (tl_ldR) <|
  jx_all1 (tl_push) <|
  jx_all1 (tl_ldI) <|
  jx_all1 (tl_i2) <|
  jx_all1 (tl_push) <|
  jx_all1 (tl_i2) <|
  jx_all1 (tl_iald) <|
  jx_all1 (tl_vI) <|
  jx_all1 (tl_pop) <|
  jx_all1 (tl_incI) <|
  jx_all1 (tl_go) <|
  jx_all1 (tl_ldI) <|
  jx_all1 (tl_rI) <|
  jx_all0
def mk_34 : List (Nat × List Bool) := [(50, [true, false, false, true, true, false]), (53, [true, false, false, true, true, true])]
/-- RoadBench.faultOfLaying(I)I -/
noncomputable def tb_35 (D : jx_D) : List (Nat × jx_A) := [(0, jx_ldI 1 1), (1, jx_cI D 27 1 4), (4, jx_eq0 9 7), (7, jx_push (vi (-1)) 8), (8, jx_rI), (9, jx_ldR 0 10), (10, jx_gR 0 10 (fun _ => 0) 13), (13, jx_ldI 1 14), (14, jx_aald 15), (15, jx_vI D 30 11 1 18), (18, jx_eq0 24 21), (21, jx_push (vi (-2)) 23), (23, jx_rI), (24, jx_ldR 0 25), (25, jx_gR 0 10 (fun _ => 0) 28), (28, jx_ldI 1 29), (29, jx_aald 30), (30, jx_gI 11 1 33), (33, jx_push (vi 2) 34), (34, jx_dv (fun x y => x / y) 35), (35, jx_stI 2 4 36), (36, jx_ldR 0 37), (37, jx_ldR 0 38), (38, jx_gR 0 10 (fun _ => 0) 41), (41, jx_ldI 1 42), (42, jx_aald 43), (43, jx_gR 11 12 (fun i => i) 46), (46, jx_ldI 2 47), (47, jx_vI D 36 0 3 50), (50, jx_stI 3 4 51), (51, jx_ldI 3 52), (52, jx_ne0 72 55), (55, jx_ldR 0 56), (56, jx_gR 0 1 (fun _ => 0) 59), (59, jx_gI 1 1 62), (62, jx_ldI 2 63), (63, jx_i2 (fun x y => x + y) 64), (64, jx_push (vi 20) 66), (66, jx_cle 72 69), (69, jx_push (vi (-5)) 71), (71, jx_stI 3 4 72), (72, jx_ldI 3 73), (73, jx_rI)]
set_option maxRecDepth 100000 in
theorem tl_m35 (D : jx_D) : ∀ pc, jx_tl (jx_look (tb_35 D) pc) := jx_tlm <| by
  unfold tb_35
  exact jx_all1 (tl_ldI) <|
  jx_all1 (tl_cI) <|
  jx_all1 (tl_eq0) <|
  jx_all1 (tl_push) <|
  jx_all1 (tl_rI) <|
  jx_all1 (tl_ldR) <|
  jx_all1 (tl_gR) <|
  jx_all1 (tl_ldI) <|
  jx_all1 (tl_aald) <|
  jx_all1 (tl_vI) <|
  jx_all1 (tl_eq0) <|
  jx_all1 (tl_push) <|
  jx_all1 (tl_rI) <|
  jx_all1 (tl_ldR) <|
  jx_all1 (tl_gR) <|
  jx_all1 (tl_ldI) <|
  jx_all1 (tl_aald) <|
  jx_all1 (tl_gI) <|
  jx_all1 (tl_push) <|
  jx_all1 (tl_dv) <|
  jx_all1 (tl_stI) <|
  jx_all1 (tl_ldR) <|
  jx_all1 (tl_ldR) <|
  jx_all1 (tl_gR) <|
  jx_all1 (tl_ldI) <|
  jx_all1 (tl_aald) <|
  jx_all1 (tl_gR) <|
  jx_all1 (tl_ldI) <|
  jx_all1 (tl_vI) <|
  jx_all1 (tl_stI) <|
  jx_all1 (tl_ldI) <|
  jx_all1 (tl_ne0) <|
  jx_all1 (tl_ldR) <|
  jx_all1 (tl_gR) <|
  jx_all1 (tl_gI) <|
  jx_all1 (tl_ldI) <|
  jx_all1 (tl_i2) <|
  jx_all1 (tl_push) <|
  jx_all1 (tl_cle) <|
  jx_all1 (tl_push) <|
  jx_all1 (tl_stI) <|
  jx_all1 (tl_ldI) <|
  jx_all1 (tl_rI) <|
  jx_all0
def mk_35 : List (Nat × List Bool) := [(36, [true, true, true, false]), (72, [false, false, false, true])]
/-- RoadBench.faultOfPairs([II)I -/
noncomputable def tb_36 (D : jx_D) : List (Nat × jx_A) := [(0, jx_push (vi 0) 1), (1, jx_stI 3 6 2), (2, jx_push (vi 0) 3), (3, jx_stI 4 6 5), (5, jx_ldI 4 7), (7, jx_ldI 2 8), (8, jx_cge 53 11), (11, jx_ldR 0 12), (12, jx_ldR 1 13), (13, jx_push (vi 2) 14), (14, jx_ldI 4 16), (16, jx_i2 (fun x y => x * y) 17), (17, jx_iald 18), (18, jx_ldR 1 19), (19, jx_push (vi 2) 20), (20, jx_ldI 4 22), (22, jx_i2 (fun x y => x * y) 23), (23, jx_push (vi 1) 24), (24, jx_i2 (fun x y => x + y) 25), (25, jx_iald 26), (26, jx_vI D 11 0 3 29), (29, jx_stI 5 6 31), (31, jx_ldI 5 33), (33, jx_push (vi (-1)) 34), (34, jx_cne 39 37), (37, jx_push (vi (-1)) 38), (38, jx_rI), (39, jx_ldI 5 41), (41, jx_eq0 47 44), (44, jx_ldI 5 46), (46, jx_stI 3 6 47), (47, jx_incI 4 6 1 50), (50, jx_go 5), (53, jx_ldI 3 54), (54, jx_rI)]
set_option maxRecDepth 100000 in
theorem tl_m36 (D : jx_D) : ∀ pc, jx_tl (jx_look (tb_36 D) pc) := jx_tlm <| by
  unfold tb_36
  exact jx_all1 (tl_push) <|
  jx_all1 (tl_stI) <|
  jx_all1 (tl_push) <|
  jx_all1 (tl_stI) <|
  jx_all1 (tl_ldI) <|
  jx_all1 (tl_ldI) <|
  jx_all1 (tl_cge) <|
  jx_all1 (tl_ldR) <|
  jx_all1 (tl_ldR) <|
  jx_all1 (tl_push) <|
  jx_all1 (tl_ldI) <|
  jx_all1 (tl_i2) <|
  jx_all1 (tl_iald) <|
  jx_all1 (tl_ldR) <|
  jx_all1 (tl_push) <|
  jx_all1 (tl_ldI) <|
  jx_all1 (tl_i2) <|
  jx_all1 (tl_push) <|
  jx_all1 (tl_i2) <|
  jx_all1 (tl_iald) <|
  jx_all1 (tl_vI) <|
  jx_all1 (tl_stI) <|
  jx_all1 (tl_ldI) <|
  jx_all1 (tl_push) <|
  jx_all1 (tl_cne) <|
  jx_all1 (tl_push) <|
  jx_all1 (tl_rI) <|
  jx_all1 (tl_ldI) <|
  jx_all1 (tl_eq0) <|
  jx_all1 (tl_ldI) <|
  jx_all1 (tl_stI) <|
  jx_all1 (tl_incI) <|
  jx_all1 (tl_go) <|
  jx_all1 (tl_ldI) <|
  jx_all1 (tl_rI) <|
  jx_all0
def mk_36 : List (Nat × List Bool) := [(5, [true, true, true, true, true, false]), (47, [true, true, true, true, true, false])]
/-- RoadBench.hold(II)I -/
noncomputable def tb_37 (D : jx_D) : List (Nat × jx_A) := [(0, jx_ldR 0 1), (1, jx_ldI 1 2), (2, jx_ldI 2 3), (3, jx_vI D 11 0 3 6), (6, jx_stI 3 4 7), (7, jx_ldI 3 8), (8, jx_eq0 17 11), (11, jx_ldR 0 12), (12, jx_ldI 3 13), (13, jx_vI D 8 0 2 16), (16, jx_rI), (17, jx_ldR 0 18), (18, jx_gR 0 14 (fun _ => 0) 21), (21, jx_ldR 0 22), (22, jx_gR 0 1 (fun _ => 0) 25), (25, jx_vV D 38 14 2 28), (28, jx_ldR 0 29), (29, jx_gR 0 14 (fun _ => 0) 32), (32, jx_ldI 1 33), (33, jx_ldI 2 34), (34, jx_vI D 40 14 3 37), (37, jx_rI)]
set_option maxRecDepth 100000 in
theorem tl_m37 (D : jx_D) : ∀ pc, jx_tl (jx_look (tb_37 D) pc) := jx_tlm <| by
  unfold tb_37
  exact jx_all1 (tl_ldR) <|
  jx_all1 (tl_ldI) <|
  jx_all1 (tl_ldI) <|
  jx_all1 (tl_vI) <|
  jx_all1 (tl_stI) <|
  jx_all1 (tl_ldI) <|
  jx_all1 (tl_eq0) <|
  jx_all1 (tl_ldR) <|
  jx_all1 (tl_ldI) <|
  jx_all1 (tl_vI) <|
  jx_all1 (tl_rI) <|
  jx_all1 (tl_ldR) <|
  jx_all1 (tl_gR) <|
  jx_all1 (tl_ldR) <|
  jx_all1 (tl_gR) <|
  jx_all1 (tl_vV) <|
  jx_all1 (tl_ldR) <|
  jx_all1 (tl_gR) <|
  jx_all1 (tl_ldI) <|
  jx_all1 (tl_ldI) <|
  jx_all1 (tl_vI) <|
  jx_all1 (tl_rI) <|
  jx_all0
def mk_37 : List (Nat × List Bool) := []
/-- RoadBench$Plan.read(LRoadBench$Net;)V -/
noncomputable def tb_38 (D : jx_D) : List (Nat × jx_A) := [(0, jx_ldR 0 1), (1, jx_ldR 1 2), (2, jx_gI 1 0 5), (5, jx_pI 14 0 8), (8, jx_ldR 0 9), (9, jx_ldR 1 10), (10, jx_gI 1 1 13), (13, jx_pI 14 1 16), (16, jx_ldR 0 17), (17, jx_ldR 1 18), (18, jx_gI 1 2 21), (21, jx_pZ 14 2 24), (24, jx_ldR 0 25), (25, jx_ldR 0 26), (26, jx_gI 14 0 29), (29, jx_cI D 17 1 32), (32, jx_pI 14 3 35), (35, jx_ldR 0 36), (36, jx_ldR 0 37), (37, jx_gI 14 1 40), (40, jx_cI D 17 1 43), (43, jx_pI 14 4 46), (46, jx_ldR 0 47), (47, jx_ldR 0 48), (48, jx_gI 14 2 51), (51, jx_eq0 61 54), (54, jx_ldR 0 55), (55, jx_gI 14 3 58), (58, jx_go 69), (61, jx_ldR 0 62), (62, jx_gI 14 3 65), (65, jx_push (vi 1) 66), (66, jx_i2 (fun x y => x + y) 67), (67, jx_push (vi 2) 68), (68, jx_dv (fun x y => x / y) 69), (69, jx_pI 14 5 72), (72, jx_ldR 0 73), (73, jx_ldR 0 74), (74, jx_gI 14 2 77), (77, jx_eq0 84 80), (80, jx_push (vi 0) 81), (81, jx_go 85), (84, jx_push (vi 1) 85), (85, jx_pI 14 6 88), (88, jx_ldR 0 89), (89, jx_ldR 1 90), (90, jx_vV D 39 14 2 93), (93, jx_push (vi 1) 94), (94, jx_stI 2 4 95), (95, jx_ldI 2 96), (96, jx_ldR 0 97), (97, jx_gI 14 3 100), (100, jx_cgt 221 103), (103, jx_ldI 2 104), (104, jx_ldI 2 105), (105, jx_i1 (fun x => -x) 106), (106, jx_i2 (fun x y => x &&& y) 107), (107, jx_stI 3 4 108), (108, jx_ldR 0 109), (109, jx_gR 14 15 (fun _ => 0) 112), (112, jx_ldI 2 113), (113, jx_ldR 0 114), (114, jx_gR 14 15 (fun _ => 0) 117), (117, jx_ldI 3 118), (118, jx_iald 119), (119, jx_ldR 0 120), (120, jx_gR 14 15 (fun _ => 0) 123), (123, jx_ldI 2 124), (124, jx_ldI 3 125), (125, jx_i2 (fun x y => x ^^^ y) 126), (126, jx_iald 127), (127, jx_i2 (fun x y => x ||| y) 128), (128, jx_iast 129), (129, jx_ldR 0 130), (130, jx_gR 14 16 (fun _ => 0) 133), (133, jx_ldI 2 134), (134, jx_ldR 0 135), (135, jx_gR 14 16 (fun _ => 0) 138), (138, jx_ldI 3 139), (139, jx_iald 140), (140, jx_ldR 0 141), (141, jx_gR 14 16 (fun _ => 0) 144), (144, jx_ldI 2 145), (145, jx_ldI 3 146), (146, jx_i2 (fun x y => x ^^^ y) 147), (147, jx_iald 148), (148, jx_i2 (fun x y => x ||| y) 149), (149, jx_iast 150), (150, jx_ldR 0 151), (151, jx_gR 14 17 (fun _ => 0) 154), (154, jx_ldI 2 155), (155, jx_ldR 0 156), (156, jx_gR 14 17 (fun _ => 0) 159), (159, jx_ldI 3 160), (160, jx_iald 161), (161, jx_ldR 0 162), (162, jx_gR 14 17 (fun _ => 0) 165), (165, jx_ldI 2 166), (166, jx_ldI 3 167), (167, jx_i2 (fun x y => x ^^^ y) 168), (168, jx_iald 169), (169, jx_i2 (fun x y => x ||| y) 170), (170, jx_iast 171), (171, jx_ldR 0 172), (172, jx_gR 14 18 (fun _ => 0) 175), (175, jx_ldI 2 176), (176, jx_ldR 0 177), (177, jx_gI 14 2 180), (180, jx_eq0 201 183), (183, jx_ldR 0 184), (184, jx_gR 14 15 (fun _ => 0) 187), (187, jx_ldI 2 188), (188, jx_iald 189), (189, jx_ldR 0 190), (190, jx_gR 14 16 (fun _ => 0) 193), (193, jx_ldI 2 194), (194, jx_iald 195), (195, jx_push (vi (-1)) 196), (196, jx_i2 (fun x y => x ^^^ y) 197), (197, jx_i2 (fun x y => x &&& y) 198), (198, jx_go 214), (201, jx_ldR 0 202), (202, jx_gR 14 15 (fun _ => 0) 205), (205, jx_ldI 2 206), (206, jx_iald 207), (207, jx_ldR 0 208), (208, jx_gR 14 16 (fun _ => 0) 211), (211, jx_ldI 2 212), (212, jx_iald 213), (213, jx_i2 (fun x y => x ^^^ y) 214), (214, jx_iast 215), (215, jx_incI 2 4 1 218), (218, jx_go 95), (221, jx_rV)]
set_option maxRecDepth 100000 in
theorem tl_m38 (D : jx_D) : ∀ pc, jx_tl (jx_look (tb_38 D) pc) := jx_tlm <| by
  unfold tb_38
  exact jx_all1 (tl_ldR) <|
  jx_all1 (tl_ldR) <|
  jx_all1 (tl_gI) <|
  jx_all1 (tl_pI) <|
  jx_all1 (tl_ldR) <|
  jx_all1 (tl_ldR) <|
  jx_all1 (tl_gI) <|
  jx_all1 (tl_pI) <|
  jx_all1 (tl_ldR) <|
  jx_all1 (tl_ldR) <|
  jx_all1 (tl_gI) <|
  jx_all1 (tl_pZ) <|
  jx_all1 (tl_ldR) <|
  jx_all1 (tl_ldR) <|
  jx_all1 (tl_gI) <|
  jx_all1 (tl_cI) <|
  jx_all1 (tl_pI) <|
  jx_all1 (tl_ldR) <|
  jx_all1 (tl_ldR) <|
  jx_all1 (tl_gI) <|
  jx_all1 (tl_cI) <|
  jx_all1 (tl_pI) <|
  jx_all1 (tl_ldR) <|
  jx_all1 (tl_ldR) <|
  jx_all1 (tl_gI) <|
  jx_all1 (tl_eq0) <|
  jx_all1 (tl_ldR) <|
  jx_all1 (tl_gI) <|
  jx_all1 (tl_go) <|
  jx_all1 (tl_ldR) <|
  jx_all1 (tl_gI) <|
  jx_all1 (tl_push) <|
  jx_all1 (tl_i2) <|
  jx_all1 (tl_push) <|
  jx_all1 (tl_dv) <|
  jx_all1 (tl_pI) <|
  jx_all1 (tl_ldR) <|
  jx_all1 (tl_ldR) <|
  jx_all1 (tl_gI) <|
  jx_all1 (tl_eq0) <|
  jx_all1 (tl_push) <|
  jx_all1 (tl_go) <|
  jx_all1 (tl_push) <|
  jx_all1 (tl_pI) <|
  jx_all1 (tl_ldR) <|
  jx_all1 (tl_ldR) <|
  jx_all1 (tl_vV) <|
  jx_all1 (tl_push) <|
  jx_all1 (tl_stI) <|
  jx_all1 (tl_ldI) <|
  jx_all1 (tl_ldR) <|
  jx_all1 (tl_gI) <|
  jx_all1 (tl_cgt) <|
  jx_all1 (tl_ldI) <|
  jx_all1 (tl_ldI) <|
  jx_all1 (tl_i1) <|
  jx_all1 (tl_i2) <|
  jx_all1 (tl_stI) <|
  jx_all1 (tl_ldR) <|
  jx_all1 (tl_gR) <|
  jx_all1 (tl_ldI) <|
  jx_all1 (tl_ldR) <|
  jx_all1 (tl_gR) <|
  jx_all1 (tl_ldI) <|
  jx_all1 (tl_iald) <|
  jx_all1 (tl_ldR) <|
  jx_all1 (tl_gR) <|
  jx_all1 (tl_ldI) <|
  jx_all1 (tl_ldI) <|
  jx_all1 (tl_i2) <|
  jx_all1 (tl_iald) <|
  jx_all1 (tl_i2) <|
  jx_all1 (tl_iast) <|
  jx_all1 (tl_ldR) <|
  jx_all1 (tl_gR) <|
  jx_all1 (tl_ldI) <|
  jx_all1 (tl_ldR) <|
  jx_all1 (tl_gR) <|
  jx_all1 (tl_ldI) <|
  jx_all1 (tl_iald) <|
  jx_all1 (tl_ldR) <|
  jx_all1 (tl_gR) <|
  jx_all1 (tl_ldI) <|
  jx_all1 (tl_ldI) <|
  jx_all1 (tl_i2) <|
  jx_all1 (tl_iald) <|
  jx_all1 (tl_i2) <|
  jx_all1 (tl_iast) <|
  jx_all1 (tl_ldR) <|
  jx_all1 (tl_gR) <|
  jx_all1 (tl_ldI) <|
  jx_all1 (tl_ldR) <|
  jx_all1 (tl_gR) <|
  jx_all1 (tl_ldI) <|
  jx_all1 (tl_iald) <|
  jx_all1 (tl_ldR) <|
  jx_all1 (tl_gR) <|
  jx_all1 (tl_ldI) <|
  jx_all1 (tl_ldI) <|
  jx_all1 (tl_i2) <|
  jx_all1 (tl_iald) <|
  jx_all1 (tl_i2) <|
  jx_all1 (tl_iast) <|
  jx_all1 (tl_ldR) <|
  jx_all1 (tl_gR) <|
  jx_all1 (tl_ldI) <|
  jx_all1 (tl_ldR) <|
  jx_all1 (tl_gI) <|
  jx_all1 (tl_eq0) <|
  jx_all1 (tl_ldR) <|
  jx_all1 (tl_gR) <|
  jx_all1 (tl_ldI) <|
  jx_all1 (tl_iald) <|
  jx_all1 (tl_ldR) <|
  jx_all1 (tl_gR) <|
  jx_all1 (tl_ldI) <|
  jx_all1 (tl_iald) <|
  jx_all1 (tl_push) <|
  jx_all1 (tl_i2) <|
  jx_all1 (tl_i2) <|
  jx_all1 (tl_go) <|
  jx_all1 (tl_ldR) <|
  jx_all1 (tl_gR) <|
  jx_all1 (tl_ldI) <|
  jx_all1 (tl_iald) <|
  jx_all1 (tl_ldR) <|
  jx_all1 (tl_gR) <|
  jx_all1 (tl_ldI) <|
  jx_all1 (tl_iald) <|
  jx_all1 (tl_i2) <|
  jx_all1 (tl_iast) <|
  jx_all1 (tl_incI) <|
  jx_all1 (tl_go) <|
  jx_all1 (tl_rV) <|
  jx_all0
def mk_38 : List (Nat × List Bool) := [(8, [true, true, false, false]), (16, [true, true, false, false]), (24, [true, true, false, false]), (35, [true, true, false, false]), (46, [true, true, false, false]), (69, [true, true, false, false]), (72, [true, true, false, false]), (85, [true, true, false, false]), (88, [true, true, false, false]), (95, [true, false, true, false]), (108, [true, false, true, true]), (129, [true, false, true, true]), (150, [true, false, true, true]), (171, [true, false, true, false]), (214, [true, false, true, false]), (215, [true, false, true, false])]
/-- RoadBench$Plan.readPosts(LRoadBench$Net;)V -/
noncomputable def tb_39 (D : jx_D) : List (Nat × jx_A) := [(0, jx_push (vi 0) 1), (1, jx_stI 2 5 2), (2, jx_ldI 2 3), (3, jx_ldR 0 4), (4, jx_gI 14 0 7), (7, jx_cge 43 10), (10, jx_ldR 0 11), (11, jx_gR 14 15 (fun _ => 0) 14), (14, jx_push (vi 1) 15), (15, jx_ldI 2 16), (16, jx_i2 (fun x y => x <<< (y &&& 31)) 17), (17, jx_push (vi 0) 18), (18, jx_iast 19), (19, jx_ldR 0 20), (20, jx_gR 14 16 (fun _ => 0) 23), (23, jx_push (vi 1) 24), (24, jx_ldI 2 25), (25, jx_i2 (fun x y => x <<< (y &&& 31)) 26), (26, jx_push (vi 0) 27), (27, jx_iast 28), (28, jx_ldR 0 29), (29, jx_gR 14 17 (fun _ => 0) 32), (32, jx_push (vi 1) 33), (33, jx_ldI 2 34), (34, jx_i2 (fun x y => x <<< (y &&& 31)) 35), (35, jx_push (vi 0) 36), (36, jx_iast 37), (37, jx_incI 2 5 1 40), (40, jx_go 2), (43, jx_push (vi 0) 44), (44, jx_stI 2 5 45), (45, jx_ldI 2 46), (46, jx_ldR 0 47), (47, jx_gI 14 1 50), (50, jx_cge 132 53), (53, jx_push (vi 1) 54), (54, jx_ldR 1 55), (55, jx_gR 1 2 (fun i => i) 58), (58, jx_ldI 2 59), (59, jx_iald 60), (60, jx_i2 (fun x y => x <<< (y &&& 31)) 61), (61, jx_stI 3 5 62), (62, jx_push (vi 1) 63), (63, jx_ldR 1 64), (64, jx_gR 1 3 (fun i => i) 67), (67, jx_ldI 2 68), (68, jx_iald 69), (69, jx_i2 (fun x y => x <<< (y &&& 31)) 70), (70, jx_stI 4 5 72), (72, jx_ldR 0 73), (73, jx_gR 14 15 (fun _ => 0) 76), (76, jx_ldI 3 77), (77, jx_dup2 78), (78, jx_iald 79), (79, jx_push (vi 1) 80), (80, jx_ldI 2 81), (81, jx_i2 (fun x y => x <<< (y &&& 31)) 82), (82, jx_i2 (fun x y => x ||| y) 83), (83, jx_iast 84), (84, jx_ldR 0 85), (85, jx_gR 14 16 (fun _ => 0) 88), (88, jx_ldI 4 90), (90, jx_dup2 91), (91, jx_iald 92), (92, jx_push (vi 1) 93), (93, jx_ldI 2 94), (94, jx_i2 (fun x y => x <<< (y &&& 31)) 95), (95, jx_i2 (fun x y => x ||| y) 96), (96, jx_iast 97), (97, jx_ldR 0 98), (98, jx_gR 14 17 (fun _ => 0) 101), (101, jx_ldI 3 102), (102, jx_dup2 103), (103, jx_iald 104), (104, jx_ldI 4 106), (106, jx_i2 (fun x y => x ||| y) 107), (107, jx_iast 108), (108, jx_ldR 0 109), (109, jx_gI 14 2 112), (112, jx_ne0 126 115), (115, jx_ldR 0 116), (116, jx_gR 14 17 (fun _ => 0) 119), (119, jx_ldI 4 121), (121, jx_dup2 122), (122, jx_iald 123), (123, jx_ldI 3 124), (124, jx_i2 (fun x y => x ||| y) 125), (125, jx_iast 126), (126, jx_incI 2 5 1 129), (129, jx_go 45), (132, jx_rV)]
set_option maxRecDepth 100000 in
theorem tl_m39 (D : jx_D) : ∀ pc, jx_tl (jx_look (tb_39 D) pc) := jx_tlm <| by
  unfold tb_39
  exact jx_all1 (tl_push) <|
  jx_all1 (tl_stI) <|
  jx_all1 (tl_ldI) <|
  jx_all1 (tl_ldR) <|
  jx_all1 (tl_gI) <|
  jx_all1 (tl_cge) <|
  jx_all1 (tl_ldR) <|
  jx_all1 (tl_gR) <|
  jx_all1 (tl_push) <|
  jx_all1 (tl_ldI) <|
  jx_all1 (tl_i2) <|
  jx_all1 (tl_push) <|
  jx_all1 (tl_iast) <|
  jx_all1 (tl_ldR) <|
  jx_all1 (tl_gR) <|
  jx_all1 (tl_push) <|
  jx_all1 (tl_ldI) <|
  jx_all1 (tl_i2) <|
  jx_all1 (tl_push) <|
  jx_all1 (tl_iast) <|
  jx_all1 (tl_ldR) <|
  jx_all1 (tl_gR) <|
  jx_all1 (tl_push) <|
  jx_all1 (tl_ldI) <|
  jx_all1 (tl_i2) <|
  jx_all1 (tl_push) <|
  jx_all1 (tl_iast) <|
  jx_all1 (tl_incI) <|
  jx_all1 (tl_go) <|
  jx_all1 (tl_push) <|
  jx_all1 (tl_stI) <|
  jx_all1 (tl_ldI) <|
  jx_all1 (tl_ldR) <|
  jx_all1 (tl_gI) <|
  jx_all1 (tl_cge) <|
  jx_all1 (tl_push) <|
  jx_all1 (tl_ldR) <|
  jx_all1 (tl_gR) <|
  jx_all1 (tl_ldI) <|
  jx_all1 (tl_iald) <|
  jx_all1 (tl_i2) <|
  jx_all1 (tl_stI) <|
  jx_all1 (tl_push) <|
  jx_all1 (tl_ldR) <|
  jx_all1 (tl_gR) <|
  jx_all1 (tl_ldI) <|
  jx_all1 (tl_iald) <|
  jx_all1 (tl_i2) <|
  jx_all1 (tl_stI) <|
  jx_all1 (tl_ldR) <|
  jx_all1 (tl_gR) <|
  jx_all1 (tl_ldI) <|
  jx_all1 (tl_dup2) <|
  jx_all1 (tl_iald) <|
  jx_all1 (tl_push) <|
  jx_all1 (tl_ldI) <|
  jx_all1 (tl_i2) <|
  jx_all1 (tl_i2) <|
  jx_all1 (tl_iast) <|
  jx_all1 (tl_ldR) <|
  jx_all1 (tl_gR) <|
  jx_all1 (tl_ldI) <|
  jx_all1 (tl_dup2) <|
  jx_all1 (tl_iald) <|
  jx_all1 (tl_push) <|
  jx_all1 (tl_ldI) <|
  jx_all1 (tl_i2) <|
  jx_all1 (tl_i2) <|
  jx_all1 (tl_iast) <|
  jx_all1 (tl_ldR) <|
  jx_all1 (tl_gR) <|
  jx_all1 (tl_ldI) <|
  jx_all1 (tl_dup2) <|
  jx_all1 (tl_iald) <|
  jx_all1 (tl_ldI) <|
  jx_all1 (tl_i2) <|
  jx_all1 (tl_iast) <|
  jx_all1 (tl_ldR) <|
  jx_all1 (tl_gI) <|
  jx_all1 (tl_ne0) <|
  jx_all1 (tl_ldR) <|
  jx_all1 (tl_gR) <|
  jx_all1 (tl_ldI) <|
  jx_all1 (tl_dup2) <|
  jx_all1 (tl_iald) <|
  jx_all1 (tl_ldI) <|
  jx_all1 (tl_i2) <|
  jx_all1 (tl_iast) <|
  jx_all1 (tl_incI) <|
  jx_all1 (tl_go) <|
  jx_all1 (tl_rV) <|
  jx_all0
def mk_39 : List (Nat × List Bool) := [(2, [true, true, true, false, false]), (19, [true, true, true, false, false]), (28, [true, true, true, false, false]), (37, [true, true, true, false, false]), (45, [true, true, true, false, false]), (62, [true, true, true, true, false]), (72, [true, true, true, true, true]), (84, [true, true, true, true, true]), (97, [true, true, true, true, true]), (108, [true, true, true, true, true]), (126, [true, true, true, false, false])]
/-- RoadBench$Plan.holdOf(II)I -/
noncomputable def tb_40 (D : jx_D) : List (Nat × jx_A) := [(0, jx_ldR 0 1), (1, jx_gI 14 1 4), (4, jx_stI 3 5 5), (5, jx_push (vi 1) 6), (6, jx_stI 4 5 8), (8, jx_ldI 4 10), (10, jx_ldR 0 11), (11, jx_gI 14 3 14), (14, jx_cge 56 17), (17, jx_ldI 4 19), (19, jx_ldI 1 20), (20, jx_cI D 19 2 23), (23, jx_eq0 50 26), (26, jx_ldI 4 28), (28, jx_ldI 2 29), (29, jx_cI D 19 2 32), (32, jx_ne0 50 35), (35, jx_ldI 3 36), (36, jx_ldR 0 37), (37, jx_gR 14 18 (fun _ => 0) 40), (40, jx_ldI 4 42), (42, jx_iald 43), (43, jx_cI D 1 1 46), (46, jx_m2 jx_mn 49), (49, jx_stI 3 5 50), (50, jx_incI 4 5 1 53), (53, jx_go 8), (56, jx_ldI 3 57), (57, jx_rI)]
set_option maxRecDepth 100000 in
theorem tl_m40 (D : jx_D) : ∀ pc, jx_tl (jx_look (tb_40 D) pc) := jx_tlm <| by
  unfold tb_40
  exact jx_all1 (tl_ldR) <|
  jx_all1 (tl_gI) <|
  jx_all1 (tl_stI) <|
  jx_all1 (tl_push) <|
  jx_all1 (tl_stI) <|
  jx_all1 (tl_ldI) <|
  jx_all1 (tl_ldR) <|
  jx_all1 (tl_gI) <|
  jx_all1 (tl_cge) <|
  jx_all1 (tl_ldI) <|
  jx_all1 (tl_ldI) <|
  jx_all1 (tl_cI) <|
  jx_all1 (tl_eq0) <|
  jx_all1 (tl_ldI) <|
  jx_all1 (tl_ldI) <|
  jx_all1 (tl_cI) <|
  jx_all1 (tl_ne0) <|
  jx_all1 (tl_ldI) <|
  jx_all1 (tl_ldR) <|
  jx_all1 (tl_gR) <|
  jx_all1 (tl_ldI) <|
  jx_all1 (tl_iald) <|
  jx_all1 (tl_cI) <|
  jx_all1 (tl_m2) <|
  jx_all1 (tl_stI) <|
  jx_all1 (tl_incI) <|
  jx_all1 (tl_go) <|
  jx_all1 (tl_ldI) <|
  jx_all1 (tl_rI) <|
  jx_all0
def mk_40 : List (Nat × List Bool) := [(8, [true, true, true, true, true]), (50, [true, true, true, true, true])]
/-- RoadBench.cut(II)I -/
noncomputable def tb_41 (D : jx_D) : List (Nat × jx_A) := [(0, jx_ldR 0 1), (1, jx_ldI 1 2), (2, jx_ldI 2 3), (3, jx_vI D 11 0 3 6), (6, jx_stI 3 4 7), (7, jx_ldI 3 8), (8, jx_eq0 17 11), (11, jx_ldR 0 12), (12, jx_ldI 3 13), (13, jx_vI D 8 0 2 16), (16, jx_rI), (17, jx_ldR 0 18), (18, jx_gR 0 14 (fun _ => 0) 21), (21, jx_ldR 0 22), (22, jx_gR 0 1 (fun _ => 0) 25), (25, jx_vV D 38 14 2 28), (28, jx_ldR 0 29), (29, jx_gR 0 14 (fun _ => 0) 32), (32, jx_ldI 1 33), (33, jx_ldI 2 34), (34, jx_vI D 42 14 3 37), (37, jx_rI)]
set_option maxRecDepth 100000 in
theorem tl_m41 (D : jx_D) : ∀ pc, jx_tl (jx_look (tb_41 D) pc) := jx_tlm <| by
  unfold tb_41
  exact jx_all1 (tl_ldR) <|
  jx_all1 (tl_ldI) <|
  jx_all1 (tl_ldI) <|
  jx_all1 (tl_vI) <|
  jx_all1 (tl_stI) <|
  jx_all1 (tl_ldI) <|
  jx_all1 (tl_eq0) <|
  jx_all1 (tl_ldR) <|
  jx_all1 (tl_ldI) <|
  jx_all1 (tl_vI) <|
  jx_all1 (tl_rI) <|
  jx_all1 (tl_ldR) <|
  jx_all1 (tl_gR) <|
  jx_all1 (tl_ldR) <|
  jx_all1 (tl_gR) <|
  jx_all1 (tl_vV) <|
  jx_all1 (tl_ldR) <|
  jx_all1 (tl_gR) <|
  jx_all1 (tl_ldI) <|
  jx_all1 (tl_ldI) <|
  jx_all1 (tl_vI) <|
  jx_all1 (tl_rI) <|
  jx_all0
def mk_41 : List (Nat × List Bool) := []
/-- RoadBench$Plan.smallestSide(II)I -/
noncomputable def tb_42 (D : jx_D) : List (Nat × jx_A) := [(0, jx_ldR 0 1), (1, jx_ldI 1 2), (2, jx_ldI 2 3), (3, jx_vI D 40 14 3 6), (6, jx_stI 3 6 7), (7, jx_ldR 0 8), (8, jx_gI 14 3 11), (11, jx_stI 4 6 13), (13, jx_push (vi 1) 14), (14, jx_stI 5 6 16), (16, jx_ldI 5 18), (18, jx_ldR 0 19), (19, jx_gI 14 3 22), (22, jx_cge 70 25), (25, jx_ldI 5 27), (27, jx_ldI 1 28), (28, jx_cI D 19 2 31), (31, jx_eq0 64 34), (34, jx_ldI 5 36), (36, jx_ldI 2 37), (37, jx_cI D 19 2 40), (40, jx_ne0 64 43), (43, jx_ldR 0 44), (44, jx_gR 14 18 (fun _ => 0) 47), (47, jx_ldI 5 49), (49, jx_iald 50), (50, jx_cI D 1 1 53), (53, jx_ldI 3 54), (54, jx_cne 64 57), (57, jx_ldI 4 59), (59, jx_ldI 5 61), (61, jx_i2 (fun x y => x &&& y) 62), (62, jx_stI 4 6 64), (64, jx_incI 5 6 1 67), (67, jx_go 16), (70, jx_ldI 4 72), (72, jx_rI)]
set_option maxRecDepth 100000 in
theorem tl_m42 (D : jx_D) : ∀ pc, jx_tl (jx_look (tb_42 D) pc) := jx_tlm <| by
  unfold tb_42
  exact jx_all1 (tl_ldR) <|
  jx_all1 (tl_ldI) <|
  jx_all1 (tl_ldI) <|
  jx_all1 (tl_vI) <|
  jx_all1 (tl_stI) <|
  jx_all1 (tl_ldR) <|
  jx_all1 (tl_gI) <|
  jx_all1 (tl_stI) <|
  jx_all1 (tl_push) <|
  jx_all1 (tl_stI) <|
  jx_all1 (tl_ldI) <|
  jx_all1 (tl_ldR) <|
  jx_all1 (tl_gI) <|
  jx_all1 (tl_cge) <|
  jx_all1 (tl_ldI) <|
  jx_all1 (tl_ldI) <|
  jx_all1 (tl_cI) <|
  jx_all1 (tl_eq0) <|
  jx_all1 (tl_ldI) <|
  jx_all1 (tl_ldI) <|
  jx_all1 (tl_cI) <|
  jx_all1 (tl_ne0) <|
  jx_all1 (tl_ldR) <|
  jx_all1 (tl_gR) <|
  jx_all1 (tl_ldI) <|
  jx_all1 (tl_iald) <|
  jx_all1 (tl_cI) <|
  jx_all1 (tl_ldI) <|
  jx_all1 (tl_cne) <|
  jx_all1 (tl_ldI) <|
  jx_all1 (tl_ldI) <|
  jx_all1 (tl_i2) <|
  jx_all1 (tl_stI) <|
  jx_all1 (tl_incI) <|
  jx_all1 (tl_go) <|
  jx_all1 (tl_ldI) <|
  jx_all1 (tl_rI) <|
  jx_all0
def mk_42 : List (Nat × List Bool) := [(16, [true, true, true, true, true, true]), (64, [true, true, true, true, true, true])]
/-- RoadBench.netHold()I -/
noncomputable def tb_43 (D : jx_D) : List (Nat × jx_A) := [(0, jx_ldR 0 1), (1, jx_gR 0 14 (fun _ => 0) 4), (4, jx_ldR 0 5), (5, jx_gR 0 1 (fun _ => 0) 8), (8, jx_vV D 38 14 2 11), (11, jx_ldR 0 12), (12, jx_gR 0 14 (fun _ => 0) 15), (15, jx_ldR 0 16), (16, jx_gR 0 14 (fun _ => 0) 19), (19, jx_gI 14 4 22), (22, jx_vI D 44 14 2 25), (25, jx_rI)]
set_option maxRecDepth 100000 in
theorem tl_m43 (D : jx_D) : ∀ pc, jx_tl (jx_look (tb_43 D) pc) := jx_tlm <| by
  unfold tb_43
  exact jx_all1 (tl_ldR) <|
  jx_all1 (tl_gR) <|
  jx_all1 (tl_ldR) <|
  jx_all1 (tl_gR) <|
  jx_all1 (tl_vV) <|
  jx_all1 (tl_ldR) <|
  jx_all1 (tl_gR) <|
  jx_all1 (tl_ldR) <|
  jx_all1 (tl_gR) <|
  jx_all1 (tl_gI) <|
  jx_all1 (tl_vI) <|
  jx_all1 (tl_rI) <|
  jx_all0
def mk_43 : List (Nat × List Bool) := []
/-- RoadBench$Plan.holdOfRoads(I)I -/
noncomputable def tb_44 (D : jx_D) : List (Nat × jx_A) := [(0, jx_ldR 0 1), (1, jx_gI 14 0 4), (4, jx_push (vi 2) 5), (5, jx_cge 10 8), (8, jx_push (vi 0) 9), (9, jx_rI), (10, jx_ldR 0 11), (11, jx_gI 14 1 14), (14, jx_stI 2 4 15), (15, jx_push (vi 1) 16), (16, jx_stI 3 4 17), (17, jx_ldI 3 18), (18, jx_ldR 0 19), (19, jx_gI 14 5 22), (22, jx_cge 52 25), (25, jx_ldI 2 26), (26, jx_ldR 0 27), (27, jx_gR 14 18 (fun _ => 0) 30), (30, jx_ldI 3 31), (31, jx_ldR 0 32), (32, jx_gI 14 6 35), (35, jx_i2 (fun x y => x <<< (y &&& 31)) 36), (36, jx_iald 37), (37, jx_ldI 1 38), (38, jx_i2 (fun x y => x &&& y) 39), (39, jx_cI D 1 1 42), (42, jx_m2 jx_mn 45), (45, jx_stI 2 4 46), (46, jx_incI 3 4 1 49), (49, jx_go 17), (52, jx_ldI 2 53), (53, jx_rI)]
set_option maxRecDepth 100000 in
theorem tl_m44 (D : jx_D) : ∀ pc, jx_tl (jx_look (tb_44 D) pc) := jx_tlm <| by
  unfold tb_44
  exact jx_all1 (tl_ldR) <|
  jx_all1 (tl_gI) <|
  jx_all1 (tl_push) <|
  jx_all1 (tl_cge) <|
  jx_all1 (tl_push) <|
  jx_all1 (tl_rI) <|
  jx_all1 (tl_ldR) <|
  jx_all1 (tl_gI) <|
  jx_all1 (tl_stI) <|
  jx_all1 (tl_push) <|
  jx_all1 (tl_stI) <|
  jx_all1 (tl_ldI) <|
  jx_all1 (tl_ldR) <|
  jx_all1 (tl_gI) <|
  jx_all1 (tl_cge) <|
  jx_all1 (tl_ldI) <|
  jx_all1 (tl_ldR) <|
  jx_all1 (tl_gR) <|
  jx_all1 (tl_ldI) <|
  jx_all1 (tl_ldR) <|
  jx_all1 (tl_gI) <|
  jx_all1 (tl_i2) <|
  jx_all1 (tl_iald) <|
  jx_all1 (tl_ldI) <|
  jx_all1 (tl_i2) <|
  jx_all1 (tl_cI) <|
  jx_all1 (tl_m2) <|
  jx_all1 (tl_stI) <|
  jx_all1 (tl_incI) <|
  jx_all1 (tl_go) <|
  jx_all1 (tl_ldI) <|
  jx_all1 (tl_rI) <|
  jx_all0
def mk_44 : List (Nat × List Bool) := [(17, [true, true, true, true]), (46, [true, true, true, true])]
/-- RoadBench.least(I)I -/
noncomputable def tb_45 (D : jx_D) : List (Nat × jx_A) := [(0, jx_ldR 0 1), (1, jx_gR 0 14 (fun _ => 0) 4), (4, jx_ldR 0 5), (5, jx_gR 0 1 (fun _ => 0) 8), (8, jx_vV D 38 14 2 11), (11, jx_ldR 0 12), (12, jx_gR 0 14 (fun _ => 0) 15), (15, jx_ldR 0 16), (16, jx_gR 0 14 (fun _ => 0) 19), (19, jx_gI 14 4 22), (22, jx_vI D 44 14 2 25), (25, jx_stI 2 4 26), (26, jx_ldI 1 27), (27, jx_push (vi (-1)) 28), (28, jx_cne 40 31), (31, jx_ldR 0 32), (32, jx_gR 0 14 (fun _ => 0) 35), (35, jx_ldI 2 36), (36, jx_vI D 46 14 2 39), (39, jx_rI), (40, jx_ldR 0 41), (41, jx_gR 0 14 (fun _ => 0) 44), (44, jx_ldI 2 45), (45, jx_ldI 1 46), (46, jx_vI D 47 14 3 49), (49, jx_stI 3 4 50), (50, jx_ldI 3 51), (51, jx_ne0 63 54), (54, jx_ldR 0 55), (55, jx_push (vi (-6)) 57), (57, jx_vI D 8 0 2 60), (60, jx_go 64), (63, jx_ldI 3 64), (64, jx_rI)]
set_option maxRecDepth 100000 in
theorem tl_m45 (D : jx_D) : ∀ pc, jx_tl (jx_look (tb_45 D) pc) := jx_tlm <| by
  unfold tb_45
  exact jx_all1 (tl_ldR) <|
  jx_all1 (tl_gR) <|
  jx_all1 (tl_ldR) <|
  jx_all1 (tl_gR) <|
  jx_all1 (tl_vV) <|
  jx_all1 (tl_ldR) <|
  jx_all1 (tl_gR) <|
  jx_all1 (tl_ldR) <|
  jx_all1 (tl_gR) <|
  jx_all1 (tl_gI) <|
  jx_all1 (tl_vI) <|
  jx_all1 (tl_stI) <|
  jx_all1 (tl_ldI) <|
  jx_all1 (tl_push) <|
  jx_all1 (tl_cne) <|
  jx_all1 (tl_ldR) <|
  jx_all1 (tl_gR) <|
  jx_all1 (tl_ldI) <|
  jx_all1 (tl_vI) <|
  jx_all1 (tl_rI) <|
  jx_all1 (tl_ldR) <|
  jx_all1 (tl_gR) <|
  jx_all1 (tl_ldI) <|
  jx_all1 (tl_ldI) <|
  jx_all1 (tl_vI) <|
  jx_all1 (tl_stI) <|
  jx_all1 (tl_ldI) <|
  jx_all1 (tl_ne0) <|
  jx_all1 (tl_ldR) <|
  jx_all1 (tl_push) <|
  jx_all1 (tl_vI) <|
  jx_all1 (tl_go) <|
  jx_all1 (tl_ldI) <|
  jx_all1 (tl_rI) <|
  jx_all0
def mk_45 : List (Nat × List Bool) := [(64, [false, false, false, false])]
/-- RoadBench$Plan.howManyOfCut(I)I -/
noncomputable def tb_46 (D : jx_D) : List (Nat × jx_A) := [(0, jx_push (vi 0) 1), (1, jx_stI 2 4 2), (2, jx_push (vi 1) 3), (3, jx_stI 3 4 4), (4, jx_ldI 3 5), (5, jx_ldR 0 6), (6, jx_gI 14 5 9), (9, jx_cge 39 12), (12, jx_ldR 0 13), (13, jx_gR 14 18 (fun _ => 0) 16), (16, jx_ldI 3 17), (17, jx_ldR 0 18), (18, jx_gI 14 6 21), (21, jx_i2 (fun x y => x <<< (y &&& 31)) 22), (22, jx_iald 23), (23, jx_cI D 1 1 26), (26, jx_ldI 1 27), (27, jx_cne 33 30), (30, jx_incI 2 4 1 33), (33, jx_incI 3 4 1 36), (36, jx_go 4), (39, jx_ldI 2 40), (40, jx_rI)]
set_option maxRecDepth 100000 in
theorem tl_m46 (D : jx_D) : ∀ pc, jx_tl (jx_look (tb_46 D) pc) := jx_tlm <| by
  unfold tb_46
  exact jx_all1 (tl_push) <|
  jx_all1 (tl_stI) <|
  jx_all1 (tl_push) <|
  jx_all1 (tl_stI) <|
  jx_all1 (tl_ldI) <|
  jx_all1 (tl_ldR) <|
  jx_all1 (tl_gI) <|
  jx_all1 (tl_cge) <|
  jx_all1 (tl_ldR) <|
  jx_all1 (tl_gR) <|
  jx_all1 (tl_ldI) <|
  jx_all1 (tl_ldR) <|
  jx_all1 (tl_gI) <|
  jx_all1 (tl_i2) <|
  jx_all1 (tl_iald) <|
  jx_all1 (tl_cI) <|
  jx_all1 (tl_ldI) <|
  jx_all1 (tl_cne) <|
  jx_all1 (tl_incI) <|
  jx_all1 (tl_incI) <|
  jx_all1 (tl_go) <|
  jx_all1 (tl_ldI) <|
  jx_all1 (tl_rI) <|
  jx_all0
def mk_46 : List (Nat × List Bool) := [(4, [true, true, true, true]), (33, [true, true, true, true])]
/-- RoadBench$Plan.setOfCut(II)I -/
noncomputable def tb_47 (D : jx_D) : List (Nat × jx_A) := [(0, jx_push (vi 0) 1), (1, jx_stI 3 6 2), (2, jx_push (vi 1) 3), (3, jx_stI 4 6 5), (5, jx_ldI 4 7), (7, jx_ldR 0 8), (8, jx_gI 14 5 11), (11, jx_cge 54 14), (14, jx_ldI 4 16), (16, jx_ldR 0 17), (17, jx_gI 14 6 20), (20, jx_i2 (fun x y => x <<< (y &&& 31)) 21), (21, jx_stI 5 6 23), (23, jx_ldR 0 24), (24, jx_gR 14 18 (fun _ => 0) 27), (27, jx_ldI 5 29), (29, jx_iald 30), (30, jx_cI D 1 1 33), (33, jx_ldI 1 34), (34, jx_cne 48 37), (37, jx_ldI 3 38), (38, jx_ldI 2 39), (39, jx_cne 45 42), (42, jx_ldI 5 44), (44, jx_rI), (45, jx_incI 3 6 1 48), (48, jx_incI 4 6 1 51), (51, jx_go 5), (54, jx_push (vi 0) 55), (55, jx_rI)]
set_option maxRecDepth 100000 in
theorem tl_m47 (D : jx_D) : ∀ pc, jx_tl (jx_look (tb_47 D) pc) := jx_tlm <| by
  unfold tb_47
  exact jx_all1 (tl_push) <|
  jx_all1 (tl_stI) <|
  jx_all1 (tl_push) <|
  jx_all1 (tl_stI) <|
  jx_all1 (tl_ldI) <|
  jx_all1 (tl_ldR) <|
  jx_all1 (tl_gI) <|
  jx_all1 (tl_cge) <|
  jx_all1 (tl_ldI) <|
  jx_all1 (tl_ldR) <|
  jx_all1 (tl_gI) <|
  jx_all1 (tl_i2) <|
  jx_all1 (tl_stI) <|
  jx_all1 (tl_ldR) <|
  jx_all1 (tl_gR) <|
  jx_all1 (tl_ldI) <|
  jx_all1 (tl_iald) <|
  jx_all1 (tl_cI) <|
  jx_all1 (tl_ldI) <|
  jx_all1 (tl_cne) <|
  jx_all1 (tl_ldI) <|
  jx_all1 (tl_ldI) <|
  jx_all1 (tl_cne) <|
  jx_all1 (tl_ldI) <|
  jx_all1 (tl_rI) <|
  jx_all1 (tl_incI) <|
  jx_all1 (tl_incI) <|
  jx_all1 (tl_go) <|
  jx_all1 (tl_push) <|
  jx_all1 (tl_rI) <|
  jx_all0
def mk_47 : List (Nat × List Bool) := [(5, [true, true, true, true, true, false]), (23, [true, true, true, true, true, true]), (48, [true, true, true, true, true, false])]
/-- RoadBench.apart(II)I -/
noncomputable def tb_48 (D : jx_D) : List (Nat × jx_A) := [(0, jx_ldR 0 1), (1, jx_ldI 1 2), (2, jx_ldI 2 3), (3, jx_vI D 11 0 3 6), (6, jx_stI 3 4 7), (7, jx_ldI 3 8), (8, jx_eq0 17 11), (11, jx_ldR 0 12), (12, jx_ldI 3 13), (13, jx_vI D 8 0 2 16), (16, jx_rI), (17, jx_ldR 0 18), (18, jx_gR 0 14 (fun _ => 0) 21), (21, jx_ldR 0 22), (22, jx_gR 0 1 (fun _ => 0) 25), (25, jx_vV D 38 14 2 28), (28, jx_ldR 0 29), (29, jx_gR 0 14 (fun _ => 0) 32), (32, jx_ldI 1 33), (33, jx_ldI 2 34), (34, jx_vI D 49 14 3 37), (37, jx_rI)]
set_option maxRecDepth 100000 in
theorem tl_m48 (D : jx_D) : ∀ pc, jx_tl (jx_look (tb_48 D) pc) := jx_tlm <| by
  unfold tb_48
  exact jx_all1 (tl_ldR) <|
  jx_all1 (tl_ldI) <|
  jx_all1 (tl_ldI) <|
  jx_all1 (tl_vI) <|
  jx_all1 (tl_stI) <|
  jx_all1 (tl_ldI) <|
  jx_all1 (tl_eq0) <|
  jx_all1 (tl_ldR) <|
  jx_all1 (tl_ldI) <|
  jx_all1 (tl_vI) <|
  jx_all1 (tl_rI) <|
  jx_all1 (tl_ldR) <|
  jx_all1 (tl_gR) <|
  jx_all1 (tl_ldR) <|
  jx_all1 (tl_gR) <|
  jx_all1 (tl_vV) <|
  jx_all1 (tl_ldR) <|
  jx_all1 (tl_gR) <|
  jx_all1 (tl_ldI) <|
  jx_all1 (tl_ldI) <|
  jx_all1 (tl_vI) <|
  jx_all1 (tl_rI) <|
  jx_all0
def mk_48 : List (Nat × List Bool) := []
/-- RoadBench$Plan.waysApart(II)I -/
noncomputable def tb_49 (D : jx_D) : List (Nat × jx_A) := [(0, jx_push (vi 1) 1), (1, jx_ldI 1 2), (2, jx_i2 (fun x y => x <<< (y &&& 31)) 3), (3, jx_stI 3 8 4), (4, jx_push (vi 1) 5), (5, jx_ldI 2 6), (6, jx_i2 (fun x y => x <<< (y &&& 31)) 7), (7, jx_stI 4 8 9), (9, jx_ldR 0 10), (10, jx_gI 14 0 13), (13, jx_stI 5 8 15), (15, jx_push (vi 1) 16), (16, jx_stI 6 8 18), (18, jx_ldI 6 20), (20, jx_ldR 0 21), (21, jx_gI 14 3 24), (24, jx_cge 99 27), (27, jx_ldI 6 29), (29, jx_ldI 3 30), (30, jx_i2 (fun x y => x &&& y) 31), (31, jx_eq0 93 34), (34, jx_ldI 6 36), (36, jx_ldI 4 38), (38, jx_i2 (fun x y => x &&& y) 39), (39, jx_eq0 45 42), (42, jx_go 93), (45, jx_ldR 0 46), (46, jx_gR 14 17 (fun _ => 0) 49), (49, jx_ldI 3 50), (50, jx_iald 51), (51, jx_ldI 4 53), (53, jx_push (vi (-1)) 54), (54, jx_i2 (fun x y => x ^^^ y) 55), (55, jx_i2 (fun x y => x &&& y) 56), (56, jx_ldR 0 57), (57, jx_gR 14 17 (fun _ => 0) 60), (60, jx_ldI 6 62), (62, jx_ldI 3 63), (63, jx_i2 (fun x y => x ^^^ y) 64), (64, jx_iald 65), (65, jx_i2 (fun x y => x ||| y) 66), (66, jx_ldI 6 68), (68, jx_push (vi (-1)) 69), (69, jx_i2 (fun x y => x ^^^ y) 70), (70, jx_i2 (fun x y => x &&& y) 71), (71, jx_stI 7 8 73), (73, jx_ldI 7 75), (75, jx_ldI 4 77), (77, jx_i2 (fun x y => x &&& y) 78), (78, jx_ne0 93 81), (81, jx_ldI 5 83), (83, jx_ldI 7 85), (85, jx_cI D 1 1 88), (88, jx_m2 jx_mn 91), (91, jx_stI 5 8 93), (93, jx_incI 6 8 1 96), (96, jx_go 18), (99, jx_ldI 5 101), (101, jx_ldR 0 102), (102, jx_ldI 3 103), (103, jx_ldI 4 105), (105, jx_vI D 50 14 3 108), (108, jx_cI D 1 1 111), (111, jx_i2 (fun x y => x + y) 112), (112, jx_rI)]
set_option maxRecDepth 100000 in
theorem tl_m49 (D : jx_D) : ∀ pc, jx_tl (jx_look (tb_49 D) pc) := jx_tlm <| by
  unfold tb_49
  exact jx_all1 (tl_push) <|
  jx_all1 (tl_ldI) <|
  jx_all1 (tl_i2) <|
  jx_all1 (tl_stI) <|
  jx_all1 (tl_push) <|
  jx_all1 (tl_ldI) <|
  jx_all1 (tl_i2) <|
  jx_all1 (tl_stI) <|
  jx_all1 (tl_ldR) <|
  jx_all1 (tl_gI) <|
  jx_all1 (tl_stI) <|
  jx_all1 (tl_push) <|
  jx_all1 (tl_stI) <|
  jx_all1 (tl_ldI) <|
  jx_all1 (tl_ldR) <|
  jx_all1 (tl_gI) <|
  jx_all1 (tl_cge) <|
  jx_all1 (tl_ldI) <|
  jx_all1 (tl_ldI) <|
  jx_all1 (tl_i2) <|
  jx_all1 (tl_eq0) <|
  jx_all1 (tl_ldI) <|
  jx_all1 (tl_ldI) <|
  jx_all1 (tl_i2) <|
  jx_all1 (tl_eq0) <|
  jx_all1 (tl_go) <|
  jx_all1 (tl_ldR) <|
  jx_all1 (tl_gR) <|
  jx_all1 (tl_ldI) <|
  jx_all1 (tl_iald) <|
  jx_all1 (tl_ldI) <|
  jx_all1 (tl_push) <|
  jx_all1 (tl_i2) <|
  jx_all1 (tl_i2) <|
  jx_all1 (tl_ldR) <|
  jx_all1 (tl_gR) <|
  jx_all1 (tl_ldI) <|
  jx_all1 (tl_ldI) <|
  jx_all1 (tl_i2) <|
  jx_all1 (tl_iald) <|
  jx_all1 (tl_i2) <|
  jx_all1 (tl_ldI) <|
  jx_all1 (tl_push) <|
  jx_all1 (tl_i2) <|
  jx_all1 (tl_i2) <|
  jx_all1 (tl_stI) <|
  jx_all1 (tl_ldI) <|
  jx_all1 (tl_ldI) <|
  jx_all1 (tl_i2) <|
  jx_all1 (tl_ne0) <|
  jx_all1 (tl_ldI) <|
  jx_all1 (tl_ldI) <|
  jx_all1 (tl_cI) <|
  jx_all1 (tl_m2) <|
  jx_all1 (tl_stI) <|
  jx_all1 (tl_incI) <|
  jx_all1 (tl_go) <|
  jx_all1 (tl_ldI) <|
  jx_all1 (tl_ldR) <|
  jx_all1 (tl_ldI) <|
  jx_all1 (tl_ldI) <|
  jx_all1 (tl_vI) <|
  jx_all1 (tl_cI) <|
  jx_all1 (tl_i2) <|
  jx_all1 (tl_rI) <|
  jx_all0
def mk_49 : List (Nat × List Bool) := [(4, [true, false, true, true, false, false, false, false]), (9, [true, false, false, true, true, false, false, false]), (18, [true, false, false, true, true, true, true, false]), (73, [true, false, false, true, true, true, true, true]), (93, [true, false, false, true, true, true, true, false])]
/-- RoadBench$Plan.between(II)I -/
noncomputable def tb_50 (D : jx_D) : List (Nat × jx_A) := [(0, jx_ldR 0 1), (1, jx_gR 14 15 (fun _ => 0) 4), (4, jx_ldI 1 5), (5, jx_iald 6), (6, jx_ldR 0 7), (7, jx_gR 14 16 (fun _ => 0) 10), (10, jx_ldI 2 11), (11, jx_iald 12), (12, jx_i2 (fun x y => x &&& y) 13), (13, jx_stI 3 4 14), (14, jx_ldR 0 15), (15, jx_gI 14 2 18), (18, jx_eq0 25 21), (21, jx_ldI 3 22), (22, jx_go 40), (25, jx_ldI 3 26), (26, jx_ldR 0 27), (27, jx_gR 14 16 (fun _ => 0) 30), (30, jx_ldI 1 31), (31, jx_iald 32), (32, jx_ldR 0 33), (33, jx_gR 14 15 (fun _ => 0) 36), (36, jx_ldI 2 37), (37, jx_iald 38), (38, jx_i2 (fun x y => x &&& y) 39), (39, jx_i2 (fun x y => x ||| y) 40), (40, jx_rI)]
set_option maxRecDepth 100000 in
theorem tl_m50 (D : jx_D) : ∀ pc, jx_tl (jx_look (tb_50 D) pc) := jx_tlm <| by
  unfold tb_50
  exact jx_all1 (tl_ldR) <|
  jx_all1 (tl_gR) <|
  jx_all1 (tl_ldI) <|
  jx_all1 (tl_iald) <|
  jx_all1 (tl_ldR) <|
  jx_all1 (tl_gR) <|
  jx_all1 (tl_ldI) <|
  jx_all1 (tl_iald) <|
  jx_all1 (tl_i2) <|
  jx_all1 (tl_stI) <|
  jx_all1 (tl_ldR) <|
  jx_all1 (tl_gI) <|
  jx_all1 (tl_eq0) <|
  jx_all1 (tl_ldI) <|
  jx_all1 (tl_go) <|
  jx_all1 (tl_ldI) <|
  jx_all1 (tl_ldR) <|
  jx_all1 (tl_gR) <|
  jx_all1 (tl_ldI) <|
  jx_all1 (tl_iald) <|
  jx_all1 (tl_ldR) <|
  jx_all1 (tl_gR) <|
  jx_all1 (tl_ldI) <|
  jx_all1 (tl_iald) <|
  jx_all1 (tl_i2) <|
  jx_all1 (tl_i2) <|
  jx_all1 (tl_rI) <|
  jx_all0
def mk_50 : List (Nat × List Bool) := [(14, [true, true, true, true]), (40, [false, false, false, false])]
/-- RoadBench.heap(II)I -/
noncomputable def tb_51 (D : jx_D) : List (Nat × jx_A) := [(0, jx_ldR 0 1), (1, jx_ldI 1 2), (2, jx_vI D 12 0 2 5), (5, jx_ne0 13 8), (8, jx_ldI 2 9), (9, jx_push (vi 1) 10), (10, jx_cge 19 13), (13, jx_ldR 0 14), (14, jx_push (vi (-1)) 15), (15, jx_vI D 8 0 2 18), (18, jx_rI), (19, jx_ldR 0 20), (20, jx_gR 0 1 (fun _ => 0) 23), (23, jx_gI 1 2 26), (26, jx_eq0 36 29), (29, jx_ldR 0 30), (30, jx_push (vi (-8)) 32), (32, jx_vI D 8 0 2 35), (35, jx_rI), (36, jx_ldR 0 37), (37, jx_gR 0 14 (fun _ => 0) 40), (40, jx_ldR 0 41), (41, jx_gR 0 1 (fun _ => 0) 44), (44, jx_vV D 38 14 2 47), (47, jx_ldR 0 48), (48, jx_gR 0 14 (fun _ => 0) 51), (51, jx_ldI 1 52), (52, jx_ldI 2 53), (53, jx_vI D 52 14 3 56), (56, jx_rI)]
set_option maxRecDepth 100000 in
theorem tl_m51 (D : jx_D) : ∀ pc, jx_tl (jx_look (tb_51 D) pc) := jx_tlm <| by
  unfold tb_51
  exact jx_all1 (tl_ldR) <|
  jx_all1 (tl_ldI) <|
  jx_all1 (tl_vI) <|
  jx_all1 (tl_ne0) <|
  jx_all1 (tl_ldI) <|
  jx_all1 (tl_push) <|
  jx_all1 (tl_cge) <|
  jx_all1 (tl_ldR) <|
  jx_all1 (tl_push) <|
  jx_all1 (tl_vI) <|
  jx_all1 (tl_rI) <|
  jx_all1 (tl_ldR) <|
  jx_all1 (tl_gR) <|
  jx_all1 (tl_gI) <|
  jx_all1 (tl_eq0) <|
  jx_all1 (tl_ldR) <|
  jx_all1 (tl_push) <|
  jx_all1 (tl_vI) <|
  jx_all1 (tl_rI) <|
  jx_all1 (tl_ldR) <|
  jx_all1 (tl_gR) <|
  jx_all1 (tl_ldR) <|
  jx_all1 (tl_gR) <|
  jx_all1 (tl_vV) <|
  jx_all1 (tl_ldR) <|
  jx_all1 (tl_gR) <|
  jx_all1 (tl_ldI) <|
  jx_all1 (tl_ldI) <|
  jx_all1 (tl_vI) <|
  jx_all1 (tl_rI) <|
  jx_all0
def mk_51 : List (Nat × List Bool) := [(13, [true, false, false])]
/-- RoadBench$Plan.leastOfHeap(II)I -/
noncomputable def tb_52 (D : jx_D) : List (Nat × jx_A) := [(0, jx_push (vi 0) 1), (1, jx_stI 3 4 2), (2, jx_ldI 3 3), (3, jx_ldI 1 4), (4, jx_cge 25 7), (7, jx_ldR 0 8), (8, jx_ldI 1 9), (9, jx_ldI 3 10), (10, jx_vI D 40 14 3 13), (13, jx_ldI 2 14), (14, jx_clt 19 17), (17, jx_ldI 3 18), (18, jx_rI), (19, jx_incI 3 4 1 22), (22, jx_go 2), (25, jx_ldI 1 26), (26, jx_rI)]
set_option maxRecDepth 100000 in
theorem tl_m52 (D : jx_D) : ∀ pc, jx_tl (jx_look (tb_52 D) pc) := jx_tlm <| by
  unfold tb_52
  exact jx_all1 (tl_push) <|
  jx_all1 (tl_stI) <|
  jx_all1 (tl_ldI) <|
  jx_all1 (tl_ldI) <|
  jx_all1 (tl_cge) <|
  jx_all1 (tl_ldR) <|
  jx_all1 (tl_ldI) <|
  jx_all1 (tl_ldI) <|
  jx_all1 (tl_vI) <|
  jx_all1 (tl_ldI) <|
  jx_all1 (tl_clt) <|
  jx_all1 (tl_ldI) <|
  jx_all1 (tl_rI) <|
  jx_all1 (tl_incI) <|
  jx_all1 (tl_go) <|
  jx_all1 (tl_ldI) <|
  jx_all1 (tl_rI) <|
  jx_all0
def mk_52 : List (Nat × List Bool) := [(2, [true, true, true, true])]
/-- RoadBench.still(ZI)I -/
noncomputable def tb_53 (D : jx_D) : List (Nat × jx_A) := [(0, jx_ldR 0 1), (1, jx_gR 0 14 (fun _ => 0) 4), (4, jx_ldR 0 5), (5, jx_gR 0 1 (fun _ => 0) 8), (8, jx_vV D 38 14 2 11), (11, jx_ldI 1 12), (12, jx_eq0 25 15), (15, jx_ldR 0 16), (16, jx_gR 0 14 (fun _ => 0) 19), (19, jx_gI 14 3 22), (22, jx_go 32), (25, jx_ldR 0 26), (26, jx_gR 0 14 (fun _ => 0) 29), (29, jx_gI 14 4 32), (32, jx_stI 3 5 33), (33, jx_ldI 2 34), (34, jx_ldI 3 35), (35, jx_push (vi (-1)) 36), (36, jx_i2 (fun x y => x ^^^ y) 37), (37, jx_i2 (fun x y => x &&& y) 38), (38, jx_eq0 47 41), (41, jx_ldR 0 42), (42, jx_push (vi (-1)) 43), (43, jx_vI D 8 0 2 46), (46, jx_rI), (47, jx_ldI 1 48), (48, jx_eq0 66 51), (51, jx_ldR 0 52), (52, jx_gR 0 14 (fun _ => 0) 55), (55, jx_ldI 3 56), (56, jx_ldI 2 57), (57, jx_push (vi (-1)) 58), (58, jx_i2 (fun x y => x ^^^ y) 59), (59, jx_i2 (fun x y => x &&& y) 60), (60, jx_vI D 54 14 2 63), (63, jx_go 78), (66, jx_ldR 0 67), (67, jx_gR 0 14 (fun _ => 0) 70), (70, jx_ldI 3 71), (71, jx_ldI 2 72), (72, jx_push (vi (-1)) 73), (73, jx_i2 (fun x y => x ^^^ y) 74), (74, jx_i2 (fun x y => x &&& y) 75), (75, jx_vI D 55 14 2 78), (78, jx_stI 4 5 80), (80, jx_ldI 4 82), (82, jx_eq0 89 85), (85, jx_push (vi 1) 86), (86, jx_go 90), (89, jx_push (vi 0) 90), (90, jx_rI)]
set_option maxRecDepth 100000 in
theorem tl_m53 (D : jx_D) : ∀ pc, jx_tl (jx_look (tb_53 D) pc) := jx_tlm <| by
  unfold tb_53
  exact jx_all1 (tl_ldR) <|
  jx_all1 (tl_gR) <|
  jx_all1 (tl_ldR) <|
  jx_all1 (tl_gR) <|
  jx_all1 (tl_vV) <|
  jx_all1 (tl_ldI) <|
  jx_all1 (tl_eq0) <|
  jx_all1 (tl_ldR) <|
  jx_all1 (tl_gR) <|
  jx_all1 (tl_gI) <|
  jx_all1 (tl_go) <|
  jx_all1 (tl_ldR) <|
  jx_all1 (tl_gR) <|
  jx_all1 (tl_gI) <|
  jx_all1 (tl_stI) <|
  jx_all1 (tl_ldI) <|
  jx_all1 (tl_ldI) <|
  jx_all1 (tl_push) <|
  jx_all1 (tl_i2) <|
  jx_all1 (tl_i2) <|
  jx_all1 (tl_eq0) <|
  jx_all1 (tl_ldR) <|
  jx_all1 (tl_push) <|
  jx_all1 (tl_vI) <|
  jx_all1 (tl_rI) <|
  jx_all1 (tl_ldI) <|
  jx_all1 (tl_eq0) <|
  jx_all1 (tl_ldR) <|
  jx_all1 (tl_gR) <|
  jx_all1 (tl_ldI) <|
  jx_all1 (tl_ldI) <|
  jx_all1 (tl_push) <|
  jx_all1 (tl_i2) <|
  jx_all1 (tl_i2) <|
  jx_all1 (tl_vI) <|
  jx_all1 (tl_go) <|
  jx_all1 (tl_ldR) <|
  jx_all1 (tl_gR) <|
  jx_all1 (tl_ldI) <|
  jx_all1 (tl_ldI) <|
  jx_all1 (tl_push) <|
  jx_all1 (tl_i2) <|
  jx_all1 (tl_i2) <|
  jx_all1 (tl_vI) <|
  jx_all1 (tl_stI) <|
  jx_all1 (tl_ldI) <|
  jx_all1 (tl_eq0) <|
  jx_all1 (tl_push) <|
  jx_all1 (tl_go) <|
  jx_all1 (tl_push) <|
  jx_all1 (tl_rI) <|
  jx_all0
def mk_53 : List (Nat × List Bool) := [(32, [true, true, true, false, false]), (78, [false, false, false, false, false]), (90, [false, false, false, false, false])]
/-- RoadBench$Plan.hangsAmong(I)Z -/
noncomputable def tb_54 (D : jx_D) : List (Nat × jx_A) := [(0, jx_ldI 1 1), (1, jx_push (vi 1) 2), (2, jx_i2 (fun x y => x - y) 3), (3, jx_ldI 1 4), (4, jx_i2 (fun x y => x &&& y) 5), (5, jx_stI 2 3 6), (6, jx_ldI 2 7), (7, jx_le0 34 10), (10, jx_ldR 0 11), (11, jx_ldI 2 12), (12, jx_ldI 1 13), (13, jx_ldI 2 14), (14, jx_push (vi (-1)) 15), (15, jx_i2 (fun x y => x ^^^ y) 16), (16, jx_i2 (fun x y => x &&& y) 17), (17, jx_vI D 50 14 3 20), (20, jx_ne0 25 23), (23, jx_push (vi 0) 24), (24, jx_rZ), (25, jx_ldI 2 26), (26, jx_push (vi 1) 27), (27, jx_i2 (fun x y => x - y) 28), (28, jx_ldI 1 29), (29, jx_i2 (fun x y => x &&& y) 30), (30, jx_stI 2 3 31), (31, jx_go 6), (34, jx_push (vi 1) 35), (35, jx_rZ)]
set_option maxRecDepth 100000 in
theorem tl_m54 (D : jx_D) : ∀ pc, jx_tl (jx_look (tb_54 D) pc) := jx_tlm <| by
  unfold tb_54
  exact jx_all1 (tl_ldI) <|
  jx_all1 (tl_push) <|
  jx_all1 (tl_i2) <|
  jx_all1 (tl_ldI) <|
  jx_all1 (tl_i2) <|
  jx_all1 (tl_stI) <|
  jx_all1 (tl_ldI) <|
  jx_all1 (tl_le0) <|
  jx_all1 (tl_ldR) <|
  jx_all1 (tl_ldI) <|
  jx_all1 (tl_ldI) <|
  jx_all1 (tl_ldI) <|
  jx_all1 (tl_push) <|
  jx_all1 (tl_i2) <|
  jx_all1 (tl_i2) <|
  jx_all1 (tl_vI) <|
  jx_all1 (tl_ne0) <|
  jx_all1 (tl_push) <|
  jx_all1 (tl_rZ) <|
  jx_all1 (tl_ldI) <|
  jx_all1 (tl_push) <|
  jx_all1 (tl_i2) <|
  jx_all1 (tl_ldI) <|
  jx_all1 (tl_i2) <|
  jx_all1 (tl_stI) <|
  jx_all1 (tl_go) <|
  jx_all1 (tl_push) <|
  jx_all1 (tl_rZ) <|
  jx_all0
def mk_54 : List (Nat × List Bool) := [(6, [true, true, true]), (31, [true, true, true])]
/-- RoadBench$Plan.hangsBy(I)Z -/
noncomputable def tb_55 (D : jx_D) : List (Nat × jx_A) := [(0, jx_push (vi 1) 1), (1, jx_stI 2 3 2), (2, jx_ldI 2 3), (3, jx_ldR 0 4), (4, jx_gI 14 5 7), (7, jx_cge 34 10), (10, jx_ldR 0 11), (11, jx_gR 14 18 (fun _ => 0) 14), (14, jx_ldI 2 15), (15, jx_ldR 0 16), (16, jx_gI 14 6 19), (19, jx_i2 (fun x y => x <<< (y &&& 31)) 20), (20, jx_iald 21), (21, jx_ldI 1 22), (22, jx_i2 (fun x y => x &&& y) 23), (23, jx_ne0 28 26), (26, jx_push (vi 0) 27), (27, jx_rZ), (28, jx_incI 2 3 1 31), (31, jx_go 2), (34, jx_ldR 0 35), (35, jx_gI 14 0 38), (38, jx_le0 45 41), (41, jx_push (vi 1) 42), (42, jx_go 46), (45, jx_push (vi 0) 46), (46, jx_rZ)]
set_option maxRecDepth 100000 in
theorem tl_m55 (D : jx_D) : ∀ pc, jx_tl (jx_look (tb_55 D) pc) := jx_tlm <| by
  unfold tb_55
  exact jx_all1 (tl_push) <|
  jx_all1 (tl_stI) <|
  jx_all1 (tl_ldI) <|
  jx_all1 (tl_ldR) <|
  jx_all1 (tl_gI) <|
  jx_all1 (tl_cge) <|
  jx_all1 (tl_ldR) <|
  jx_all1 (tl_gR) <|
  jx_all1 (tl_ldI) <|
  jx_all1 (tl_ldR) <|
  jx_all1 (tl_gI) <|
  jx_all1 (tl_i2) <|
  jx_all1 (tl_iald) <|
  jx_all1 (tl_ldI) <|
  jx_all1 (tl_i2) <|
  jx_all1 (tl_ne0) <|
  jx_all1 (tl_push) <|
  jx_all1 (tl_rZ) <|
  jx_all1 (tl_incI) <|
  jx_all1 (tl_go) <|
  jx_all1 (tl_ldR) <|
  jx_all1 (tl_gI) <|
  jx_all1 (tl_le0) <|
  jx_all1 (tl_push) <|
  jx_all1 (tl_go) <|
  jx_all1 (tl_push) <|
  jx_all1 (tl_rZ) <|
  jx_all0
def mk_55 : List (Nat × List Bool) := [(2, [true, true, true]), (46, [false, false, false])]
/-- RoadBench.bridges()I -/
noncomputable def tb_56 (D : jx_D) : List (Nat × jx_A) := [(0, jx_ldR 0 1), (1, jx_gR 0 1 (fun _ => 0) 4), (4, jx_gI 1 2 7), (7, jx_eq0 17 10), (10, jx_ldR 0 11), (11, jx_push (vi (-8)) 13), (13, jx_vI D 8 0 2 16), (16, jx_rI), (17, jx_ldR 0 18), (18, jx_gR 0 14 (fun _ => 0) 21), (21, jx_ldR 0 22), (22, jx_gR 0 1 (fun _ => 0) 25), (25, jx_vV D 38 14 2 28), (28, jx_ldR 0 29), (29, jx_gR 0 14 (fun _ => 0) 32), (32, jx_vI D 57 14 1 35), (35, jx_rI)]
set_option maxRecDepth 100000 in
theorem tl_m56 (D : jx_D) : ∀ pc, jx_tl (jx_look (tb_56 D) pc) := jx_tlm <| by
  unfold tb_56
  exact jx_all1 (tl_ldR) <|
  jx_all1 (tl_gR) <|
  jx_all1 (tl_gI) <|
  jx_all1 (tl_eq0) <|
  jx_all1 (tl_ldR) <|
  jx_all1 (tl_push) <|
  jx_all1 (tl_vI) <|
  jx_all1 (tl_rI) <|
  jx_all1 (tl_ldR) <|
  jx_all1 (tl_gR) <|
  jx_all1 (tl_ldR) <|
  jx_all1 (tl_gR) <|
  jx_all1 (tl_vV) <|
  jx_all1 (tl_ldR) <|
  jx_all1 (tl_gR) <|
  jx_all1 (tl_vI) <|
  jx_all1 (tl_rI) <|
  jx_all0
def mk_56 : List (Nat × List Bool) := []
/-- RoadBench$Plan.loneRoads()I -/
noncomputable def tb_57 (D : jx_D) : List (Nat × jx_A) := [(0, jx_push (vi 0) 1), (1, jx_stI 1 3 2), (2, jx_push (vi 1) 3), (3, jx_stI 2 3 4), (4, jx_ldI 2 5), (5, jx_ldR 0 6), (6, jx_gI 14 5 9), (9, jx_cge 50 12), (12, jx_ldR 0 13), (13, jx_gR 14 18 (fun _ => 0) 16), (16, jx_ldI 2 17), (17, jx_ldR 0 18), (18, jx_gI 14 6 21), (21, jx_i2 (fun x y => x <<< (y &&& 31)) 22), (22, jx_iald 23), (23, jx_cI D 1 1 26), (26, jx_push (vi 1) 27), (27, jx_cne 44 30), (30, jx_ldI 1 31), (31, jx_ldR 0 32), (32, jx_gR 14 18 (fun _ => 0) 35), (35, jx_ldI 2 36), (36, jx_ldR 0 37), (37, jx_gI 14 6 40), (40, jx_i2 (fun x y => x <<< (y &&& 31)) 41), (41, jx_iald 42), (42, jx_i2 (fun x y => x ||| y) 43), (43, jx_stI 1 3 44), (44, jx_incI 2 3 1 47), (47, jx_go 4), (50, jx_ldI 1 51), (51, jx_rI)]
set_option maxRecDepth 100000 in
theorem tl_m57 (D : jx_D) : ∀ pc, jx_tl (jx_look (tb_57 D) pc) := jx_tlm <| by
  unfold tb_57
  exact jx_all1 (tl_push) <|
  jx_all1 (tl_stI) <|
  jx_all1 (tl_push) <|
  jx_all1 (tl_stI) <|
  jx_all1 (tl_ldI) <|
  jx_all1 (tl_ldR) <|
  jx_all1 (tl_gI) <|
  jx_all1 (tl_cge) <|
  jx_all1 (tl_ldR) <|
  jx_all1 (tl_gR) <|
  jx_all1 (tl_ldI) <|
  jx_all1 (tl_ldR) <|
  jx_all1 (tl_gI) <|
  jx_all1 (tl_i2) <|
  jx_all1 (tl_iald) <|
  jx_all1 (tl_cI) <|
  jx_all1 (tl_push) <|
  jx_all1 (tl_cne) <|
  jx_all1 (tl_ldI) <|
  jx_all1 (tl_ldR) <|
  jx_all1 (tl_gR) <|
  jx_all1 (tl_ldI) <|
  jx_all1 (tl_ldR) <|
  jx_all1 (tl_gI) <|
  jx_all1 (tl_i2) <|
  jx_all1 (tl_iald) <|
  jx_all1 (tl_i2) <|
  jx_all1 (tl_stI) <|
  jx_all1 (tl_incI) <|
  jx_all1 (tl_go) <|
  jx_all1 (tl_ldI) <|
  jx_all1 (tl_rI) <|
  jx_all0
def mk_57 : List (Nat × List Bool) := [(4, [true, true, true]), (44, [true, true, true])]
/-- RoadBench.joints()I -/
noncomputable def tb_58 (D : jx_D) : List (Nat × jx_A) := [(0, jx_ldR 0 1), (1, jx_gR 0 1 (fun _ => 0) 4), (4, jx_gI 1 2 7), (7, jx_eq0 17 10), (10, jx_ldR 0 11), (11, jx_push (vi (-8)) 13), (13, jx_vI D 8 0 2 16), (16, jx_rI), (17, jx_ldR 0 18), (18, jx_gR 0 14 (fun _ => 0) 21), (21, jx_ldR 0 22), (22, jx_gR 0 1 (fun _ => 0) 25), (25, jx_vV D 38 14 2 28), (28, jx_ldR 0 29), (29, jx_gR 0 14 (fun _ => 0) 32), (32, jx_vI D 59 14 1 35), (35, jx_rI)]
set_option maxRecDepth 100000 in
theorem tl_m58 (D : jx_D) : ∀ pc, jx_tl (jx_look (tb_58 D) pc) := jx_tlm <| by
  unfold tb_58
  exact jx_all1 (tl_ldR) <|
  jx_all1 (tl_gR) <|
  jx_all1 (tl_gI) <|
  jx_all1 (tl_eq0) <|
  jx_all1 (tl_ldR) <|
  jx_all1 (tl_push) <|
  jx_all1 (tl_vI) <|
  jx_all1 (tl_rI) <|
  jx_all1 (tl_ldR) <|
  jx_all1 (tl_gR) <|
  jx_all1 (tl_ldR) <|
  jx_all1 (tl_gR) <|
  jx_all1 (tl_vV) <|
  jx_all1 (tl_ldR) <|
  jx_all1 (tl_gR) <|
  jx_all1 (tl_vI) <|
  jx_all1 (tl_rI) <|
  jx_all0
def mk_58 : List (Nat × List Bool) := []
/-- RoadBench$Plan.partingPosts()I -/
noncomputable def tb_59 (D : jx_D) : List (Nat × jx_A) := [(0, jx_push (vi 0) 1), (1, jx_stI 1 5 2), (2, jx_push (vi 0) 3), (3, jx_stI 2 5 4), (4, jx_ldI 2 5), (5, jx_ldR 0 6), (6, jx_gI 14 0 9), (9, jx_cge 66 12), (12, jx_ldR 0 13), (13, jx_gI 14 3 16), (16, jx_push (vi 1) 17), (17, jx_ldI 2 18), (18, jx_i2 (fun x y => x <<< (y &&& 31)) 19), (19, jx_push (vi (-1)) 20), (20, jx_i2 (fun x y => x ^^^ y) 21), (21, jx_i2 (fun x y => x &&& y) 22), (22, jx_stI 3 5 23), (23, jx_ldR 0 24), (24, jx_push (vi 1) 25), (25, jx_ldI 2 26), (26, jx_i2 (fun x y => x <<< (y &&& 31)) 27), (27, jx_ldR 0 28), (28, jx_gI 14 3 31), (31, jx_vI D 60 14 3 34), (34, jx_ldI 3 35), (35, jx_i2 (fun x y => x &&& y) 36), (36, jx_stI 4 5 38), (38, jx_ldR 0 39), (39, jx_ldI 4 41), (41, jx_ldI 4 43), (43, jx_i1 (fun x => -x) 44), (44, jx_i2 (fun x y => x &&& y) 45), (45, jx_ldI 3 46), (46, jx_vI D 60 14 3 49), (49, jx_ldI 4 51), (51, jx_ceq 60 54), (54, jx_ldI 1 55), (55, jx_push (vi 1) 56), (56, jx_ldI 2 57), (57, jx_i2 (fun x y => x <<< (y &&& 31)) 58), (58, jx_i2 (fun x y => x ||| y) 59), (59, jx_stI 1 5 60), (60, jx_incI 2 5 1 63), (63, jx_go 4), (66, jx_ldI 1 67), (67, jx_rI)]
set_option maxRecDepth 100000 in
theorem tl_m59 (D : jx_D) : ∀ pc, jx_tl (jx_look (tb_59 D) pc) := jx_tlm <| by
  unfold tb_59
  exact jx_all1 (tl_push) <|
  jx_all1 (tl_stI) <|
  jx_all1 (tl_push) <|
  jx_all1 (tl_stI) <|
  jx_all1 (tl_ldI) <|
  jx_all1 (tl_ldR) <|
  jx_all1 (tl_gI) <|
  jx_all1 (tl_cge) <|
  jx_all1 (tl_ldR) <|
  jx_all1 (tl_gI) <|
  jx_all1 (tl_push) <|
  jx_all1 (tl_ldI) <|
  jx_all1 (tl_i2) <|
  jx_all1 (tl_push) <|
  jx_all1 (tl_i2) <|
  jx_all1 (tl_i2) <|
  jx_all1 (tl_stI) <|
  jx_all1 (tl_ldR) <|
  jx_all1 (tl_push) <|
  jx_all1 (tl_ldI) <|
  jx_all1 (tl_i2) <|
  jx_all1 (tl_ldR) <|
  jx_all1 (tl_gI) <|
  jx_all1 (tl_vI) <|
  jx_all1 (tl_ldI) <|
  jx_all1 (tl_i2) <|
  jx_all1 (tl_stI) <|
  jx_all1 (tl_ldR) <|
  jx_all1 (tl_ldI) <|
  jx_all1 (tl_ldI) <|
  jx_all1 (tl_i1) <|
  jx_all1 (tl_i2) <|
  jx_all1 (tl_ldI) <|
  jx_all1 (tl_vI) <|
  jx_all1 (tl_ldI) <|
  jx_all1 (tl_ceq) <|
  jx_all1 (tl_ldI) <|
  jx_all1 (tl_push) <|
  jx_all1 (tl_ldI) <|
  jx_all1 (tl_i2) <|
  jx_all1 (tl_i2) <|
  jx_all1 (tl_stI) <|
  jx_all1 (tl_incI) <|
  jx_all1 (tl_go) <|
  jx_all1 (tl_ldI) <|
  jx_all1 (tl_rI) <|
  jx_all0
def mk_59 : List (Nat × List Bool) := [(4, [true, true, true, false, false]), (23, [true, true, true, true, false]), (38, [true, true, true, true, true]), (60, [true, true, true, false, false])]
/-- RoadBench$Plan.reach(II)I -/
noncomputable def tb_60 (D : jx_D) : List (Nat × jx_A) := [(0, jx_ldI 1 1), (1, jx_ldI 2 2), (2, jx_i2 (fun x y => x &&& y) 3), (3, jx_stI 3 5 4), (4, jx_push (vi 0) 5), (5, jx_stI 4 5 7), (7, jx_ldI 4 9), (9, jx_ldR 0 10), (10, jx_gI 14 0 13), (13, jx_cge 33 16), (16, jx_ldI 3 17), (17, jx_ldR 0 18), (18, jx_gR 14 17 (fun _ => 0) 21), (21, jx_ldI 3 22), (22, jx_iald 23), (23, jx_ldI 2 24), (24, jx_i2 (fun x y => x &&& y) 25), (25, jx_i2 (fun x y => x ||| y) 26), (26, jx_stI 3 5 27), (27, jx_incI 4 5 1 30), (30, jx_go 7), (33, jx_ldI 3 34), (34, jx_rI)]
set_option maxRecDepth 100000 in
theorem tl_m60 (D : jx_D) : ∀ pc, jx_tl (jx_look (tb_60 D) pc) := jx_tlm <| by
  unfold tb_60
  exact jx_all1 (tl_ldI) <|
  jx_all1 (tl_ldI) <|
  jx_all1 (tl_i2) <|
  jx_all1 (tl_stI) <|
  jx_all1 (tl_push) <|
  jx_all1 (tl_stI) <|
  jx_all1 (tl_ldI) <|
  jx_all1 (tl_ldR) <|
  jx_all1 (tl_gI) <|
  jx_all1 (tl_cge) <|
  jx_all1 (tl_ldI) <|
  jx_all1 (tl_ldR) <|
  jx_all1 (tl_gR) <|
  jx_all1 (tl_ldI) <|
  jx_all1 (tl_iald) <|
  jx_all1 (tl_ldI) <|
  jx_all1 (tl_i2) <|
  jx_all1 (tl_i2) <|
  jx_all1 (tl_stI) <|
  jx_all1 (tl_incI) <|
  jx_all1 (tl_go) <|
  jx_all1 (tl_ldI) <|
  jx_all1 (tl_rI) <|
  jx_all0
def mk_60 : List (Nat × List Bool) := [(4, [true, false, true, true, false]), (7, [true, false, true, true, true]), (27, [true, false, true, true, true])]
/-- RoadBench.block(I)I -/
noncomputable def tb_61 (D : jx_D) : List (Nat × jx_A) := [(0, jx_ldR 0 1), (1, jx_ldI 1 2), (2, jx_vI D 15 0 2 5), (5, jx_eq0 14 8), (8, jx_ldR 0 9), (9, jx_push (vi (-1)) 10), (10, jx_vI D 8 0 2 13), (13, jx_rI), (14, jx_ldR 0 15), (15, jx_gR 0 1 (fun _ => 0) 18), (18, jx_gI 1 2 21), (21, jx_eq0 31 24), (24, jx_ldR 0 25), (25, jx_push (vi (-8)) 27), (27, jx_vI D 8 0 2 30), (30, jx_rI), (31, jx_ldR 0 32), (32, jx_gR 0 14 (fun _ => 0) 35), (35, jx_ldR 0 36), (36, jx_gR 0 1 (fun _ => 0) 39), (39, jx_vV D 38 14 2 42), (42, jx_ldR 0 43), (43, jx_gR 0 14 (fun _ => 0) 46), (46, jx_ldI 1 47), (47, jx_ldR 0 48), (48, jx_gR 0 1 (fun _ => 0) 51), (51, jx_vI D 62 14 3 54), (54, jx_cI D 63 1 57), (57, jx_rI)]
set_option maxRecDepth 100000 in
theorem tl_m61 (D : jx_D) : ∀ pc, jx_tl (jx_look (tb_61 D) pc) := jx_tlm <| by
  unfold tb_61
  exact jx_all1 (tl_ldR) <|
  jx_all1 (tl_ldI) <|
  jx_all1 (tl_vI) <|
  jx_all1 (tl_eq0) <|
  jx_all1 (tl_ldR) <|
  jx_all1 (tl_push) <|
  jx_all1 (tl_vI) <|
  jx_all1 (tl_rI) <|
  jx_all1 (tl_ldR) <|
  jx_all1 (tl_gR) <|
  jx_all1 (tl_gI) <|
  jx_all1 (tl_eq0) <|
  jx_all1 (tl_ldR) <|
  jx_all1 (tl_push) <|
  jx_all1 (tl_vI) <|
  jx_all1 (tl_rI) <|
  jx_all1 (tl_ldR) <|
  jx_all1 (tl_gR) <|
  jx_all1 (tl_ldR) <|
  jx_all1 (tl_gR) <|
  jx_all1 (tl_vV) <|
  jx_all1 (tl_ldR) <|
  jx_all1 (tl_gR) <|
  jx_all1 (tl_ldI) <|
  jx_all1 (tl_ldR) <|
  jx_all1 (tl_gR) <|
  jx_all1 (tl_vI) <|
  jx_all1 (tl_cI) <|
  jx_all1 (tl_rI) <|
  jx_all0
def mk_61 : List (Nat × List Bool) := []
/-- RoadBench$Plan.blockOf(ILRoadBench$Net;)I -/
noncomputable def tb_62 (D : jx_D) : List (Nat × jx_A) := [(0, jx_push (vi 1) 1), (1, jx_ldI 1 2), (2, jx_i2 (fun x y => x <<< (y &&& 31)) 3), (3, jx_stI 3 10 4), (4, jx_ldI 3 5), (5, jx_stI 4 10 7), (7, jx_push (vi 0) 8), (8, jx_stI 5 10 10), (10, jx_ldI 5 12), (12, jx_ldR 0 13), (13, jx_gI 14 1 16), (16, jx_cge 101 19), (19, jx_ldI 4 21), (21, jx_eq0 101 24), (24, jx_ldI 4 26), (26, jx_cI D 63 1 29), (29, jx_stI 6 10 31), (31, jx_push (vi 1) 32), (32, jx_ldR 2 33), (33, jx_gR 1 2 (fun i => i) 36), (36, jx_ldI 6 38), (38, jx_iald 39), (39, jx_i2 (fun x y => x <<< (y &&& 31)) 40), (40, jx_stI 7 10 42), (42, jx_push (vi 1) 43), (43, jx_ldR 2 44), (44, jx_gR 1 3 (fun i => i) 47), (47, jx_ldI 6 49), (49, jx_iald 50), (50, jx_i2 (fun x y => x <<< (y &&& 31)) 51), (51, jx_stI 8 10 53), (53, jx_ldR 0 54), (54, jx_ldI 7 56), (56, jx_ldI 8 58), (58, jx_vI D 64 14 3 61), (61, jx_ldR 0 62), (62, jx_ldI 8 64), (64, jx_ldI 7 66), (66, jx_vI D 64 14 3 69), (69, jx_i2 (fun x y => x ||| y) 70), (70, jx_ldI 3 71), (71, jx_push (vi (-1)) 72), (72, jx_i2 (fun x y => x ^^^ y) 73), (73, jx_i2 (fun x y => x &&& y) 74), (74, jx_stI 9 10 76), (76, jx_ldI 3 77), (77, jx_ldI 9 79), (79, jx_i2 (fun x y => x ||| y) 80), (80, jx_stI 3 10 81), (81, jx_ldI 4 83), (83, jx_push (vi 1) 84), (84, jx_ldI 6 86), (86, jx_i2 (fun x y => x <<< (y &&& 31)) 87), (87, jx_push (vi (-1)) 88), (88, jx_i2 (fun x y => x ^^^ y) 89), (89, jx_i2 (fun x y => x &&& y) 90), (90, jx_ldI 9 92), (92, jx_i2 (fun x y => x ||| y) 93), (93, jx_stI 4 10 95), (95, jx_incI 5 10 1 98), (98, jx_go 10), (101, jx_ldI 3 102), (102, jx_rI)]
set_option maxRecDepth 100000 in
theorem tl_m62 (D : jx_D) : ∀ pc, jx_tl (jx_look (tb_62 D) pc) := jx_tlm <| by
  unfold tb_62
  exact jx_all1 (tl_push) <|
  jx_all1 (tl_ldI) <|
  jx_all1 (tl_i2) <|
  jx_all1 (tl_stI) <|
  jx_all1 (tl_ldI) <|
  jx_all1 (tl_stI) <|
  jx_all1 (tl_push) <|
  jx_all1 (tl_stI) <|
  jx_all1 (tl_ldI) <|
  jx_all1 (tl_ldR) <|
  jx_all1 (tl_gI) <|
  jx_all1 (tl_cge) <|
  jx_all1 (tl_ldI) <|
  jx_all1 (tl_eq0) <|
  jx_all1 (tl_ldI) <|
  jx_all1 (tl_cI) <|
  jx_all1 (tl_stI) <|
  jx_all1 (tl_push) <|
  jx_all1 (tl_ldR) <|
  jx_all1 (tl_gR) <|
  jx_all1 (tl_ldI) <|
  jx_all1 (tl_iald) <|
  jx_all1 (tl_i2) <|
  jx_all1 (tl_stI) <|
  jx_all1 (tl_push) <|
  jx_all1 (tl_ldR) <|
  jx_all1 (tl_gR) <|
  jx_all1 (tl_ldI) <|
  jx_all1 (tl_iald) <|
  jx_all1 (tl_i2) <|
  jx_all1 (tl_stI) <|
  jx_all1 (tl_ldR) <|
  jx_all1 (tl_ldI) <|
  jx_all1 (tl_ldI) <|
  jx_all1 (tl_vI) <|
  jx_all1 (tl_ldR) <|
  jx_all1 (tl_ldI) <|
  jx_all1 (tl_ldI) <|
  jx_all1 (tl_vI) <|
  jx_all1 (tl_i2) <|
  jx_all1 (tl_ldI) <|
  jx_all1 (tl_push) <|
  jx_all1 (tl_i2) <|
  jx_all1 (tl_i2) <|
  jx_all1 (tl_stI) <|
  jx_all1 (tl_ldI) <|
  jx_all1 (tl_ldI) <|
  jx_all1 (tl_i2) <|
  jx_all1 (tl_stI) <|
  jx_all1 (tl_ldI) <|
  jx_all1 (tl_push) <|
  jx_all1 (tl_ldI) <|
  jx_all1 (tl_i2) <|
  jx_all1 (tl_push) <|
  jx_all1 (tl_i2) <|
  jx_all1 (tl_i2) <|
  jx_all1 (tl_ldI) <|
  jx_all1 (tl_i2) <|
  jx_all1 (tl_stI) <|
  jx_all1 (tl_incI) <|
  jx_all1 (tl_go) <|
  jx_all1 (tl_ldI) <|
  jx_all1 (tl_rI) <|
  jx_all0
def mk_62 : List (Nat × List Bool) := [(4, [true, false, true, true, false, false, false, false, false, false]), (10, [true, false, true, true, true, true, false, false, false, false]), (42, [true, false, true, true, true, true, true, true, false, false]), (53, [true, false, true, true, true, true, true, true, true, false]), (76, [true, false, true, true, true, true, true, false, false, true]), (81, [true, false, true, true, true, true, true, false, false, true]), (95, [true, false, true, true, true, true, false, false, false, false]), (101, [false, false, false, true, false, false, false, false, false, false])]
/-- RoadBench.lowest(I)I -/
noncomputable def tb_63 (D : jx_D) : List (Nat × jx_A) := [(0, jx_ldI 0 1), (1, jx_ldI 0 2), (2, jx_i1 (fun x => -x) 3), (3, jx_i2 (fun x y => x &&& y) 4), (4, jx_push (vi 1) 5), (5, jx_i2 (fun x y => x - y) 6), (6, jx_cI D 1 1 9), (9, jx_rI)]
set_option maxRecDepth 100000 in
theorem tl_m63 (D : jx_D) : ∀ pc, jx_tl (jx_look (tb_63 D) pc) := jx_tlm <| by
  unfold tb_63
  exact jx_all1 (tl_ldI) <|
  jx_all1 (tl_ldI) <|
  jx_all1 (tl_i1) <|
  jx_all1 (tl_i2) <|
  jx_all1 (tl_push) <|
  jx_all1 (tl_i2) <|
  jx_all1 (tl_cI) <|
  jx_all1 (tl_rI) <|
  jx_all0
def mk_63 : List (Nat × List Bool) := []
/-- RoadBench$Plan.ringRoads(II)I -/
noncomputable def tb_64 (D : jx_D) : List (Nat × jx_A) := [(0, jx_ldR 0 1), (1, jx_ldI 1 2), (2, jx_ldR 0 3), (3, jx_ldI 2 4), (4, jx_ldR 0 5), (5, jx_gI 14 3 8), (8, jx_ldI 1 9), (9, jx_push (vi (-1)) 10), (10, jx_i2 (fun x y => x ^^^ y) 11), (11, jx_i2 (fun x y => x &&& y) 12), (12, jx_vI D 60 14 3 15), (15, jx_vI D 50 14 3 18), (18, jx_rI)]
set_option maxRecDepth 100000 in
theorem tl_m64 (D : jx_D) : ∀ pc, jx_tl (jx_look (tb_64 D) pc) := jx_tlm <| by
  unfold tb_64
  exact jx_all1 (tl_ldR) <|
  jx_all1 (tl_ldI) <|
  jx_all1 (tl_ldR) <|
  jx_all1 (tl_ldI) <|
  jx_all1 (tl_ldR) <|
  jx_all1 (tl_gI) <|
  jx_all1 (tl_ldI) <|
  jx_all1 (tl_push) <|
  jx_all1 (tl_i2) <|
  jx_all1 (tl_i2) <|
  jx_all1 (tl_vI) <|
  jx_all1 (tl_vI) <|
  jx_all1 (tl_rI) <|
  jx_all0
def mk_64 : List (Nat × List Bool) := []
/-- RoadBench.harder(I)I -/
noncomputable def tb_65 (D : jx_D) : List (Nat × jx_A) := [(0, jx_ldI 1 1), (1, jx_push (vi 1) 2), (2, jx_clt 11 5), (5, jx_ldI 1 6), (6, jx_push (vi 8) 8), (8, jx_cle 17 11), (11, jx_ldR 0 12), (12, jx_push (vi (-1)) 13), (13, jx_vI D 8 0 2 16), (16, jx_rI), (17, jx_ldR 0 18), (18, jx_gR 0 1 (fun _ => 0) 21), (21, jx_gI 1 2 24), (24, jx_eq0 34 27), (27, jx_ldR 0 28), (28, jx_push (vi (-8)) 30), (30, jx_vI D 8 0 2 33), (33, jx_rI), (34, jx_ldR 0 35), (35, jx_gR 0 1 (fun _ => 0) 38), (38, jx_gI 1 0 41), (41, jx_push (vi 2) 42), (42, jx_cge 52 45), (45, jx_ldR 0 46), (46, jx_push (vi (-6)) 48), (48, jx_vI D 8 0 2 51), (51, jx_rI), (52, jx_ldR 0 53), (53, jx_gR 0 14 (fun _ => 0) 56), (56, jx_ldR 0 57), (57, jx_gR 0 1 (fun _ => 0) 60), (60, jx_vV D 38 14 2 63), (63, jx_ldR 0 64), (64, jx_gR 0 19 (fun _ => 0) 67), (67, jx_ldR 0 68), (68, jx_gR 0 14 (fun _ => 0) 71), (71, jx_ldI 1 72), (72, jx_vI D 66 19 3 75), (75, jx_rI)]
set_option maxRecDepth 100000 in
theorem tl_m65 (D : jx_D) : ∀ pc, jx_tl (jx_look (tb_65 D) pc) := jx_tlm <| by
  unfold tb_65
  exact jx_all1 (tl_ldI) <|
  jx_all1 (tl_push) <|
  jx_all1 (tl_clt) <|
  jx_all1 (tl_ldI) <|
  jx_all1 (tl_push) <|
  jx_all1 (tl_cle) <|
  jx_all1 (tl_ldR) <|
  jx_all1 (tl_push) <|
  jx_all1 (tl_vI) <|
  jx_all1 (tl_rI) <|
  jx_all1 (tl_ldR) <|
  jx_all1 (tl_gR) <|
  jx_all1 (tl_gI) <|
  jx_all1 (tl_eq0) <|
  jx_all1 (tl_ldR) <|
  jx_all1 (tl_push) <|
  jx_all1 (tl_vI) <|
  jx_all1 (tl_rI) <|
  jx_all1 (tl_ldR) <|
  jx_all1 (tl_gR) <|
  jx_all1 (tl_gI) <|
  jx_all1 (tl_push) <|
  jx_all1 (tl_cge) <|
  jx_all1 (tl_ldR) <|
  jx_all1 (tl_push) <|
  jx_all1 (tl_vI) <|
  jx_all1 (tl_rI) <|
  jx_all1 (tl_ldR) <|
  jx_all1 (tl_gR) <|
  jx_all1 (tl_ldR) <|
  jx_all1 (tl_gR) <|
  jx_all1 (tl_vV) <|
  jx_all1 (tl_ldR) <|
  jx_all1 (tl_gR) <|
  jx_all1 (tl_ldR) <|
  jx_all1 (tl_gR) <|
  jx_all1 (tl_ldI) <|
  jx_all1 (tl_vI) <|
  jx_all1 (tl_rI) <|
  jx_all0
def mk_65 : List (Nat × List Bool) := [(11, [true, false])]
/-- RoadBench$Hardening.fewestRoads(LRoadBench$Plan;I)I -/
noncomputable def tb_66 (D : jx_D) : List (Nat × jx_A) := [(0, jx_ldR 0 1), (1, jx_gR 19 20 (fun _ => 0) 4), (4, jx_push (vi 0) 5), (5, jx_push (vi 0) 6), (6, jx_iast 7), (7, jx_push (vi 1) 8), (8, jx_stI 3 4 9), (9, jx_ldI 3 10), (10, jx_ldR 1 11), (11, jx_gI 14 3 14), (14, jx_cgt 36 17), (17, jx_ldR 0 18), (18, jx_gR 19 20 (fun _ => 0) 21), (21, jx_ldI 3 22), (22, jx_ldR 0 23), (23, jx_ldR 1 24), (24, jx_ldI 2 25), (25, jx_ldI 3 26), (26, jx_vI D 67 19 4 29), (29, jx_iast 30), (30, jx_incI 3 4 1 33), (33, jx_go 9), (36, jx_ldR 0 37), (37, jx_gR 19 20 (fun _ => 0) 40), (40, jx_ldR 1 41), (41, jx_gI 14 3 44), (44, jx_iald 45), (45, jx_stI 3 4 46), (46, jx_ldI 2 47), (47, jx_push (vi 1) 48), (48, jx_cne 61 51), (51, jx_push (vi 0) 52), (52, jx_ldI 3 53), (53, jx_push (vi 1) 54), (54, jx_i2 (fun x y => x - y) 55), (55, jx_m2 jx_mx 58), (58, jx_go 66), (61, jx_ldI 3 62), (62, jx_push (vi 1) 63), (63, jx_i2 (fun x y => x + y) 64), (64, jx_push (vi 2) 65), (65, jx_dv (fun x y => x / y) 66), (66, jx_rI)]
set_option maxRecDepth 100000 in
theorem tl_m66 (D : jx_D) : ∀ pc, jx_tl (jx_look (tb_66 D) pc) := jx_tlm <| by
  unfold tb_66
  exact jx_all1 (tl_ldR) <|
  jx_all1 (tl_gR) <|
  jx_all1 (tl_push) <|
  jx_all1 (tl_push) <|
  jx_all1 (tl_iast) <|
  jx_all1 (tl_push) <|
  jx_all1 (tl_stI) <|
  jx_all1 (tl_ldI) <|
  jx_all1 (tl_ldR) <|
  jx_all1 (tl_gI) <|
  jx_all1 (tl_cgt) <|
  jx_all1 (tl_ldR) <|
  jx_all1 (tl_gR) <|
  jx_all1 (tl_ldI) <|
  jx_all1 (tl_ldR) <|
  jx_all1 (tl_ldR) <|
  jx_all1 (tl_ldI) <|
  jx_all1 (tl_ldI) <|
  jx_all1 (tl_vI) <|
  jx_all1 (tl_iast) <|
  jx_all1 (tl_incI) <|
  jx_all1 (tl_go) <|
  jx_all1 (tl_ldR) <|
  jx_all1 (tl_gR) <|
  jx_all1 (tl_ldR) <|
  jx_all1 (tl_gI) <|
  jx_all1 (tl_iald) <|
  jx_all1 (tl_stI) <|
  jx_all1 (tl_ldI) <|
  jx_all1 (tl_push) <|
  jx_all1 (tl_cne) <|
  jx_all1 (tl_push) <|
  jx_all1 (tl_ldI) <|
  jx_all1 (tl_push) <|
  jx_all1 (tl_i2) <|
  jx_all1 (tl_m2) <|
  jx_all1 (tl_go) <|
  jx_all1 (tl_ldI) <|
  jx_all1 (tl_push) <|
  jx_all1 (tl_i2) <|
  jx_all1 (tl_push) <|
  jx_all1 (tl_dv) <|
  jx_all1 (tl_rI) <|
  jx_all0
def mk_66 : List (Nat × List Bool) := [(9, [true, true, true, true]), (46, [false, false, true, true]), (66, [false, false, false, false])]
/-- RoadBench$Hardening.mostLacking(LRoadBench$Plan;II)I -/
noncomputable def tb_67 (D : jx_D) : List (Nat × jx_A) := [(0, jx_ldI 3 1), (1, jx_ldI 3 2), (2, jx_i1 (fun x => -x) 3), (3, jx_i2 (fun x y => x &&& y) 4), (4, jx_stI 4 8 6), (6, jx_ldI 3 7), (7, jx_ldI 4 9), (9, jx_i2 (fun x y => x ^^^ y) 10), (10, jx_stI 5 8 12), (12, jx_ldR 0 13), (13, jx_gR 19 20 (fun _ => 0) 16), (16, jx_ldI 5 18), (18, jx_iald 19), (19, jx_push (vi 0) 20), (20, jx_ldR 1 21), (21, jx_ldI 2 22), (22, jx_ldI 4 24), (24, jx_cI D 68 3 27), (27, jx_m2 jx_mx 30), (30, jx_i2 (fun x y => x + y) 31), (31, jx_stI 6 8 33), (33, jx_ldI 5 35), (35, jx_stI 7 8 37), (37, jx_ldI 7 39), (39, jx_le0 94 42), (42, jx_ldI 4 44), (44, jx_ldI 7 46), (46, jx_i2 (fun x y => x ||| y) 47), (47, jx_ldR 1 48), (48, jx_gI 14 3 51), (51, jx_ceq 82 54), (54, jx_ldI 6 56), (56, jx_ldR 1 57), (57, jx_ldI 2 58), (58, jx_ldI 4 60), (60, jx_ldI 7 62), (62, jx_i2 (fun x y => x ||| y) 63), (63, jx_cI D 68 3 66), (66, jx_ldR 0 67), (67, jx_gR 19 20 (fun _ => 0) 70), (70, jx_ldI 5 72), (72, jx_ldI 7 74), (74, jx_i2 (fun x y => x ^^^ y) 75), (75, jx_iald 76), (76, jx_i2 (fun x y => x + y) 77), (77, jx_m2 jx_mx 80), (80, jx_stI 6 8 82), (82, jx_ldI 7 84), (84, jx_push (vi 1) 85), (85, jx_i2 (fun x y => x - y) 86), (86, jx_ldI 5 88), (88, jx_i2 (fun x y => x &&& y) 89), (89, jx_stI 7 8 91), (91, jx_go 37), (94, jx_ldI 6 96), (96, jx_rI)]
set_option maxRecDepth 100000 in
theorem tl_m67 (D : jx_D) : ∀ pc, jx_tl (jx_look (tb_67 D) pc) := jx_tlm <| by
  unfold tb_67
  exact jx_all1 (tl_ldI) <|
  jx_all1 (tl_ldI) <|
  jx_all1 (tl_i1) <|
  jx_all1 (tl_i2) <|
  jx_all1 (tl_stI) <|
  jx_all1 (tl_ldI) <|
  jx_all1 (tl_ldI) <|
  jx_all1 (tl_i2) <|
  jx_all1 (tl_stI) <|
  jx_all1 (tl_ldR) <|
  jx_all1 (tl_gR) <|
  jx_all1 (tl_ldI) <|
  jx_all1 (tl_iald) <|
  jx_all1 (tl_push) <|
  jx_all1 (tl_ldR) <|
  jx_all1 (tl_ldI) <|
  jx_all1 (tl_ldI) <|
  jx_all1 (tl_cI) <|
  jx_all1 (tl_m2) <|
  jx_all1 (tl_i2) <|
  jx_all1 (tl_stI) <|
  jx_all1 (tl_ldI) <|
  jx_all1 (tl_stI) <|
  jx_all1 (tl_ldI) <|
  jx_all1 (tl_le0) <|
  jx_all1 (tl_ldI) <|
  jx_all1 (tl_ldI) <|
  jx_all1 (tl_i2) <|
  jx_all1 (tl_ldR) <|
  jx_all1 (tl_gI) <|
  jx_all1 (tl_ceq) <|
  jx_all1 (tl_ldI) <|
  jx_all1 (tl_ldR) <|
  jx_all1 (tl_ldI) <|
  jx_all1 (tl_ldI) <|
  jx_all1 (tl_ldI) <|
  jx_all1 (tl_i2) <|
  jx_all1 (tl_cI) <|
  jx_all1 (tl_ldR) <|
  jx_all1 (tl_gR) <|
  jx_all1 (tl_ldI) <|
  jx_all1 (tl_ldI) <|
  jx_all1 (tl_i2) <|
  jx_all1 (tl_iald) <|
  jx_all1 (tl_i2) <|
  jx_all1 (tl_m2) <|
  jx_all1 (tl_stI) <|
  jx_all1 (tl_ldI) <|
  jx_all1 (tl_push) <|
  jx_all1 (tl_i2) <|
  jx_all1 (tl_ldI) <|
  jx_all1 (tl_i2) <|
  jx_all1 (tl_stI) <|
  jx_all1 (tl_go) <|
  jx_all1 (tl_ldI) <|
  jx_all1 (tl_rI) <|
  jx_all0
def mk_67 : List (Nat × List Bool) := [(6, [true, true, true, true, true, false, false, false]), (12, [true, true, true, false, true, true, false, false]), (33, [true, true, true, false, true, true, true, false]), (37, [true, true, true, false, true, true, true, true]), (82, [true, true, true, false, true, true, true, true]), (91, [true, true, true, false, true, true, true, true])]
/-- RoadBench$Hardening.lack(LRoadBench$Plan;II)I -/
noncomputable def tb_68 (D : jx_D) : List (Nat × jx_A) := [(0, jx_ldI 1 1), (1, jx_ldR 0 2), (2, jx_gR 14 18 (fun _ => 0) 5), (5, jx_ldI 2 6), (6, jx_iald 7), (7, jx_cI D 1 1 10), (10, jx_i2 (fun x y => x - y) 11), (11, jx_rI)]
set_option maxRecDepth 100000 in
theorem tl_m68 (D : jx_D) : ∀ pc, jx_tl (jx_look (tb_68 D) pc) := jx_tlm <| by
  unfold tb_68
  exact jx_all1 (tl_ldI) <|
  jx_all1 (tl_ldR) <|
  jx_all1 (tl_gR) <|
  jx_all1 (tl_ldI) <|
  jx_all1 (tl_iald) <|
  jx_all1 (tl_cI) <|
  jx_all1 (tl_i2) <|
  jx_all1 (tl_rI) <|
  jx_all0
def mk_68 : List (Nat × List Bool) := []
/-- RoadBench.best(I)I -/
noncomputable def tb_69 (D : jx_D) : List (Nat × jx_A) := [(0, jx_ldI 1 1), (1, jx_push (vi 1) 2), (2, jx_clt 11 5), (5, jx_ldI 1 6), (6, jx_push (vi 8) 8), (8, jx_cle 17 11), (11, jx_ldR 0 12), (12, jx_push (vi (-1)) 13), (13, jx_vI D 8 0 2 16), (16, jx_rI), (17, jx_ldR 0 18), (18, jx_gR 0 1 (fun _ => 0) 21), (21, jx_gI 1 1 24), (24, jx_push (vi 12) 26), (26, jx_cle 36 29), (29, jx_ldR 0 30), (30, jx_push (vi (-7)) 32), (32, jx_vI D 8 0 2 35), (35, jx_rI), (36, jx_ldR 0 37), (37, jx_gR 0 14 (fun _ => 0) 40), (40, jx_ldR 0 41), (41, jx_gR 0 1 (fun _ => 0) 44), (44, jx_vV D 38 14 2 47), (47, jx_ldR 0 48), (48, jx_gR 0 14 (fun _ => 0) 51), (51, jx_ldR 0 52), (52, jx_gR 0 14 (fun _ => 0) 55), (55, jx_gI 14 4 58), (58, jx_ldI 1 59), (59, jx_vI D 70 14 3 62), (62, jx_ne0 72 65), (65, jx_ldR 0 66), (66, jx_push (vi (-6)) 68), (68, jx_vI D 8 0 2 71), (71, jx_rI), (72, jx_ldR 0 73), (73, jx_gR 0 21 (fun _ => 0) 76), (76, jx_ldR 0 77), (77, jx_gR 0 14 (fun _ => 0) 80), (80, jx_ldR 0 81), (81, jx_gR 0 1 (fun _ => 0) 84), (84, jx_ldI 1 85), (85, jx_vI D 71 21 4 88), (88, jx_rI)]
set_option maxRecDepth 100000 in
theorem tl_m69 (D : jx_D) : ∀ pc, jx_tl (jx_look (tb_69 D) pc) := jx_tlm <| by
  unfold tb_69
  exact jx_all1 (tl_ldI) <|
  jx_all1 (tl_push) <|
  jx_all1 (tl_clt) <|
  jx_all1 (tl_ldI) <|
  jx_all1 (tl_push) <|
  jx_all1 (tl_cle) <|
  jx_all1 (tl_ldR) <|
  jx_all1 (tl_push) <|
  jx_all1 (tl_vI) <|
  jx_all1 (tl_rI) <|
  jx_all1 (tl_ldR) <|
  jx_all1 (tl_gR) <|
  jx_all1 (tl_gI) <|
  jx_all1 (tl_push) <|
  jx_all1 (tl_cle) <|
  jx_all1 (tl_ldR) <|
  jx_all1 (tl_push) <|
  jx_all1 (tl_vI) <|
  jx_all1 (tl_rI) <|
  jx_all1 (tl_ldR) <|
  jx_all1 (tl_gR) <|
  jx_all1 (tl_ldR) <|
  jx_all1 (tl_gR) <|
  jx_all1 (tl_vV) <|
  jx_all1 (tl_ldR) <|
  jx_all1 (tl_gR) <|
  jx_all1 (tl_ldR) <|
  jx_all1 (tl_gR) <|
  jx_all1 (tl_gI) <|
  jx_all1 (tl_ldI) <|
  jx_all1 (tl_vI) <|
  jx_all1 (tl_ne0) <|
  jx_all1 (tl_ldR) <|
  jx_all1 (tl_push) <|
  jx_all1 (tl_vI) <|
  jx_all1 (tl_rI) <|
  jx_all1 (tl_ldR) <|
  jx_all1 (tl_gR) <|
  jx_all1 (tl_ldR) <|
  jx_all1 (tl_gR) <|
  jx_all1 (tl_ldR) <|
  jx_all1 (tl_gR) <|
  jx_all1 (tl_ldI) <|
  jx_all1 (tl_vI) <|
  jx_all1 (tl_rI) <|
  jx_all0
def mk_69 : List (Nat × List Bool) := [(11, [true, false])]
/-- RoadBench$Plan.isHard(II)Z -/
noncomputable def tb_70 (D : jx_D) : List (Nat × jx_A) := [(0, jx_push (vi 1) 1), (1, jx_stI 3 4 2), (2, jx_ldI 3 3), (3, jx_ldR 0 4), (4, jx_gI 14 5 7), (7, jx_cge 38 10), (10, jx_ldR 0 11), (11, jx_gR 14 18 (fun _ => 0) 14), (14, jx_ldI 3 15), (15, jx_ldR 0 16), (16, jx_gI 14 6 19), (19, jx_i2 (fun x y => x <<< (y &&& 31)) 20), (20, jx_iald 21), (21, jx_ldI 1 22), (22, jx_i2 (fun x y => x &&& y) 23), (23, jx_cI D 1 1 26), (26, jx_ldI 2 27), (27, jx_cge 32 30), (30, jx_push (vi 0) 31), (31, jx_rZ), (32, jx_incI 3 4 1 35), (35, jx_go 2), (38, jx_ldR 0 39), (39, jx_gI 14 0 42), (42, jx_push (vi 1) 43), (43, jx_cle 50 46), (46, jx_push (vi 1) 47), (47, jx_go 51), (50, jx_push (vi 0) 51), (51, jx_rZ)]
set_option maxRecDepth 100000 in
theorem tl_m70 (D : jx_D) : ∀ pc, jx_tl (jx_look (tb_70 D) pc) := jx_tlm <| by
  unfold tb_70
  exact jx_all1 (tl_push) <|
  jx_all1 (tl_stI) <|
  jx_all1 (tl_ldI) <|
  jx_all1 (tl_ldR) <|
  jx_all1 (tl_gI) <|
  jx_all1 (tl_cge) <|
  jx_all1 (tl_ldR) <|
  jx_all1 (tl_gR) <|
  jx_all1 (tl_ldI) <|
  jx_all1 (tl_ldR) <|
  jx_all1 (tl_gI) <|
  jx_all1 (tl_i2) <|
  jx_all1 (tl_iald) <|
  jx_all1 (tl_ldI) <|
  jx_all1 (tl_i2) <|
  jx_all1 (tl_cI) <|
  jx_all1 (tl_ldI) <|
  jx_all1 (tl_cge) <|
  jx_all1 (tl_push) <|
  jx_all1 (tl_rZ) <|
  jx_all1 (tl_incI) <|
  jx_all1 (tl_go) <|
  jx_all1 (tl_ldR) <|
  jx_all1 (tl_gI) <|
  jx_all1 (tl_push) <|
  jx_all1 (tl_cle) <|
  jx_all1 (tl_push) <|
  jx_all1 (tl_go) <|
  jx_all1 (tl_push) <|
  jx_all1 (tl_rZ) <|
  jx_all0
def mk_70 : List (Nat × List Bool) := [(2, [true, true, true, true]), (51, [false, false, false, false])]
/-- RoadBench$Cheapest.find(LRoadBench$Plan;LRoadBench$Net;I)I -/
noncomputable def tb_71 (D : jx_D) : List (Nat × jx_A) := [(0, jx_ldR 0 1), (1, jx_ldR 1 2), (2, jx_pM 21 0 14 0 5), (5, jx_ldR 0 6), (6, jx_ldR 2 7), (7, jx_pM 21 1 1 0 10), (10, jx_ldR 0 11), (11, jx_ldI 3 12), (12, jx_pI 21 2 15), (15, jx_ldR 0 16), (16, jx_push (vi 20001) 19), (19, jx_pI 21 3 22), (22, jx_ldR 0 23), (23, jx_push (vi 0) 24), (24, jx_pI 21 4 27), (27, jx_ldR 0 28), (28, jx_ldR 0 29), (29, jx_gM 21 1 1 0 32), (32, jx_gI 1 1 35), (35, jx_push (vi 1) 36), (36, jx_i2 (fun x y => x - y) 37), (37, jx_push (vi 0) 38), (38, jx_push (vi 0) 39), (39, jx_vV D 72 21 4 42), (42, jx_ldR 0 43), (43, jx_gI 21 4 46), (46, jx_rI)]
set_option maxRecDepth 100000 in
theorem tl_m71 (D : jx_D) : ∀ pc, jx_tl (jx_look (tb_71 D) pc) := jx_tlm <| by
  unfold tb_71
  exact jx_all1 (tl_ldR) <|
  jx_all1 (tl_ldR) <|
  jx_all1 (tl_pM) <|
  jx_all1 (tl_ldR) <|
  jx_all1 (tl_ldR) <|
  jx_all1 (tl_pM) <|
  jx_all1 (tl_ldR) <|
  jx_all1 (tl_ldI) <|
  jx_all1 (tl_pI) <|
  jx_all1 (tl_ldR) <|
  jx_all1 (tl_push) <|
  jx_all1 (tl_pI) <|
  jx_all1 (tl_ldR) <|
  jx_all1 (tl_push) <|
  jx_all1 (tl_pI) <|
  jx_all1 (tl_ldR) <|
  jx_all1 (tl_ldR) <|
  jx_all1 (tl_gM) <|
  jx_all1 (tl_gI) <|
  jx_all1 (tl_push) <|
  jx_all1 (tl_i2) <|
  jx_all1 (tl_push) <|
  jx_all1 (tl_push) <|
  jx_all1 (tl_vV) <|
  jx_all1 (tl_ldR) <|
  jx_all1 (tl_gI) <|
  jx_all1 (tl_rI) <|
  jx_all0
def mk_71 : List (Nat × List Bool) := []
/-- RoadBench$Cheapest.search(III)V -/
noncomputable def tb_72 (D : jx_D) : List (Nat × jx_A) := [(0, jx_ldI 3 1), (1, jx_ldR 0 2), (2, jx_gI 21 3 5), (5, jx_clt 9 8), (8, jx_rV), (9, jx_ldI 1 10), (10, jx_ge0 24 13), (13, jx_ldR 0 14), (14, jx_ldI 3 15), (15, jx_pI 21 3 18), (18, jx_ldR 0 19), (19, jx_ldI 2 20), (20, jx_pI 21 4 23), (23, jx_rV), (24, jx_ldR 0 25), (25, jx_gM 21 0 14 0 28), (28, jx_ldI 2 29), (29, jx_ldI 1 30), (30, jx_cI D 17 1 33), (33, jx_i2 (fun x y => x ||| y) 34), (34, jx_ldR 0 35), (35, jx_gI 21 2 38), (38, jx_vI D 70 14 3 41), (41, jx_eq0 53 44), (44, jx_ldR 0 45), (45, jx_ldI 1 46), (46, jx_push (vi 1) 47), (47, jx_i2 (fun x y => x - y) 48), (48, jx_ldI 2 49), (49, jx_ldI 3 50), (50, jx_vV D 72 21 4 53), (53, jx_ldR 0 54), (54, jx_ldI 1 55), (55, jx_push (vi 1) 56), (56, jx_i2 (fun x y => x - y) 57), (57, jx_ldI 2 58), (58, jx_push (vi 1) 59), (59, jx_ldI 1 60), (60, jx_i2 (fun x y => x <<< (y &&& 31)) 61), (61, jx_i2 (fun x y => x ||| y) 62), (62, jx_ldI 3 63), (63, jx_ldR 0 64), (64, jx_gM 21 1 1 0 67), (67, jx_gR 1 4 (fun i => i) 70), (70, jx_ldI 1 71), (71, jx_iald 72), (72, jx_i2 (fun x y => x + y) 73), (73, jx_vV D 72 21 4 76), (76, jx_rV)]
set_option maxRecDepth 100000 in
theorem tl_m72 (D : jx_D) : ∀ pc, jx_tl (jx_look (tb_72 D) pc) := jx_tlm <| by
  unfold tb_72
  exact jx_all1 (tl_ldI) <|
  jx_all1 (tl_ldR) <|
  jx_all1 (tl_gI) <|
  jx_all1 (tl_clt) <|
  jx_all1 (tl_rV) <|
  jx_all1 (tl_ldI) <|
  jx_all1 (tl_ge0) <|
  jx_all1 (tl_ldR) <|
  jx_all1 (tl_ldI) <|
  jx_all1 (tl_pI) <|
  jx_all1 (tl_ldR) <|
  jx_all1 (tl_ldI) <|
  jx_all1 (tl_pI) <|
  jx_all1 (tl_rV) <|
  jx_all1 (tl_ldR) <|
  jx_all1 (tl_gM) <|
  jx_all1 (tl_ldI) <|
  jx_all1 (tl_ldI) <|
  jx_all1 (tl_cI) <|
  jx_all1 (tl_i2) <|
  jx_all1 (tl_ldR) <|
  jx_all1 (tl_gI) <|
  jx_all1 (tl_vI) <|
  jx_all1 (tl_eq0) <|
  jx_all1 (tl_ldR) <|
  jx_all1 (tl_ldI) <|
  jx_all1 (tl_push) <|
  jx_all1 (tl_i2) <|
  jx_all1 (tl_ldI) <|
  jx_all1 (tl_ldI) <|
  jx_all1 (tl_vV) <|
  jx_all1 (tl_ldR) <|
  jx_all1 (tl_ldI) <|
  jx_all1 (tl_push) <|
  jx_all1 (tl_i2) <|
  jx_all1 (tl_ldI) <|
  jx_all1 (tl_push) <|
  jx_all1 (tl_ldI) <|
  jx_all1 (tl_i2) <|
  jx_all1 (tl_i2) <|
  jx_all1 (tl_ldI) <|
  jx_all1 (tl_ldR) <|
  jx_all1 (tl_gM) <|
  jx_all1 (tl_gR) <|
  jx_all1 (tl_ldI) <|
  jx_all1 (tl_iald) <|
  jx_all1 (tl_i2) <|
  jx_all1 (tl_vV) <|
  jx_all1 (tl_rV) <|
  jx_all0
def mk_72 : List (Nat × List Bool) := [(53, [true, true, true, true])]
/-- RoadBench.take()I -/
noncomputable def tb_73 (D : jx_D) : List (Nat × jx_A) := [(0, jx_ldR 0 1), (1, jx_gR 0 6 (fun _ => 0) 4), (4, jx_ldR 0 5), (5, jx_gR 0 1 (fun _ => 0) 8), (8, jx_vV D 4 6 2 11), (11, jx_ldR 0 12), (12, jx_gR 0 14 (fun _ => 0) 15), (15, jx_ldR 0 16), (16, jx_gR 0 1 (fun _ => 0) 19), (19, jx_vV D 38 14 2 22), (22, jx_ldR 0 23), (23, jx_gR 0 14 (fun _ => 0) 26), (26, jx_ldR 0 27), (27, jx_gR 0 14 (fun _ => 0) 30), (30, jx_gI 14 4 33), (33, jx_vI D 44 14 2 36), (36, jx_stI 1 6 37), (37, jx_ldR 0 38), (38, jx_gR 0 1 (fun _ => 0) 41), (41, jx_gI 1 1 44), (44, jx_stI 2 6 45), (45, jx_ldR 0 46), (46, jx_gR 0 14 (fun _ => 0) 49), (49, jx_gI 14 4 52), (52, jx_stI 3 6 53), (53, jx_push (vi 0) 54), (54, jx_stI 4 6 56), (56, jx_ldI 4 58), (58, jx_ldI 2 59), (59, jx_cge 94 62), (62, jx_ldI 3 63), (63, jx_push (vi 1) 64), (64, jx_ldI 4 66), (66, jx_i2 (fun x y => x <<< (y &&& 31)) 67), (67, jx_push (vi (-1)) 68), (68, jx_i2 (fun x y => x ^^^ y) 69), (69, jx_i2 (fun x y => x &&& y) 70), (70, jx_stI 5 6 72), (72, jx_ldR 0 73), (73, jx_gR 0 14 (fun _ => 0) 76), (76, jx_ldI 5 78), (78, jx_vI D 44 14 2 81), (81, jx_ldI 1 82), (82, jx_cne 88 85), (85, jx_ldI 5 87), (87, jx_stI 3 6 88), (88, jx_incI 4 6 1 91), (91, jx_go 56), (94, jx_ldR 0 95), (95, jx_gR 0 1 (fun _ => 0) 98), (98, jx_ldI 3 99), (99, jx_vV D 18 1 2 102), (102, jx_ldI 2 103), (103, jx_ldR 0 104), (104, jx_gR 0 1 (fun _ => 0) 107), (107, jx_gI 1 1 110), (110, jx_i2 (fun x y => x - y) 111), (111, jx_rI)]
set_option maxRecDepth 100000 in
theorem tl_m73 (D : jx_D) : ∀ pc, jx_tl (jx_look (tb_73 D) pc) := jx_tlm <| by
  unfold tb_73
  exact jx_all1 (tl_ldR) <|
  jx_all1 (tl_gR) <|
  jx_all1 (tl_ldR) <|
  jx_all1 (tl_gR) <|
  jx_all1 (tl_vV) <|
  jx_all1 (tl_ldR) <|
  jx_all1 (tl_gR) <|
  jx_all1 (tl_ldR) <|
  jx_all1 (tl_gR) <|
  jx_all1 (tl_vV) <|
  jx_all1 (tl_ldR) <|
  jx_all1 (tl_gR) <|
  jx_all1 (tl_ldR) <|
  jx_all1 (tl_gR) <|
  jx_all1 (tl_gI) <|
  jx_all1 (tl_vI) <|
  jx_all1 (tl_stI) <|
  jx_all1 (tl_ldR) <|
  jx_all1 (tl_gR) <|
  jx_all1 (tl_gI) <|
  jx_all1 (tl_stI) <|
  jx_all1 (tl_ldR) <|
  jx_all1 (tl_gR) <|
  jx_all1 (tl_gI) <|
  jx_all1 (tl_stI) <|
  jx_all1 (tl_push) <|
  jx_all1 (tl_stI) <|
  jx_all1 (tl_ldI) <|
  jx_all1 (tl_ldI) <|
  jx_all1 (tl_cge) <|
  jx_all1 (tl_ldI) <|
  jx_all1 (tl_push) <|
  jx_all1 (tl_ldI) <|
  jx_all1 (tl_i2) <|
  jx_all1 (tl_push) <|
  jx_all1 (tl_i2) <|
  jx_all1 (tl_i2) <|
  jx_all1 (tl_stI) <|
  jx_all1 (tl_ldR) <|
  jx_all1 (tl_gR) <|
  jx_all1 (tl_ldI) <|
  jx_all1 (tl_vI) <|
  jx_all1 (tl_ldI) <|
  jx_all1 (tl_cne) <|
  jx_all1 (tl_ldI) <|
  jx_all1 (tl_stI) <|
  jx_all1 (tl_incI) <|
  jx_all1 (tl_go) <|
  jx_all1 (tl_ldR) <|
  jx_all1 (tl_gR) <|
  jx_all1 (tl_ldI) <|
  jx_all1 (tl_vV) <|
  jx_all1 (tl_ldI) <|
  jx_all1 (tl_ldR) <|
  jx_all1 (tl_gR) <|
  jx_all1 (tl_gI) <|
  jx_all1 (tl_i2) <|
  jx_all1 (tl_rI) <|
  jx_all0
def mk_73 : List (Nat × List Bool) := [(56, [true, true, true, true, true, false]), (72, [true, true, true, true, true, true]), (88, [true, true, true, true, true, false])]
/-- RoadBench.pack()I -/
noncomputable def tb_74 (D : jx_D) : List (Nat × jx_A) := [(0, jx_ldR 0 1), (1, jx_gR 0 1 (fun _ => 0) 4), (4, jx_gI 1 2 7), (7, jx_eq0 17 10), (10, jx_ldR 0 11), (11, jx_push (vi (-8)) 13), (13, jx_vI D 8 0 2 16), (16, jx_rI), (17, jx_ldR 0 18), (18, jx_gR 0 14 (fun _ => 0) 21), (21, jx_ldR 0 22), (22, jx_gR 0 1 (fun _ => 0) 25), (25, jx_vV D 38 14 2 28), (28, jx_ldR 0 29), (29, jx_gR 0 22 (fun _ => 0) 32), (32, jx_ldR 0 33), (33, jx_gR 0 14 (fun _ => 0) 36), (36, jx_vI D 75 22 2 39), (39, jx_rI)]
set_option maxRecDepth 100000 in
theorem tl_m74 (D : jx_D) : ∀ pc, jx_tl (jx_look (tb_74 D) pc) := jx_tlm <| by
  unfold tb_74
  exact jx_all1 (tl_ldR) <|
  jx_all1 (tl_gR) <|
  jx_all1 (tl_gI) <|
  jx_all1 (tl_eq0) <|
  jx_all1 (tl_ldR) <|
  jx_all1 (tl_push) <|
  jx_all1 (tl_vI) <|
  jx_all1 (tl_rI) <|
  jx_all1 (tl_ldR) <|
  jx_all1 (tl_gR) <|
  jx_all1 (tl_ldR) <|
  jx_all1 (tl_gR) <|
  jx_all1 (tl_vV) <|
  jx_all1 (tl_ldR) <|
  jx_all1 (tl_gR) <|
  jx_all1 (tl_ldR) <|
  jx_all1 (tl_gR) <|
  jx_all1 (tl_vI) <|
  jx_all1 (tl_rI) <|
  jx_all0
def mk_74 : List (Nat × List Bool) := []
/-- RoadBench$Packing.mostTrees(LRoadBench$Plan;)I -/
noncomputable def tb_75 (D : jx_D) : List (Nat × jx_A) := [(0, jx_ldR 1 1), (1, jx_gI 14 0 4), (4, jx_push (vi 2) 5), (5, jx_cge 10 8), (8, jx_push (vi 0) 9), (9, jx_rI), (10, jx_ldR 0 11), (11, jx_ldR 1 12), (12, jx_pM 22 0 14 0 15), (15, jx_ldR 0 16), (16, jx_ldR 0 17), (17, jx_gM 22 0 14 0 20), (20, jx_gI 14 1 23), (23, jx_pI 22 1 26), (26, jx_ldR 0 27), (27, jx_push (vi 0) 28), (28, jx_push (vi 0) 29), (29, jx_push (vi 0) 30), (30, jx_vV D 76 22 4 33), (33, jx_ldR 0 34), (34, jx_gI 22 1 37), (37, jx_rI)]
set_option maxRecDepth 100000 in
theorem tl_m75 (D : jx_D) : ∀ pc, jx_tl (jx_look (tb_75 D) pc) := jx_tlm <| by
  unfold tb_75
  exact jx_all1 (tl_ldR) <|
  jx_all1 (tl_gI) <|
  jx_all1 (tl_push) <|
  jx_all1 (tl_cge) <|
  jx_all1 (tl_push) <|
  jx_all1 (tl_rI) <|
  jx_all1 (tl_ldR) <|
  jx_all1 (tl_ldR) <|
  jx_all1 (tl_pM) <|
  jx_all1 (tl_ldR) <|
  jx_all1 (tl_ldR) <|
  jx_all1 (tl_gM) <|
  jx_all1 (tl_gI) <|
  jx_all1 (tl_pI) <|
  jx_all1 (tl_ldR) <|
  jx_all1 (tl_push) <|
  jx_all1 (tl_push) <|
  jx_all1 (tl_push) <|
  jx_all1 (tl_vV) <|
  jx_all1 (tl_ldR) <|
  jx_all1 (tl_gI) <|
  jx_all1 (tl_rI) <|
  jx_all0
def mk_75 : List (Nat × List Bool) := []
/-- RoadBench$Packing.part(III)V -/
noncomputable def tb_76 (D : jx_D) : List (Nat × jx_A) := [(0, jx_ldI 2 1), (1, jx_ldR 0 2), (2, jx_gM 22 0 14 0 5), (5, jx_gI 14 0 8), (8, jx_i2 (fun x y => x + y) 9), (9, jx_ldI 1 10), (10, jx_i2 (fun x y => x - y) 11), (11, jx_stI 4 10 13), (13, jx_ldI 4 15), (15, jx_push (vi 2) 16), (16, jx_clt 32 19), (19, jx_ldI 3 20), (20, jx_ldI 4 22), (22, jx_push (vi 1) 23), (23, jx_i2 (fun x y => x - y) 24), (24, jx_dv (fun x y => x / y) 25), (25, jx_ldR 0 26), (26, jx_gI 22 1 29), (29, jx_clt 33 32), (32, jx_rV), (33, jx_ldI 1 34), (34, jx_ldR 0 35), (35, jx_gM 22 0 14 0 38), (38, jx_gI 14 0 41), (41, jx_clt 54 44), (44, jx_ldR 0 45), (45, jx_ldI 3 46), (46, jx_ldI 2 47), (47, jx_push (vi 1) 48), (48, jx_i2 (fun x y => x - y) 49), (49, jx_dv (fun x y => x / y) 50), (50, jx_pI 22 1 53), (53, jx_rV), (54, jx_ldI 1 55), (55, jx_cI D 17 1 58), (58, jx_stI 5 10 60), (60, jx_push (vi 0) 61), (61, jx_stI 6 10 63), (63, jx_ldI 6 65), (65, jx_ldI 2 66), (66, jx_cgt 180 69), (69, jx_ldI 6 71), (71, jx_push (vi 8) 73), (73, jx_cge 180 76), (76, jx_ldI 6 78), (78, jx_ldI 2 79), (79, jx_cne 86 82), (82, jx_push (vi 1) 83), (83, jx_go 87), (86, jx_push (vi 0) 87), (87, jx_stI 7 10 89), (89, jx_ldI 7 91), (91, jx_eq0 98 94), (94, jx_push (vi 0) 95), (95, jx_go 105), (98, jx_ldR 0 99), (99, jx_gR 22 23 (fun _ => 0) 102), (102, jx_ldI 6 104), (104, jx_iald 105), (105, jx_stI 8 10 107), (107, jx_ldR 0 108), (108, jx_gM 22 0 14 0 111), (111, jx_push (vi 1) 112), (112, jx_ldI 1 113), (113, jx_i2 (fun x y => x <<< (y &&& 31)) 114), (114, jx_ldI 5 116), (116, jx_ldI 8 118), (118, jx_push (vi (-1)) 119), (119, jx_i2 (fun x y => x ^^^ y) 120), (120, jx_i2 (fun x y => x &&& y) 121), (121, jx_vI D 50 14 3 124), (124, jx_cI D 1 1 127), (127, jx_stI 9 10 129), (129, jx_ldR 0 130), (130, jx_gR 22 23 (fun _ => 0) 133), (133, jx_ldI 6 135), (135, jx_ldI 8 137), (137, jx_push (vi 1) 138), (138, jx_ldI 1 139), (139, jx_i2 (fun x y => x <<< (y &&& 31)) 140), (140, jx_i2 (fun x y => x ||| y) 141), (141, jx_iast 142), (142, jx_ldR 0 143), (143, jx_ldI 1 144), (144, jx_push (vi 1) 145), (145, jx_i2 (fun x y => x + y) 146), (146, jx_ldI 7 148), (148, jx_eq0 157 151), (151, jx_ldI 2 152), (152, jx_push (vi 1) 153), (153, jx_i2 (fun x y => x + y) 154), (154, jx_go 158), (157, jx_ldI 2 158), (158, jx_ldI 3 159), (159, jx_ldI 9 161), (161, jx_i2 (fun x y => x + y) 162), (162, jx_vV D 76 22 4 165), (165, jx_ldR 0 166), (166, jx_gR 22 23 (fun _ => 0) 169), (169, jx_ldI 6 171), (171, jx_ldI 8 173), (173, jx_iast 174), (174, jx_incI 6 10 1 177), (177, jx_go 63), (180, jx_rV)]
set_option maxRecDepth 100000 in
theorem tl_m76 (D : jx_D) : ∀ pc, jx_tl (jx_look (tb_76 D) pc) := jx_tlm <| by
  unfold tb_76
  exact jx_all1 (tl_ldI) <|
  jx_all1 (tl_ldR) <|
  jx_all1 (tl_gM) <|
  jx_all1 (tl_gI) <|
  jx_all1 (tl_i2) <|
  jx_all1 (tl_ldI) <|
  jx_all1 (tl_i2) <|
  jx_all1 (tl_stI) <|
  jx_all1 (tl_ldI) <|
  jx_all1 (tl_push) <|
  jx_all1 (tl_clt) <|
  jx_all1 (tl_ldI) <|
  jx_all1 (tl_ldI) <|
  jx_all1 (tl_push) <|
  jx_all1 (tl_i2) <|
  jx_all1 (tl_dv) <|
  jx_all1 (tl_ldR) <|
  jx_all1 (tl_gI) <|
  jx_all1 (tl_clt) <|
  jx_all1 (tl_rV) <|
  jx_all1 (tl_ldI) <|
  jx_all1 (tl_ldR) <|
  jx_all1 (tl_gM) <|
  jx_all1 (tl_gI) <|
  jx_all1 (tl_clt) <|
  jx_all1 (tl_ldR) <|
  jx_all1 (tl_ldI) <|
  jx_all1 (tl_ldI) <|
  jx_all1 (tl_push) <|
  jx_all1 (tl_i2) <|
  jx_all1 (tl_dv) <|
  jx_all1 (tl_pI) <|
  jx_all1 (tl_rV) <|
  jx_all1 (tl_ldI) <|
  jx_all1 (tl_cI) <|
  jx_all1 (tl_stI) <|
  jx_all1 (tl_push) <|
  jx_all1 (tl_stI) <|
  jx_all1 (tl_ldI) <|
  jx_all1 (tl_ldI) <|
  jx_all1 (tl_cgt) <|
  jx_all1 (tl_ldI) <|
  jx_all1 (tl_push) <|
  jx_all1 (tl_cge) <|
  jx_all1 (tl_ldI) <|
  jx_all1 (tl_ldI) <|
  jx_all1 (tl_cne) <|
  jx_all1 (tl_push) <|
  jx_all1 (tl_go) <|
  jx_all1 (tl_push) <|
  jx_all1 (tl_stI) <|
  jx_all1 (tl_ldI) <|
  jx_all1 (tl_eq0) <|
  jx_all1 (tl_push) <|
  jx_all1 (tl_go) <|
  jx_all1 (tl_ldR) <|
  jx_all1 (tl_gR) <|
  jx_all1 (tl_ldI) <|
  jx_all1 (tl_iald) <|
  jx_all1 (tl_stI) <|
  jx_all1 (tl_ldR) <|
  jx_all1 (tl_gM) <|
  jx_all1 (tl_push) <|
  jx_all1 (tl_ldI) <|
  jx_all1 (tl_i2) <|
  jx_all1 (tl_ldI) <|
  jx_all1 (tl_ldI) <|
  jx_all1 (tl_push) <|
  jx_all1 (tl_i2) <|
  jx_all1 (tl_i2) <|
  jx_all1 (tl_vI) <|
  jx_all1 (tl_cI) <|
  jx_all1 (tl_stI) <|
  jx_all1 (tl_ldR) <|
  jx_all1 (tl_gR) <|
  jx_all1 (tl_ldI) <|
  jx_all1 (tl_ldI) <|
  jx_all1 (tl_push) <|
  jx_all1 (tl_ldI) <|
  jx_all1 (tl_i2) <|
  jx_all1 (tl_i2) <|
  jx_all1 (tl_iast) <|
  jx_all1 (tl_ldR) <|
  jx_all1 (tl_ldI) <|
  jx_all1 (tl_push) <|
  jx_all1 (tl_i2) <|
  jx_all1 (tl_ldI) <|
  jx_all1 (tl_eq0) <|
  jx_all1 (tl_ldI) <|
  jx_all1 (tl_push) <|
  jx_all1 (tl_i2) <|
  jx_all1 (tl_go) <|
  jx_all1 (tl_ldI) <|
  jx_all1 (tl_ldI) <|
  jx_all1 (tl_ldI) <|
  jx_all1 (tl_i2) <|
  jx_all1 (tl_vV) <|
  jx_all1 (tl_ldR) <|
  jx_all1 (tl_gR) <|
  jx_all1 (tl_ldI) <|
  jx_all1 (tl_ldI) <|
  jx_all1 (tl_iast) <|
  jx_all1 (tl_incI) <|
  jx_all1 (tl_go) <|
  jx_all1 (tl_rV) <|
  jx_all0
def mk_76 : List (Nat × List Bool) := [(13, [true, true, true, true, true, false, false, false, false, false]), (32, [false, false, false, false, false, false, false, false, false, false]), (63, [true, true, true, true, false, true, true, false, false, false]), (87, [true, true, true, true, false, true, true, false, false, false]), (105, [true, true, true, true, false, true, true, true, false, false]), (107, [true, true, true, true, false, true, true, true, true, false]), (158, [true, true, true, true, false, true, true, false, true, true]), (180, [false, false, false, false, false, false, false, false, false, false])]
/-- RoadBench.forests()I -/
noncomputable def tb_77 (D : jx_D) : List (Nat × jx_A) := [(0, jx_ldR 0 1), (1, jx_gR 0 1 (fun _ => 0) 4), (4, jx_gI 1 2 7), (7, jx_eq0 17 10), (10, jx_ldR 0 11), (11, jx_push (vi (-8)) 13), (13, jx_vI D 8 0 2 16), (16, jx_rI), (17, jx_ldR 0 18), (18, jx_gR 0 14 (fun _ => 0) 21), (21, jx_ldR 0 22), (22, jx_gR 0 1 (fun _ => 0) 25), (25, jx_vV D 38 14 2 28), (28, jx_ldR 0 29), (29, jx_gR 0 22 (fun _ => 0) 32), (32, jx_ldR 0 33), (33, jx_gR 0 14 (fun _ => 0) 36), (36, jx_vI D 78 22 2 39), (39, jx_rI)]
set_option maxRecDepth 100000 in
theorem tl_m77 (D : jx_D) : ∀ pc, jx_tl (jx_look (tb_77 D) pc) := jx_tlm <| by
  unfold tb_77
  exact jx_all1 (tl_ldR) <|
  jx_all1 (tl_gR) <|
  jx_all1 (tl_gI) <|
  jx_all1 (tl_eq0) <|
  jx_all1 (tl_ldR) <|
  jx_all1 (tl_push) <|
  jx_all1 (tl_vI) <|
  jx_all1 (tl_rI) <|
  jx_all1 (tl_ldR) <|
  jx_all1 (tl_gR) <|
  jx_all1 (tl_ldR) <|
  jx_all1 (tl_gR) <|
  jx_all1 (tl_vV) <|
  jx_all1 (tl_ldR) <|
  jx_all1 (tl_gR) <|
  jx_all1 (tl_ldR) <|
  jx_all1 (tl_gR) <|
  jx_all1 (tl_vI) <|
  jx_all1 (tl_rI) <|
  jx_all0
def mk_77 : List (Nat × List Bool) := []
/-- RoadBench$Packing.fewestForests(LRoadBench$Plan;)I -/
noncomputable def tb_78 (D : jx_D) : List (Nat × jx_A) := [(0, jx_push (vi 0) 1), (1, jx_stI 2 6 2), (2, jx_push (vi 1) 3), (3, jx_stI 3 6 4), (4, jx_ldI 3 5), (5, jx_ldR 1 6), (6, jx_gI 14 3 9), (9, jx_cgt 64 12), (12, jx_ldI 3 13), (13, jx_cI D 1 1 16), (16, jx_push (vi 1) 17), (17, jx_i2 (fun x y => x - y) 18), (18, jx_stI 4 6 20), (20, jx_ldI 4 22), (22, jx_le0 58 25), (25, jx_ldR 1 26), (26, jx_gR 14 15 (fun _ => 0) 29), (29, jx_ldI 3 30), (30, jx_iald 31), (31, jx_ldR 1 32), (32, jx_gR 14 16 (fun _ => 0) 35), (35, jx_ldI 3 36), (36, jx_iald 37), (37, jx_i2 (fun x y => x &&& y) 38), (38, jx_cI D 1 1 41), (41, jx_stI 5 6 43), (43, jx_ldI 2 44), (44, jx_ldI 5 46), (46, jx_ldI 4 48), (48, jx_i2 (fun x y => x + y) 49), (49, jx_push (vi 1) 50), (50, jx_i2 (fun x y => x - y) 51), (51, jx_ldI 4 53), (53, jx_dv (fun x y => x / y) 54), (54, jx_m2 jx_mx 57), (57, jx_stI 2 6 58), (58, jx_incI 3 6 1 61), (61, jx_go 4), (64, jx_ldI 2 65), (65, jx_rI)]
set_option maxRecDepth 100000 in
theorem tl_m78 (D : jx_D) : ∀ pc, jx_tl (jx_look (tb_78 D) pc) := jx_tlm <| by
  unfold tb_78
  exact jx_all1 (tl_push) <|
  jx_all1 (tl_stI) <|
  jx_all1 (tl_push) <|
  jx_all1 (tl_stI) <|
  jx_all1 (tl_ldI) <|
  jx_all1 (tl_ldR) <|
  jx_all1 (tl_gI) <|
  jx_all1 (tl_cgt) <|
  jx_all1 (tl_ldI) <|
  jx_all1 (tl_cI) <|
  jx_all1 (tl_push) <|
  jx_all1 (tl_i2) <|
  jx_all1 (tl_stI) <|
  jx_all1 (tl_ldI) <|
  jx_all1 (tl_le0) <|
  jx_all1 (tl_ldR) <|
  jx_all1 (tl_gR) <|
  jx_all1 (tl_ldI) <|
  jx_all1 (tl_iald) <|
  jx_all1 (tl_ldR) <|
  jx_all1 (tl_gR) <|
  jx_all1 (tl_ldI) <|
  jx_all1 (tl_iald) <|
  jx_all1 (tl_i2) <|
  jx_all1 (tl_cI) <|
  jx_all1 (tl_stI) <|
  jx_all1 (tl_ldI) <|
  jx_all1 (tl_ldI) <|
  jx_all1 (tl_ldI) <|
  jx_all1 (tl_i2) <|
  jx_all1 (tl_push) <|
  jx_all1 (tl_i2) <|
  jx_all1 (tl_ldI) <|
  jx_all1 (tl_dv) <|
  jx_all1 (tl_m2) <|
  jx_all1 (tl_stI) <|
  jx_all1 (tl_incI) <|
  jx_all1 (tl_go) <|
  jx_all1 (tl_ldI) <|
  jx_all1 (tl_rI) <|
  jx_all0
def mk_78 : List (Nat × List Bool) := [(4, [false, true, true, true, false, false]), (20, [false, true, true, true, true, false]), (58, [false, true, true, true, false, false])]
/-- RoadBench.trees()J -/
noncomputable def tb_79 (D : jx_D) : List (Nat × jx_A) := [(0, jx_ldR 0 1), (1, jx_gR 0 1 (fun _ => 0) 4), (4, jx_gI 1 2 7), (7, jx_eq0 18 10), (10, jx_ldR 0 11), (11, jx_push (vi (-8)) 13), (13, jx_vI D 8 0 2 16), (16, jx_i2l 17), (17, jx_rL), (18, jx_ldR 0 19), (19, jx_gR 0 14 (fun _ => 0) 22), (22, jx_ldR 0 23), (23, jx_gR 0 1 (fun _ => 0) 26), (26, jx_vV D 38 14 2 29), (29, jx_ldR 0 30), (30, jx_gR 0 22 (fun _ => 0) 33), (33, jx_ldR 0 34), (34, jx_gR 0 14 (fun _ => 0) 37), (37, jx_vL D 80 22 2 40), (40, jx_rL)]
set_option maxRecDepth 100000 in
theorem tl_m79 (D : jx_D) : ∀ pc, jx_tl (jx_look (tb_79 D) pc) := jx_tlm <| by
  unfold tb_79
  exact jx_all1 (tl_ldR) <|
  jx_all1 (tl_gR) <|
  jx_all1 (tl_gI) <|
  jx_all1 (tl_eq0) <|
  jx_all1 (tl_ldR) <|
  jx_all1 (tl_push) <|
  jx_all1 (tl_vI) <|
  jx_all1 (tl_i2l) <|
  jx_all1 (tl_rL) <|
  jx_all1 (tl_ldR) <|
  jx_all1 (tl_gR) <|
  jx_all1 (tl_ldR) <|
  jx_all1 (tl_gR) <|
  jx_all1 (tl_vV) <|
  jx_all1 (tl_ldR) <|
  jx_all1 (tl_gR) <|
  jx_all1 (tl_ldR) <|
  jx_all1 (tl_gR) <|
  jx_all1 (tl_vL) <|
  jx_all1 (tl_rL) <|
  jx_all0
def mk_79 : List (Nat × List Bool) := []
/-- RoadBench$Packing.howManyTrees(LRoadBench$Plan;)J -/
noncomputable def tb_80 (D : jx_D) : List (Nat × jx_A) := [(0, jx_ldR 1 1), (1, jx_gI 14 0 4), (4, jx_ne0 9 7), (7, jx_push (vl 0) 8), (8, jx_rL), (9, jx_push (vi 1) 10), (10, jx_stI 2 3 11), (11, jx_ldI 2 12), (12, jx_ldR 1 13), (13, jx_gI 14 3 16), (16, jx_cgt 37 19), (19, jx_ldR 0 20), (20, jx_gR 22 24 (fun _ => 0) 23), (23, jx_ldI 2 24), (24, jx_ldR 0 25), (25, jx_ldR 1 26), (26, jx_ldI 2 27), (27, jx_vL D 81 22 3 30), (30, jx_last 31), (31, jx_incI 2 3 1 34), (34, jx_go 11), (37, jx_ldR 0 38), (38, jx_gR 22 24 (fun _ => 0) 41), (41, jx_ldR 1 42), (42, jx_gI 14 3 45), (45, jx_lald 46), (46, jx_rL)]
set_option maxRecDepth 100000 in
theorem tl_m80 (D : jx_D) : ∀ pc, jx_tl (jx_look (tb_80 D) pc) := jx_tlm <| by
  unfold tb_80
  exact jx_all1 (tl_ldR) <|
  jx_all1 (tl_gI) <|
  jx_all1 (tl_ne0) <|
  jx_all1 (tl_push) <|
  jx_all1 (tl_rL) <|
  jx_all1 (tl_push) <|
  jx_all1 (tl_stI) <|
  jx_all1 (tl_ldI) <|
  jx_all1 (tl_ldR) <|
  jx_all1 (tl_gI) <|
  jx_all1 (tl_cgt) <|
  jx_all1 (tl_ldR) <|
  jx_all1 (tl_gR) <|
  jx_all1 (tl_ldI) <|
  jx_all1 (tl_ldR) <|
  jx_all1 (tl_ldR) <|
  jx_all1 (tl_ldI) <|
  jx_all1 (tl_vL) <|
  jx_all1 (tl_last) <|
  jx_all1 (tl_incI) <|
  jx_all1 (tl_go) <|
  jx_all1 (tl_ldR) <|
  jx_all1 (tl_gR) <|
  jx_all1 (tl_ldR) <|
  jx_all1 (tl_gI) <|
  jx_all1 (tl_lald) <|
  jx_all1 (tl_rL) <|
  jx_all0
def mk_80 : List (Nat × List Bool) := [(11, [true, true, true])]
/-- RoadBench$Packing.treesWithin(LRoadBench$Plan;I)J -/
noncomputable def tb_81 (D : jx_D) : List (Nat × jx_A) := [(0, jx_ldI 2 1), (1, jx_ldI 2 2), (2, jx_i1 (fun x => -x) 3), (3, jx_i2 (fun x y => x &&& y) 4), (4, jx_stI 3 10 5), (5, jx_ldI 2 6), (6, jx_ldI 3 7), (7, jx_i2 (fun x y => x ^^^ y) 8), (8, jx_stI 4 10 10), (10, jx_ldI 4 12), (12, jx_ne0 17 15), (15, jx_push (vl 1) 16), (16, jx_rL), (17, jx_ldI 4 19), (19, jx_ldI 4 21), (21, jx_i1 (fun x => -x) 22), (22, jx_i2 (fun x y => x &&& y) 23), (23, jx_stI 5 10 25), (25, jx_ldI 4 27), (27, jx_ldI 5 29), (29, jx_i2 (fun x y => x ^^^ y) 30), (30, jx_stI 6 10 32), (32, jx_ldR 0 33), (33, jx_ldR 1 34), (34, jx_ldI 3 35), (35, jx_ldI 5 37), (37, jx_ldI 2 38), (38, jx_vL D 82 22 5 41), (41, jx_stL 7 10 43), (43, jx_ldI 6 45), (45, jx_stI 9 10 47), (47, jx_ldI 9 49), (49, jx_le0 81 52), (52, jx_ldL 7 54), (54, jx_ldR 0 55), (55, jx_ldR 1 56), (56, jx_ldI 3 57), (57, jx_ldI 5 59), (59, jx_ldI 9 61), (61, jx_i2 (fun x y => x ||| y) 62), (62, jx_ldI 2 63), (63, jx_vL D 82 22 5 66), (66, jx_l2 (fun x y => x + y) 67), (67, jx_stL 7 10 69), (69, jx_ldI 9 71), (71, jx_push (vi 1) 72), (72, jx_i2 (fun x y => x - y) 73), (73, jx_ldI 6 75), (75, jx_i2 (fun x y => x &&& y) 76), (76, jx_stI 9 10 78), (78, jx_go 47), (81, jx_ldL 7 83), (83, jx_rL)]
set_option maxRecDepth 100000 in
theorem tl_m81 (D : jx_D) : ∀ pc, jx_tl (jx_look (tb_81 D) pc) := jx_tlm <| by
  unfold tb_81
  exact jx_all1 (tl_ldI) <|
  jx_all1 (tl_ldI) <|
  jx_all1 (tl_i1) <|
  jx_all1 (tl_i2) <|
  jx_all1 (tl_stI) <|
  jx_all1 (tl_ldI) <|
  jx_all1 (tl_ldI) <|
  jx_all1 (tl_i2) <|
  jx_all1 (tl_stI) <|
  jx_all1 (tl_ldI) <|
  jx_all1 (tl_ne0) <|
  jx_all1 (tl_push) <|
  jx_all1 (tl_rL) <|
  jx_all1 (tl_ldI) <|
  jx_all1 (tl_ldI) <|
  jx_all1 (tl_i1) <|
  jx_all1 (tl_i2) <|
  jx_all1 (tl_stI) <|
  jx_all1 (tl_ldI) <|
  jx_all1 (tl_ldI) <|
  jx_all1 (tl_i2) <|
  jx_all1 (tl_stI) <|
  jx_all1 (tl_ldR) <|
  jx_all1 (tl_ldR) <|
  jx_all1 (tl_ldI) <|
  jx_all1 (tl_ldI) <|
  jx_all1 (tl_ldI) <|
  jx_all1 (tl_vL) <|
  jx_all1 (tl_stL) <|
  jx_all1 (tl_ldI) <|
  jx_all1 (tl_stI) <|
  jx_all1 (tl_ldI) <|
  jx_all1 (tl_le0) <|
  jx_all1 (tl_ldL) <|
  jx_all1 (tl_ldR) <|
  jx_all1 (tl_ldR) <|
  jx_all1 (tl_ldI) <|
  jx_all1 (tl_ldI) <|
  jx_all1 (tl_ldI) <|
  jx_all1 (tl_i2) <|
  jx_all1 (tl_ldI) <|
  jx_all1 (tl_vL) <|
  jx_all1 (tl_l2) <|
  jx_all1 (tl_stL) <|
  jx_all1 (tl_ldI) <|
  jx_all1 (tl_push) <|
  jx_all1 (tl_i2) <|
  jx_all1 (tl_ldI) <|
  jx_all1 (tl_i2) <|
  jx_all1 (tl_stI) <|
  jx_all1 (tl_go) <|
  jx_all1 (tl_ldL) <|
  jx_all1 (tl_rL) <|
  jx_all0
def mk_81 : List (Nat × List Bool) := [(5, [true, true, true, true, false, false, false, false, false, false]), (10, [true, true, true, true, true, false, false, false, false, false]), (25, [true, true, true, true, true, true, false, false, false, false]), (32, [true, true, true, true, false, true, true, false, false, false]), (47, [true, true, true, true, false, true, true, true, false, true]), (69, [true, true, true, true, false, true, true, true, false, true]), (78, [true, true, true, true, false, true, true, true, false, true])]
/-- RoadBench$Packing.treesByBranch(LRoadBench$Plan;III)J -/
noncomputable def tb_82 (D : jx_D) : List (Nat × jx_A) := [(0, jx_ldR 1 1), (1, jx_ldI 2 2), (2, jx_ldI 3 3), (3, jx_vI D 50 14 3 6), (6, jx_cI D 1 1 9), (9, jx_stI 5 6 11), (11, jx_ldI 5 13), (13, jx_i2l 14), (14, jx_ldR 0 15), (15, jx_gR 22 24 (fun _ => 0) 18), (18, jx_ldI 3 19), (19, jx_lald 20), (20, jx_l2 (fun x y => x * y) 21), (21, jx_ldR 0 22), (22, jx_gR 22 24 (fun _ => 0) 25), (25, jx_ldI 4 27), (27, jx_ldI 3 28), (28, jx_i2 (fun x y => x ^^^ y) 29), (29, jx_lald 30), (30, jx_l2 (fun x y => x * y) 31), (31, jx_rL)]
set_option maxRecDepth 100000 in
theorem tl_m82 (D : jx_D) : ∀ pc, jx_tl (jx_look (tb_82 D) pc) := jx_tlm <| by
  unfold tb_82
  exact jx_all1 (tl_ldR) <|
  jx_all1 (tl_ldI) <|
  jx_all1 (tl_ldI) <|
  jx_all1 (tl_vI) <|
  jx_all1 (tl_cI) <|
  jx_all1 (tl_stI) <|
  jx_all1 (tl_ldI) <|
  jx_all1 (tl_i2l) <|
  jx_all1 (tl_ldR) <|
  jx_all1 (tl_gR) <|
  jx_all1 (tl_ldI) <|
  jx_all1 (tl_lald) <|
  jx_all1 (tl_l2) <|
  jx_all1 (tl_ldR) <|
  jx_all1 (tl_gR) <|
  jx_all1 (tl_ldI) <|
  jx_all1 (tl_ldI) <|
  jx_all1 (tl_i2) <|
  jx_all1 (tl_lald) <|
  jx_all1 (tl_l2) <|
  jx_all1 (tl_rL) <|
  jx_all0
def mk_82 : List (Nat × List Bool) := []
/-- RoadBench.arms(I)I -/
noncomputable def tb_83 (D : jx_D) : List (Nat × jx_A) := [(0, jx_ldR 0 1), (1, jx_ldI 1 2), (2, jx_vI D 12 0 2 5), (5, jx_eq0 14 8), (8, jx_ldR 0 9), (9, jx_push (vi (-1)) 10), (10, jx_vI D 8 0 2 13), (13, jx_rI), (14, jx_ldR 0 15), (15, jx_gR 0 1 (fun _ => 0) 18), (18, jx_gI 1 2 21), (21, jx_ne0 31 24), (24, jx_ldR 0 25), (25, jx_push (vi (-4)) 27), (27, jx_vI D 8 0 2 30), (30, jx_rI), (31, jx_ldR 0 32), (32, jx_gR 0 1 (fun _ => 0) 35), (35, jx_gI 1 0 38), (38, jx_push (vi 1) 39), (39, jx_cne 49 42), (42, jx_ldR 0 43), (43, jx_push (vi (-3)) 45), (45, jx_vI D 8 0 2 48), (48, jx_rI), (49, jx_ldR 0 50), (50, jx_gR 0 14 (fun _ => 0) 53), (53, jx_ldR 0 54), (54, jx_gR 0 1 (fun _ => 0) 57), (57, jx_vV D 38 14 2 60), (60, jx_ldR 0 61), (61, jx_gR 0 14 (fun _ => 0) 64), (64, jx_ldI 1 65), (65, jx_vI D 84 14 2 68), (68, jx_rI)]
set_option maxRecDepth 100000 in
theorem tl_m83 (D : jx_D) : ∀ pc, jx_tl (jx_look (tb_83 D) pc) := jx_tlm <| by
  unfold tb_83
  exact jx_all1 (tl_ldR) <|
  jx_all1 (tl_ldI) <|
  jx_all1 (tl_vI) <|
  jx_all1 (tl_eq0) <|
  jx_all1 (tl_ldR) <|
  jx_all1 (tl_push) <|
  jx_all1 (tl_vI) <|
  jx_all1 (tl_rI) <|
  jx_all1 (tl_ldR) <|
  jx_all1 (tl_gR) <|
  jx_all1 (tl_gI) <|
  jx_all1 (tl_ne0) <|
  jx_all1 (tl_ldR) <|
  jx_all1 (tl_push) <|
  jx_all1 (tl_vI) <|
  jx_all1 (tl_rI) <|
  jx_all1 (tl_ldR) <|
  jx_all1 (tl_gR) <|
  jx_all1 (tl_gI) <|
  jx_all1 (tl_push) <|
  jx_all1 (tl_cne) <|
  jx_all1 (tl_ldR) <|
  jx_all1 (tl_push) <|
  jx_all1 (tl_vI) <|
  jx_all1 (tl_rI) <|
  jx_all1 (tl_ldR) <|
  jx_all1 (tl_gR) <|
  jx_all1 (tl_ldR) <|
  jx_all1 (tl_gR) <|
  jx_all1 (tl_vV) <|
  jx_all1 (tl_ldR) <|
  jx_all1 (tl_gR) <|
  jx_all1 (tl_ldI) <|
  jx_all1 (tl_vI) <|
  jx_all1 (tl_rI) <|
  jx_all0
def mk_83 : List (Nat × List Bool) := []
/-- RoadBench$Plan.leastHoldFrom(I)I -/
noncomputable def tb_84 (D : jx_D) : List (Nat × jx_A) := [(0, jx_ldR 0 1), (1, jx_gI 14 1 4), (4, jx_stI 2 4 5), (5, jx_push (vi 1) 6), (6, jx_stI 3 4 7), (7, jx_ldI 3 8), (8, jx_ldR 0 9), (9, jx_gI 14 3 12), (12, jx_cge 43 15), (15, jx_ldI 3 16), (16, jx_ldI 1 17), (17, jx_cI D 19 2 20), (20, jx_eq0 37 23), (23, jx_ldI 2 24), (24, jx_ldR 0 25), (25, jx_gR 14 18 (fun _ => 0) 28), (28, jx_ldI 3 29), (29, jx_iald 30), (30, jx_cI D 1 1 33), (33, jx_m2 jx_mn 36), (36, jx_stI 2 4 37), (37, jx_incI 3 4 1 40), (40, jx_go 7), (43, jx_ldI 2 44), (44, jx_rI)]
set_option maxRecDepth 100000 in
theorem tl_m84 (D : jx_D) : ∀ pc, jx_tl (jx_look (tb_84 D) pc) := jx_tlm <| by
  unfold tb_84
  exact jx_all1 (tl_ldR) <|
  jx_all1 (tl_gI) <|
  jx_all1 (tl_stI) <|
  jx_all1 (tl_push) <|
  jx_all1 (tl_stI) <|
  jx_all1 (tl_ldI) <|
  jx_all1 (tl_ldR) <|
  jx_all1 (tl_gI) <|
  jx_all1 (tl_cge) <|
  jx_all1 (tl_ldI) <|
  jx_all1 (tl_ldI) <|
  jx_all1 (tl_cI) <|
  jx_all1 (tl_eq0) <|
  jx_all1 (tl_ldI) <|
  jx_all1 (tl_ldR) <|
  jx_all1 (tl_gR) <|
  jx_all1 (tl_ldI) <|
  jx_all1 (tl_iald) <|
  jx_all1 (tl_cI) <|
  jx_all1 (tl_m2) <|
  jx_all1 (tl_stI) <|
  jx_all1 (tl_incI) <|
  jx_all1 (tl_go) <|
  jx_all1 (tl_ldI) <|
  jx_all1 (tl_rI) <|
  jx_all0
def mk_84 : List (Nat × List Bool) := [(7, [true, true, true, true]), (37, [true, true, true, true])]
/-- RoadBench.turns()I -/
noncomputable def tb_85 (D : jx_D) : List (Nat × jx_A) := [(0, jx_ldR 0 1), (1, jx_gR 0 1 (fun _ => 0) 4), (4, jx_gI 1 2 7), (7, jx_eq0 17 10), (10, jx_ldR 0 11), (11, jx_push (vi (-8)) 13), (13, jx_vI D 8 0 2 16), (16, jx_rI), (17, jx_ldR 0 18), (18, jx_gR 0 1 (fun _ => 0) 21), (21, jx_gI 1 1 24), (24, jx_ne0 34 27), (27, jx_ldR 0 28), (28, jx_push (vi (-6)) 30), (30, jx_vI D 8 0 2 33), (33, jx_rI), (34, jx_ldR 0 35), (35, jx_gR 0 25 (fun _ => 0) 38), (38, jx_ldR 0 39), (39, jx_gR 0 1 (fun _ => 0) 42), (42, jx_vI D 86 25 2 45), (45, jx_rI)]
set_option maxRecDepth 100000 in
theorem tl_m85 (D : jx_D) : ∀ pc, jx_tl (jx_look (tb_85 D) pc) := jx_tlm <| by
  unfold tb_85
  exact jx_all1 (tl_ldR) <|
  jx_all1 (tl_gR) <|
  jx_all1 (tl_gI) <|
  jx_all1 (tl_eq0) <|
  jx_all1 (tl_ldR) <|
  jx_all1 (tl_push) <|
  jx_all1 (tl_vI) <|
  jx_all1 (tl_rI) <|
  jx_all1 (tl_ldR) <|
  jx_all1 (tl_gR) <|
  jx_all1 (tl_gI) <|
  jx_all1 (tl_ne0) <|
  jx_all1 (tl_ldR) <|
  jx_all1 (tl_push) <|
  jx_all1 (tl_vI) <|
  jx_all1 (tl_rI) <|
  jx_all1 (tl_ldR) <|
  jx_all1 (tl_gR) <|
  jx_all1 (tl_ldR) <|
  jx_all1 (tl_gR) <|
  jx_all1 (tl_vI) <|
  jx_all1 (tl_rI) <|
  jx_all0
def mk_85 : List (Nat × List Bool) := []
/-- RoadBench$Walk.roadsTurnedBack(LRoadBench$Net;)I -/
noncomputable def tb_86 (D : jx_D) : List (Nat × jx_A) := [(0, jx_ldR 0 1), (1, jx_ldR 1 2), (2, jx_pM 25 0 1 0 5), (5, jx_ldR 0 6), (6, jx_push (vi 0) 7), (7, jx_pI 25 1 10), (10, jx_ldR 0 11), (11, jx_push (vi 0) 12), (12, jx_pI 25 2 15), (15, jx_ldR 0 16), (16, jx_push (vi 0) 17), (17, jx_pI 25 3 20), (20, jx_push (vi 0) 21), (21, jx_stI 2 3 22), (22, jx_ldI 2 23), (23, jx_ldR 0 24), (24, jx_gM 25 0 1 0 27), (27, jx_gI 1 0 30), (30, jx_cge 56 33), (33, jx_ldR 0 34), (34, jx_gI 25 1 37), (37, jx_ldI 2 38), (38, jx_cI D 19 2 41), (41, jx_ne0 50 44), (44, jx_ldR 0 45), (45, jx_ldI 2 46), (46, jx_push (vi 0) 47), (47, jx_vV D 87 25 3 50), (50, jx_incI 2 3 1 53), (53, jx_go 22), (56, jx_ldR 0 57), (57, jx_gI 25 3 60), (60, jx_rI)]
set_option maxRecDepth 100000 in
theorem tl_m86 (D : jx_D) : ∀ pc, jx_tl (jx_look (tb_86 D) pc) := jx_tlm <| by
  unfold tb_86
  exact jx_all1 (tl_ldR) <|
  jx_all1 (tl_ldR) <|
  jx_all1 (tl_pM) <|
  jx_all1 (tl_ldR) <|
  jx_all1 (tl_push) <|
  jx_all1 (tl_pI) <|
  jx_all1 (tl_ldR) <|
  jx_all1 (tl_push) <|
  jx_all1 (tl_pI) <|
  jx_all1 (tl_ldR) <|
  jx_all1 (tl_push) <|
  jx_all1 (tl_pI) <|
  jx_all1 (tl_push) <|
  jx_all1 (tl_stI) <|
  jx_all1 (tl_ldI) <|
  jx_all1 (tl_ldR) <|
  jx_all1 (tl_gM) <|
  jx_all1 (tl_gI) <|
  jx_all1 (tl_cge) <|
  jx_all1 (tl_ldR) <|
  jx_all1 (tl_gI) <|
  jx_all1 (tl_ldI) <|
  jx_all1 (tl_cI) <|
  jx_all1 (tl_ne0) <|
  jx_all1 (tl_ldR) <|
  jx_all1 (tl_ldI) <|
  jx_all1 (tl_push) <|
  jx_all1 (tl_vV) <|
  jx_all1 (tl_incI) <|
  jx_all1 (tl_go) <|
  jx_all1 (tl_ldR) <|
  jx_all1 (tl_gI) <|
  jx_all1 (tl_rI) <|
  jx_all0
def mk_86 : List (Nat × List Bool) := [(22, [true, false, true]), (50, [true, false, true])]
/-- RoadBench$Walk.visit(II)V -/
noncomputable def tb_87 (D : jx_D) : List (Nat × jx_A) := [(0, jx_ldR 0 1), (1, jx_dup 2), (2, jx_gI 25 1 5), (5, jx_push (vi 1) 6), (6, jx_ldI 1 7), (7, jx_i2 (fun x y => x <<< (y &&& 31)) 8), (8, jx_i2 (fun x y => x ||| y) 9), (9, jx_pI 25 1 12), (12, jx_ldI 2 13), (13, jx_push (vi 8) 15), (15, jx_clt 19 18), (18, jx_rV), (19, jx_push (vi 0) 20), (20, jx_stI 3 6 21), (21, jx_ldI 3 22), (22, jx_ldR 0 23), (23, jx_gM 25 0 1 0 26), (26, jx_gI 1 1 29), (29, jx_cge 168 32), (32, jx_ldR 0 33), (33, jx_gM 25 0 1 0 36), (36, jx_gR 1 2 (fun i => i) 39), (39, jx_ldI 3 40), (40, jx_iald 41), (41, jx_ldI 1 42), (42, jx_cne 49 45), (45, jx_push (vi 1) 46), (46, jx_go 50), (49, jx_push (vi 0) 50), (50, jx_stI 4 6 52), (52, jx_ldR 0 53), (53, jx_gI 25 2 56), (56, jx_ldI 3 57), (57, jx_cI D 19 2 60), (60, jx_ne0 162 63), (63, jx_ldI 4 65), (65, jx_ne0 84 68), (68, jx_ldR 0 69), (69, jx_gM 25 0 1 0 72), (72, jx_gR 1 3 (fun i => i) 75), (75, jx_ldI 3 76), (76, jx_iald 77), (77, jx_ldI 1 78), (78, jx_ceq 84 81), (81, jx_go 162), (84, jx_ldR 0 85), (85, jx_dup 86), (86, jx_gI 25 2 89), (89, jx_push (vi 1) 90), (90, jx_ldI 3 91), (91, jx_i2 (fun x y => x <<< (y &&& 31)) 92), (92, jx_i2 (fun x y => x ||| y) 93), (93, jx_pI 25 2 96), (96, jx_ldI 4 98), (98, jx_ne0 113 101), (101, jx_ldR 0 102), (102, jx_dup 103), (103, jx_gI 25 3 106), (106, jx_push (vi 1) 107), (107, jx_ldI 3 108), (108, jx_i2 (fun x y => x <<< (y &&& 31)) 109), (109, jx_i2 (fun x y => x ||| y) 110), (110, jx_pI 25 3 113), (113, jx_ldI 4 115), (115, jx_eq0 130 118), (118, jx_ldR 0 119), (119, jx_gM 25 0 1 0 122), (122, jx_gR 1 3 (fun i => i) 125), (125, jx_ldI 3 126), (126, jx_iald 127), (127, jx_go 139), (130, jx_ldR 0 131), (131, jx_gM 25 0 1 0 134), (134, jx_gR 1 2 (fun i => i) 137), (137, jx_ldI 3 138), (138, jx_iald 139), (139, jx_stI 5 6 141), (141, jx_ldR 0 142), (142, jx_gI 25 1 145), (145, jx_ldI 5 147), (147, jx_cI D 19 2 150), (150, jx_ne0 162 153), (153, jx_ldR 0 154), (154, jx_ldI 5 156), (156, jx_ldI 2 157), (157, jx_push (vi 1) 158), (158, jx_i2 (fun x y => x + y) 159), (159, jx_vV D 87 25 3 162), (162, jx_incI 3 6 1 165), (165, jx_go 21), (168, jx_rV)]
set_option maxRecDepth 100000 in
theorem tl_m87 (D : jx_D) : ∀ pc, jx_tl (jx_look (tb_87 D) pc) := jx_tlm <| by
  unfold tb_87
  exact jx_all1 (tl_ldR) <|
  jx_all1 (tl_dup) <|
  jx_all1 (tl_gI) <|
  jx_all1 (tl_push) <|
  jx_all1 (tl_ldI) <|
  jx_all1 (tl_i2) <|
  jx_all1 (tl_i2) <|
  jx_all1 (tl_pI) <|
  jx_all1 (tl_ldI) <|
  jx_all1 (tl_push) <|
  jx_all1 (tl_clt) <|
  jx_all1 (tl_rV) <|
  jx_all1 (tl_push) <|
  jx_all1 (tl_stI) <|
  jx_all1 (tl_ldI) <|
  jx_all1 (tl_ldR) <|
  jx_all1 (tl_gM) <|
  jx_all1 (tl_gI) <|
  jx_all1 (tl_cge) <|
  jx_all1 (tl_ldR) <|
  jx_all1 (tl_gM) <|
  jx_all1 (tl_gR) <|
  jx_all1 (tl_ldI) <|
  jx_all1 (tl_iald) <|
  jx_all1 (tl_ldI) <|
  jx_all1 (tl_cne) <|
  jx_all1 (tl_push) <|
  jx_all1 (tl_go) <|
  jx_all1 (tl_push) <|
  jx_all1 (tl_stI) <|
  jx_all1 (tl_ldR) <|
  jx_all1 (tl_gI) <|
  jx_all1 (tl_ldI) <|
  jx_all1 (tl_cI) <|
  jx_all1 (tl_ne0) <|
  jx_all1 (tl_ldI) <|
  jx_all1 (tl_ne0) <|
  jx_all1 (tl_ldR) <|
  jx_all1 (tl_gM) <|
  jx_all1 (tl_gR) <|
  jx_all1 (tl_ldI) <|
  jx_all1 (tl_iald) <|
  jx_all1 (tl_ldI) <|
  jx_all1 (tl_ceq) <|
  jx_all1 (tl_go) <|
  jx_all1 (tl_ldR) <|
  jx_all1 (tl_dup) <|
  jx_all1 (tl_gI) <|
  jx_all1 (tl_push) <|
  jx_all1 (tl_ldI) <|
  jx_all1 (tl_i2) <|
  jx_all1 (tl_i2) <|
  jx_all1 (tl_pI) <|
  jx_all1 (tl_ldI) <|
  jx_all1 (tl_ne0) <|
  jx_all1 (tl_ldR) <|
  jx_all1 (tl_dup) <|
  jx_all1 (tl_gI) <|
  jx_all1 (tl_push) <|
  jx_all1 (tl_ldI) <|
  jx_all1 (tl_i2) <|
  jx_all1 (tl_i2) <|
  jx_all1 (tl_pI) <|
  jx_all1 (tl_ldI) <|
  jx_all1 (tl_eq0) <|
  jx_all1 (tl_ldR) <|
  jx_all1 (tl_gM) <|
  jx_all1 (tl_gR) <|
  jx_all1 (tl_ldI) <|
  jx_all1 (tl_iald) <|
  jx_all1 (tl_go) <|
  jx_all1 (tl_ldR) <|
  jx_all1 (tl_gM) <|
  jx_all1 (tl_gR) <|
  jx_all1 (tl_ldI) <|
  jx_all1 (tl_iald) <|
  jx_all1 (tl_stI) <|
  jx_all1 (tl_ldR) <|
  jx_all1 (tl_gI) <|
  jx_all1 (tl_ldI) <|
  jx_all1 (tl_cI) <|
  jx_all1 (tl_ne0) <|
  jx_all1 (tl_ldR) <|
  jx_all1 (tl_ldI) <|
  jx_all1 (tl_ldI) <|
  jx_all1 (tl_push) <|
  jx_all1 (tl_i2) <|
  jx_all1 (tl_vV) <|
  jx_all1 (tl_incI) <|
  jx_all1 (tl_go) <|
  jx_all1 (tl_rV) <|
  jx_all0
def mk_87 : List (Nat × List Bool) := [(21, [true, true, true, true, false, false]), (50, [true, true, true, true, false, false]), (84, [true, true, true, true, true, false]), (113, [true, true, true, true, true, false]), (139, [true, true, true, true, false, false]), (141, [true, true, true, true, false, true]), (162, [true, true, true, true, false, false])]
/-- RoadBench.strong()I -/
noncomputable def tb_88 (D : jx_D) : List (Nat × jx_A) := [(0, jx_ldR 0 1), (1, jx_gR 0 1 (fun _ => 0) 4), (4, jx_gI 1 2 7), (7, jx_eq0 17 10), (10, jx_ldR 0 11), (11, jx_push (vi (-8)) 13), (13, jx_vI D 8 0 2 16), (16, jx_rI), (17, jx_ldR 0 18), (18, jx_gR 0 14 (fun _ => 0) 21), (21, jx_ldR 0 22), (22, jx_gR 0 1 (fun _ => 0) 25), (25, jx_vV D 38 14 2 28), (28, jx_ldR 0 29), (29, jx_gR 0 14 (fun _ => 0) 32), (32, jx_ldR 0 33), (33, jx_gR 0 25 (fun _ => 0) 36), (36, jx_ldR 0 37), (37, jx_gR 0 1 (fun _ => 0) 40), (40, jx_vI D 86 25 2 43), (43, jx_vI D 89 14 2 46), (46, jx_eq0 53 49), (49, jx_push (vi 1) 50), (50, jx_go 54), (53, jx_push (vi 0) 54), (54, jx_rI)]
set_option maxRecDepth 100000 in
theorem tl_m88 (D : jx_D) : ∀ pc, jx_tl (jx_look (tb_88 D) pc) := jx_tlm <| by
  unfold tb_88
  exact jx_all1 (tl_ldR) <|
  jx_all1 (tl_gR) <|
  jx_all1 (tl_gI) <|
  jx_all1 (tl_eq0) <|
  jx_all1 (tl_ldR) <|
  jx_all1 (tl_push) <|
  jx_all1 (tl_vI) <|
  jx_all1 (tl_rI) <|
  jx_all1 (tl_ldR) <|
  jx_all1 (tl_gR) <|
  jx_all1 (tl_ldR) <|
  jx_all1 (tl_gR) <|
  jx_all1 (tl_vV) <|
  jx_all1 (tl_ldR) <|
  jx_all1 (tl_gR) <|
  jx_all1 (tl_ldR) <|
  jx_all1 (tl_gR) <|
  jx_all1 (tl_ldR) <|
  jx_all1 (tl_gR) <|
  jx_all1 (tl_vI) <|
  jx_all1 (tl_vI) <|
  jx_all1 (tl_eq0) <|
  jx_all1 (tl_push) <|
  jx_all1 (tl_go) <|
  jx_all1 (tl_push) <|
  jx_all1 (tl_rI) <|
  jx_all0
def mk_88 : List (Nat × List Bool) := [(54, [false])]
/-- RoadBench$Plan.hangsTurned(I)Z -/
noncomputable def tb_89 (D : jx_D) : List (Nat × jx_A) := [(0, jx_push (vi 1) 1), (1, jx_stI 2 4 2), (2, jx_ldI 2 3), (3, jx_ldR 0 4), (4, jx_gI 14 3 7), (7, jx_cge 60 10), (10, jx_ldR 0 11), (11, jx_gR 14 15 (fun _ => 0) 14), (14, jx_ldI 2 15), (15, jx_iald 16), (16, jx_ldR 0 17), (17, jx_gR 14 16 (fun _ => 0) 20), (20, jx_ldI 2 21), (21, jx_iald 22), (22, jx_push (vi (-1)) 23), (23, jx_i2 (fun x y => x ^^^ y) 24), (24, jx_i2 (fun x y => x &&& y) 25), (25, jx_ldI 1 26), (26, jx_push (vi (-1)) 27), (27, jx_i2 (fun x y => x ^^^ y) 28), (28, jx_i2 (fun x y => x &&& y) 29), (29, jx_ldR 0 30), (30, jx_gR 14 16 (fun _ => 0) 33), (33, jx_ldI 2 34), (34, jx_iald 35), (35, jx_ldR 0 36), (36, jx_gR 14 15 (fun _ => 0) 39), (39, jx_ldI 2 40), (40, jx_iald 41), (41, jx_push (vi (-1)) 42), (42, jx_i2 (fun x y => x ^^^ y) 43), (43, jx_i2 (fun x y => x &&& y) 44), (44, jx_ldI 1 45), (45, jx_i2 (fun x y => x &&& y) 46), (46, jx_i2 (fun x y => x ||| y) 47), (47, jx_stI 3 4 48), (48, jx_ldI 3 49), (49, jx_ne0 54 52), (52, jx_push (vi 0) 53), (53, jx_rZ), (54, jx_incI 2 4 1 57), (57, jx_go 2), (60, jx_ldR 0 61), (61, jx_gI 14 0 64), (64, jx_le0 71 67), (67, jx_push (vi 1) 68), (68, jx_go 72), (71, jx_push (vi 0) 72), (72, jx_rZ)]
set_option maxRecDepth 100000 in
theorem tl_m89 (D : jx_D) : ∀ pc, jx_tl (jx_look (tb_89 D) pc) := jx_tlm <| by
  unfold tb_89
  exact jx_all1 (tl_push) <|
  jx_all1 (tl_stI) <|
  jx_all1 (tl_ldI) <|
  jx_all1 (tl_ldR) <|
  jx_all1 (tl_gI) <|
  jx_all1 (tl_cge) <|
  jx_all1 (tl_ldR) <|
  jx_all1 (tl_gR) <|
  jx_all1 (tl_ldI) <|
  jx_all1 (tl_iald) <|
  jx_all1 (tl_ldR) <|
  jx_all1 (tl_gR) <|
  jx_all1 (tl_ldI) <|
  jx_all1 (tl_iald) <|
  jx_all1 (tl_push) <|
  jx_all1 (tl_i2) <|
  jx_all1 (tl_i2) <|
  jx_all1 (tl_ldI) <|
  jx_all1 (tl_push) <|
  jx_all1 (tl_i2) <|
  jx_all1 (tl_i2) <|
  jx_all1 (tl_ldR) <|
  jx_all1 (tl_gR) <|
  jx_all1 (tl_ldI) <|
  jx_all1 (tl_iald) <|
  jx_all1 (tl_ldR) <|
  jx_all1 (tl_gR) <|
  jx_all1 (tl_ldI) <|
  jx_all1 (tl_iald) <|
  jx_all1 (tl_push) <|
  jx_all1 (tl_i2) <|
  jx_all1 (tl_i2) <|
  jx_all1 (tl_ldI) <|
  jx_all1 (tl_i2) <|
  jx_all1 (tl_i2) <|
  jx_all1 (tl_stI) <|
  jx_all1 (tl_ldI) <|
  jx_all1 (tl_ne0) <|
  jx_all1 (tl_push) <|
  jx_all1 (tl_rZ) <|
  jx_all1 (tl_incI) <|
  jx_all1 (tl_go) <|
  jx_all1 (tl_ldR) <|
  jx_all1 (tl_gI) <|
  jx_all1 (tl_le0) <|
  jx_all1 (tl_push) <|
  jx_all1 (tl_go) <|
  jx_all1 (tl_push) <|
  jx_all1 (tl_rZ) <|
  jx_all0
def mk_89 : List (Nat × List Bool) := [(2, [true, true, true, false]), (72, [false, false, false, false])]
/-- RoadBench.chance()J -/
noncomputable def tb_90 (D : jx_D) : List (Nat × jx_A) := [(0, jx_ldR 0 1), (1, jx_gR 0 1 (fun _ => 0) 4), (4, jx_gI 1 2 7), (7, jx_eq0 30 10), (10, jx_ldR 0 11), (11, jx_gR 0 1 (fun _ => 0) 14), (14, jx_gI 1 1 17), (17, jx_push (vi 12) 19), (19, jx_cle 30 22), (22, jx_ldR 0 23), (23, jx_push (vi (-7)) 25), (25, jx_vI D 8 0 2 28), (28, jx_i2l 29), (29, jx_rL), (30, jx_ldR 0 31), (31, jx_gR 0 14 (fun _ => 0) 34), (34, jx_ldR 0 35), (35, jx_gR 0 1 (fun _ => 0) 38), (38, jx_vV D 38 14 2 41), (41, jx_ldR 0 42), (42, jx_gR 0 26 (fun _ => 0) 45), (45, jx_ldR 0 46), (46, jx_gR 0 14 (fun _ => 0) 49), (49, jx_ldR 0 50), (50, jx_gR 0 1 (fun _ => 0) 53), (53, jx_vL D 91 26 3 56), (56, jx_rL)]
set_option maxRecDepth 100000 in
theorem tl_m90 (D : jx_D) : ∀ pc, jx_tl (jx_look (tb_90 D) pc) := jx_tlm <| by
  unfold tb_90
  exact jx_all1 (tl_ldR) <|
  jx_all1 (tl_gR) <|
  jx_all1 (tl_gI) <|
  jx_all1 (tl_eq0) <|
  jx_all1 (tl_ldR) <|
  jx_all1 (tl_gR) <|
  jx_all1 (tl_gI) <|
  jx_all1 (tl_push) <|
  jx_all1 (tl_cle) <|
  jx_all1 (tl_ldR) <|
  jx_all1 (tl_push) <|
  jx_all1 (tl_vI) <|
  jx_all1 (tl_i2l) <|
  jx_all1 (tl_rL) <|
  jx_all1 (tl_ldR) <|
  jx_all1 (tl_gR) <|
  jx_all1 (tl_ldR) <|
  jx_all1 (tl_gR) <|
  jx_all1 (tl_vV) <|
  jx_all1 (tl_ldR) <|
  jx_all1 (tl_gR) <|
  jx_all1 (tl_ldR) <|
  jx_all1 (tl_gR) <|
  jx_all1 (tl_ldR) <|
  jx_all1 (tl_gR) <|
  jx_all1 (tl_vL) <|
  jx_all1 (tl_rL) <|
  jx_all0
def mk_90 : List (Nat × List Bool) := [(30, [true])]
/-- RoadBench$Chances.ofHanging(LRoadBench$Plan;LRoadBench$Net;)J -/
noncomputable def tb_91 (D : jx_D) : List (Nat × jx_A) := [(0, jx_ldR 0 1), (1, jx_ldR 1 2), (2, jx_pM 26 0 14 0 5), (5, jx_ldR 0 6), (6, jx_ldR 2 7), (7, jx_pM 26 1 1 0 10), (10, jx_ldR 0 11), (11, jx_gM 26 0 14 0 14), (14, jx_ldR 0 15), (15, jx_gM 26 0 14 0 18), (18, jx_gI 14 4 21), (21, jx_vI D 55 14 2 24), (24, jx_ne0 29 27), (27, jx_push (vl 0) 28), (28, jx_rL), (29, jx_ldR 0 30), (30, jx_gM 26 0 14 0 33), (33, jx_gI 14 2 36), (36, jx_eq0 48 39), (39, jx_ldR 0 40), (40, jx_push (vi 0) 41), (41, jx_push (vi 0) 42), (42, jx_vL D 92 26 3 45), (45, jx_go 52), (48, jx_ldR 0 49), (49, jx_vL D 93 26 1 52), (52, jx_rL)]
set_option maxRecDepth 100000 in
theorem tl_m91 (D : jx_D) : ∀ pc, jx_tl (jx_look (tb_91 D) pc) := jx_tlm <| by
  unfold tb_91
  exact jx_all1 (tl_ldR) <|
  jx_all1 (tl_ldR) <|
  jx_all1 (tl_pM) <|
  jx_all1 (tl_ldR) <|
  jx_all1 (tl_ldR) <|
  jx_all1 (tl_pM) <|
  jx_all1 (tl_ldR) <|
  jx_all1 (tl_gM) <|
  jx_all1 (tl_ldR) <|
  jx_all1 (tl_gM) <|
  jx_all1 (tl_gI) <|
  jx_all1 (tl_vI) <|
  jx_all1 (tl_ne0) <|
  jx_all1 (tl_push) <|
  jx_all1 (tl_rL) <|
  jx_all1 (tl_ldR) <|
  jx_all1 (tl_gM) <|
  jx_all1 (tl_gI) <|
  jx_all1 (tl_eq0) <|
  jx_all1 (tl_ldR) <|
  jx_all1 (tl_push) <|
  jx_all1 (tl_push) <|
  jx_all1 (tl_vL) <|
  jx_all1 (tl_go) <|
  jx_all1 (tl_ldR) <|
  jx_all1 (tl_vL) <|
  jx_all1 (tl_rL) <|
  jx_all0
def mk_91 : List (Nat × List Bool) := [(52, [false, false, false])]
/-- RoadBench$Chances.sumOver(II)J -/
noncomputable def tb_92 (D : jx_D) : List (Nat × jx_A) := [(0, jx_ldI 1 1), (1, jx_ldR 0 2), (2, jx_gM 26 0 14 0 5), (5, jx_gI 14 1 8), (8, jx_clt 13 11), (11, jx_push (vl 1) 12), (12, jx_rL), (13, jx_ldR 0 14), (14, jx_gM 26 1 1 0 17), (17, jx_gR 1 5 (fun i => i) 20), (20, jx_ldI 1 21), (21, jx_iald 22), (22, jx_stI 3 7 23), (23, jx_push (vl 0) 24), (24, jx_stL 4 7 26), (26, jx_ldI 3 27), (27, jx_le0 47 30), (30, jx_ldI 3 31), (31, jx_i2l 32), (32, jx_ldR 0 33), (33, jx_ldI 1 34), (34, jx_push (vi 1) 35), (35, jx_i2 (fun x y => x + y) 36), (36, jx_ldI 2 37), (37, jx_push (vi 1) 38), (38, jx_ldI 1 39), (39, jx_i2 (fun x y => x <<< (y &&& 31)) 40), (40, jx_i2 (fun x y => x ||| y) 41), (41, jx_vL D 92 26 3 44), (44, jx_l2 (fun x y => x * y) 45), (45, jx_stL 4 7 47), (47, jx_ldI 2 48), (48, jx_ldR 0 49), (49, jx_gM 26 0 14 0 52), (52, jx_gI 14 4 55), (55, jx_ldI 1 56), (56, jx_push (vi 1) 57), (57, jx_i2 (fun x y => x + y) 58), (58, jx_cI D 17 1 61), (61, jx_push (vi (-1)) 62), (62, jx_i2 (fun x y => x ^^^ y) 63), (63, jx_i2 (fun x y => x &&& y) 64), (64, jx_i2 (fun x y => x ||| y) 65), (65, jx_stI 6 7 67), (67, jx_ldI 3 68), (68, jx_push (vi 8) 70), (70, jx_cge 104 73), (73, jx_ldR 0 74), (74, jx_gM 26 0 14 0 77), (77, jx_ldI 6 79), (79, jx_vI D 55 14 2 82), (82, jx_eq0 104 85), (85, jx_ldL 4 87), (87, jx_push (vi 8) 89), (89, jx_ldI 3 90), (90, jx_i2 (fun x y => x - y) 91), (91, jx_i2l 92), (92, jx_ldR 0 93), (93, jx_ldI 1 94), (94, jx_push (vi 1) 95), (95, jx_i2 (fun x y => x + y) 96), (96, jx_ldI 2 97), (97, jx_vL D 92 26 3 100), (100, jx_l2 (fun x y => x * y) 101), (101, jx_l2 (fun x y => x + y) 102), (102, jx_stL 4 7 104), (104, jx_ldL 4 106), (106, jx_rL)]
set_option maxRecDepth 100000 in
theorem tl_m92 (D : jx_D) : ∀ pc, jx_tl (jx_look (tb_92 D) pc) := jx_tlm <| by
  unfold tb_92
  exact jx_all1 (tl_ldI) <|
  jx_all1 (tl_ldR) <|
  jx_all1 (tl_gM) <|
  jx_all1 (tl_gI) <|
  jx_all1 (tl_clt) <|
  jx_all1 (tl_push) <|
  jx_all1 (tl_rL) <|
  jx_all1 (tl_ldR) <|
  jx_all1 (tl_gM) <|
  jx_all1 (tl_gR) <|
  jx_all1 (tl_ldI) <|
  jx_all1 (tl_iald) <|
  jx_all1 (tl_stI) <|
  jx_all1 (tl_push) <|
  jx_all1 (tl_stL) <|
  jx_all1 (tl_ldI) <|
  jx_all1 (tl_le0) <|
  jx_all1 (tl_ldI) <|
  jx_all1 (tl_i2l) <|
  jx_all1 (tl_ldR) <|
  jx_all1 (tl_ldI) <|
  jx_all1 (tl_push) <|
  jx_all1 (tl_i2) <|
  jx_all1 (tl_ldI) <|
  jx_all1 (tl_push) <|
  jx_all1 (tl_ldI) <|
  jx_all1 (tl_i2) <|
  jx_all1 (tl_i2) <|
  jx_all1 (tl_vL) <|
  jx_all1 (tl_l2) <|
  jx_all1 (tl_stL) <|
  jx_all1 (tl_ldI) <|
  jx_all1 (tl_ldR) <|
  jx_all1 (tl_gM) <|
  jx_all1 (tl_gI) <|
  jx_all1 (tl_ldI) <|
  jx_all1 (tl_push) <|
  jx_all1 (tl_i2) <|
  jx_all1 (tl_cI) <|
  jx_all1 (tl_push) <|
  jx_all1 (tl_i2) <|
  jx_all1 (tl_i2) <|
  jx_all1 (tl_i2) <|
  jx_all1 (tl_stI) <|
  jx_all1 (tl_ldI) <|
  jx_all1 (tl_push) <|
  jx_all1 (tl_cge) <|
  jx_all1 (tl_ldR) <|
  jx_all1 (tl_gM) <|
  jx_all1 (tl_ldI) <|
  jx_all1 (tl_vI) <|
  jx_all1 (tl_eq0) <|
  jx_all1 (tl_ldL) <|
  jx_all1 (tl_push) <|
  jx_all1 (tl_ldI) <|
  jx_all1 (tl_i2) <|
  jx_all1 (tl_i2l) <|
  jx_all1 (tl_ldR) <|
  jx_all1 (tl_ldI) <|
  jx_all1 (tl_push) <|
  jx_all1 (tl_i2) <|
  jx_all1 (tl_ldI) <|
  jx_all1 (tl_vL) <|
  jx_all1 (tl_l2) <|
  jx_all1 (tl_l2) <|
  jx_all1 (tl_stL) <|
  jx_all1 (tl_ldL) <|
  jx_all1 (tl_rL) <|
  jx_all0
def mk_92 : List (Nat × List Bool) := [(23, [true, true, true, true, false, false, false]), (47, [true, true, true, true, true, false, false]), (104, [false, false, false, false, true, false, false])]
/-- RoadBench$Chances.ofPlain()J -/
noncomputable def tb_93 (D : jx_D) : List (Nat × jx_A) := [(0, jx_push (vi 1) 1), (1, jx_stI 1 6 2), (2, jx_ldI 1 3), (3, jx_ldR 0 4), (4, jx_gM 26 0 14 0 7), (7, jx_gI 14 3 10), (10, jx_cgt 68 13), (13, jx_ldI 1 14), (14, jx_push (vi 1) 15), (15, jx_i2 (fun x y => x ^^^ y) 16), (16, jx_stI 2 6 17), (17, jx_ldR 0 18), (18, jx_ldI 1 19), (19, jx_vL D 94 26 2 22), (22, jx_stL 3 6 23), (23, jx_ldI 2 24), (24, jx_stI 5 6 26), (26, jx_ldI 5 28), (28, jx_le0 55 31), (31, jx_ldL 3 32), (32, jx_ldR 0 33), (33, jx_ldI 1 34), (34, jx_ldI 5 36), (36, jx_i2 (fun x y => x ^^^ y) 37), (37, jx_ldI 5 39), (39, jx_vL D 95 26 3 42), (42, jx_l2 (fun x y => x - y) 43), (43, jx_stL 3 6 44), (44, jx_ldI 5 46), (46, jx_push (vi 1) 47), (47, jx_i2 (fun x y => x - y) 48), (48, jx_ldI 2 49), (49, jx_i2 (fun x y => x &&& y) 50), (50, jx_stI 5 6 52), (52, jx_go 26), (55, jx_ldR 0 56), (56, jx_gR 26 27 (fun _ => 0) 59), (59, jx_ldI 1 60), (60, jx_ldL 3 61), (61, jx_last 62), (62, jx_incI 1 6 2 65), (65, jx_go 2), (68, jx_ldR 0 69), (69, jx_gR 26 27 (fun _ => 0) 72), (72, jx_ldR 0 73), (73, jx_gM 26 0 14 0 76), (76, jx_gI 14 3 79), (79, jx_lald 80), (80, jx_rL)]
set_option maxRecDepth 100000 in
theorem tl_m93 (D : jx_D) : ∀ pc, jx_tl (jx_look (tb_93 D) pc) := jx_tlm <| by
  unfold tb_93
  exact jx_all1 (tl_push) <|
  jx_all1 (tl_stI) <|
  jx_all1 (tl_ldI) <|
  jx_all1 (tl_ldR) <|
  jx_all1 (tl_gM) <|
  jx_all1 (tl_gI) <|
  jx_all1 (tl_cgt) <|
  jx_all1 (tl_ldI) <|
  jx_all1 (tl_push) <|
  jx_all1 (tl_i2) <|
  jx_all1 (tl_stI) <|
  jx_all1 (tl_ldR) <|
  jx_all1 (tl_ldI) <|
  jx_all1 (tl_vL) <|
  jx_all1 (tl_stL) <|
  jx_all1 (tl_ldI) <|
  jx_all1 (tl_stI) <|
  jx_all1 (tl_ldI) <|
  jx_all1 (tl_le0) <|
  jx_all1 (tl_ldL) <|
  jx_all1 (tl_ldR) <|
  jx_all1 (tl_ldI) <|
  jx_all1 (tl_ldI) <|
  jx_all1 (tl_i2) <|
  jx_all1 (tl_ldI) <|
  jx_all1 (tl_vL) <|
  jx_all1 (tl_l2) <|
  jx_all1 (tl_stL) <|
  jx_all1 (tl_ldI) <|
  jx_all1 (tl_push) <|
  jx_all1 (tl_i2) <|
  jx_all1 (tl_ldI) <|
  jx_all1 (tl_i2) <|
  jx_all1 (tl_stI) <|
  jx_all1 (tl_go) <|
  jx_all1 (tl_ldR) <|
  jx_all1 (tl_gR) <|
  jx_all1 (tl_ldI) <|
  jx_all1 (tl_ldL) <|
  jx_all1 (tl_last) <|
  jx_all1 (tl_incI) <|
  jx_all1 (tl_go) <|
  jx_all1 (tl_ldR) <|
  jx_all1 (tl_gR) <|
  jx_all1 (tl_ldR) <|
  jx_all1 (tl_gM) <|
  jx_all1 (tl_gI) <|
  jx_all1 (tl_lald) <|
  jx_all1 (tl_rL) <|
  jx_all0
def mk_93 : List (Nat × List Bool) := [(2, [true, true, false, false, false, false]), (17, [true, true, true, false, false, false]), (26, [true, true, true, true, false, true]), (44, [true, true, true, true, false, true]), (52, [true, true, true, true, false, true])]
/-- RoadBench$Chances.allWays(I)J -/
noncomputable def tb_94 (D : jx_D) : List (Nat × jx_A) := [(0, jx_push (vl 1) 1), (1, jx_push (vi 3) 2), (2, jx_ldR 0 3), (3, jx_gM 26 0 14 0 6), (6, jx_gR 14 15 (fun _ => 0) 9), (9, jx_ldI 1 10), (10, jx_iald 11), (11, jx_ldR 0 12), (12, jx_gM 26 0 14 0 15), (15, jx_gR 14 16 (fun _ => 0) 18), (18, jx_ldI 1 19), (19, jx_iald 20), (20, jx_i2 (fun x y => x &&& y) 21), (21, jx_cI D 1 1 24), (24, jx_i2 (fun x y => x * y) 25), (25, jx_lsh 26), (26, jx_rL)]
set_option maxRecDepth 100000 in
theorem tl_m94 (D : jx_D) : ∀ pc, jx_tl (jx_look (tb_94 D) pc) := jx_tlm <| by
  unfold tb_94
  exact jx_all1 (tl_push) <|
  jx_all1 (tl_push) <|
  jx_all1 (tl_ldR) <|
  jx_all1 (tl_gM) <|
  jx_all1 (tl_gR) <|
  jx_all1 (tl_ldI) <|
  jx_all1 (tl_iald) <|
  jx_all1 (tl_ldR) <|
  jx_all1 (tl_gM) <|
  jx_all1 (tl_gR) <|
  jx_all1 (tl_ldI) <|
  jx_all1 (tl_iald) <|
  jx_all1 (tl_i2) <|
  jx_all1 (tl_cI) <|
  jx_all1 (tl_i2) <|
  jx_all1 (tl_lsh) <|
  jx_all1 (tl_rL) <|
  jx_all0
def mk_94 : List (Nat × List Bool) := []
/-- RoadBench$Chances.cutOff(II)J -/
noncomputable def tb_95 (D : jx_D) : List (Nat × jx_A) := [(0, jx_ldR 0 1), (1, jx_gR 26 27 (fun _ => 0) 4), (4, jx_ldI 1 5), (5, jx_lald 6), (6, jx_stL 3 7 7), (7, jx_ldL 3 8), (8, jx_push (vl 0) 9), (9, jx_lcm 10), (10, jx_ne0 15 13), (13, jx_push (vl 0) 14), (14, jx_rL), (15, jx_ldR 0 16), (16, jx_gM 26 0 14 0 19), (19, jx_ldI 1 20), (20, jx_ldI 2 21), (21, jx_vI D 50 14 3 24), (24, jx_stI 5 7 26), (26, jx_push (vi 0) 27), (27, jx_stI 6 7 29), (29, jx_ldI 6 31), (31, jx_push (vi 20) 33), (33, jx_cge 76 36), (36, jx_ldI 5 38), (38, jx_eq0 76 41), (41, jx_ldL 3 42), (42, jx_push (vi 8) 44), (44, jx_ldR 0 45), (45, jx_gM 26 1 1 0 48), (48, jx_gR 1 5 (fun i => i) 51), (51, jx_ldI 5 53), (53, jx_cI D 63 1 56), (56, jx_iald 57), (57, jx_i2 (fun x y => x - y) 58), (58, jx_i2l 59), (59, jx_l2 (fun x y => x * y) 60), (60, jx_stL 3 7 61), (61, jx_ldI 5 63), (63, jx_ldI 5 65), (65, jx_push (vi 1) 66), (66, jx_i2 (fun x y => x - y) 67), (67, jx_i2 (fun x y => x &&& y) 68), (68, jx_stI 5 7 70), (70, jx_incI 6 7 1 73), (73, jx_go 29), (76, jx_ldL 3 77), (77, jx_push (vl 0) 78), (78, jx_lcm 79), (79, jx_ne0 86 82), (82, jx_push (vl 0) 83), (83, jx_go 93), (86, jx_ldL 3 87), (87, jx_ldR 0 88), (88, jx_ldI 2 89), (89, jx_vL D 94 26 2 92), (92, jx_l2 (fun x y => x * y) 93), (93, jx_rL)]
set_option maxRecDepth 100000 in
theorem tl_m95 (D : jx_D) : ∀ pc, jx_tl (jx_look (tb_95 D) pc) := jx_tlm <| by
  unfold tb_95
  exact jx_all1 (tl_ldR) <|
  jx_all1 (tl_gR) <|
  jx_all1 (tl_ldI) <|
  jx_all1 (tl_lald) <|
  jx_all1 (tl_stL) <|
  jx_all1 (tl_ldL) <|
  jx_all1 (tl_push) <|
  jx_all1 (tl_lcm) <|
  jx_all1 (tl_ne0) <|
  jx_all1 (tl_push) <|
  jx_all1 (tl_rL) <|
  jx_all1 (tl_ldR) <|
  jx_all1 (tl_gM) <|
  jx_all1 (tl_ldI) <|
  jx_all1 (tl_ldI) <|
  jx_all1 (tl_vI) <|
  jx_all1 (tl_stI) <|
  jx_all1 (tl_push) <|
  jx_all1 (tl_stI) <|
  jx_all1 (tl_ldI) <|
  jx_all1 (tl_push) <|
  jx_all1 (tl_cge) <|
  jx_all1 (tl_ldI) <|
  jx_all1 (tl_eq0) <|
  jx_all1 (tl_ldL) <|
  jx_all1 (tl_push) <|
  jx_all1 (tl_ldR) <|
  jx_all1 (tl_gM) <|
  jx_all1 (tl_gR) <|
  jx_all1 (tl_ldI) <|
  jx_all1 (tl_cI) <|
  jx_all1 (tl_iald) <|
  jx_all1 (tl_i2) <|
  jx_all1 (tl_i2l) <|
  jx_all1 (tl_l2) <|
  jx_all1 (tl_stL) <|
  jx_all1 (tl_ldI) <|
  jx_all1 (tl_ldI) <|
  jx_all1 (tl_push) <|
  jx_all1 (tl_i2) <|
  jx_all1 (tl_i2) <|
  jx_all1 (tl_stI) <|
  jx_all1 (tl_incI) <|
  jx_all1 (tl_go) <|
  jx_all1 (tl_ldL) <|
  jx_all1 (tl_push) <|
  jx_all1 (tl_lcm) <|
  jx_all1 (tl_ne0) <|
  jx_all1 (tl_push) <|
  jx_all1 (tl_go) <|
  jx_all1 (tl_ldL) <|
  jx_all1 (tl_ldR) <|
  jx_all1 (tl_ldI) <|
  jx_all1 (tl_vL) <|
  jx_all1 (tl_l2) <|
  jx_all1 (tl_rL) <|
  jx_all0
def mk_95 : List (Nat × List Bool) := [(7, [true, true, true, true, false, false, false]), (29, [true, false, true, true, false, true, true]), (61, [true, false, true, true, false, true, true]), (70, [true, false, true, true, false, true, true]), (76, [true, false, true, true, false, false, false]), (93, [false, false, false, false, false, false, false])]
/-- RoadBench.tell(I)I -/
noncomputable def tb_96 (D : jx_D) : List (Nat × jx_A) := [(0, jx_ldR 0 1), (1, jx_gI 0 6 4), (4, jx_push (vi 60) 6), (6, jx_clt 16 9), (9, jx_ldR 0 10), (10, jx_push (vi (-5)) 12), (12, jx_vI D 8 0 2 15), (15, jx_rI), (16, jx_ldR 0 17), (17, jx_gR 0 13 (fun _ => 0) 20), (20, jx_ldR 0 21), (21, jx_gI 0 6 24), (24, jx_ldI 1 25), (25, jx_iast 26), (26, jx_ldR 0 27), (27, jx_dup 28), (28, jx_gI 0 6 31), (31, jx_push (vi 1) 32), (32, jx_i2 (fun x y => x + y) 33), (33, jx_pI 0 6 36), (36, jx_ldR 0 37), (37, jx_gI 0 6 40), (40, jx_rI)]
set_option maxRecDepth 100000 in
theorem tl_m96 (D : jx_D) : ∀ pc, jx_tl (jx_look (tb_96 D) pc) := jx_tlm <| by
  unfold tb_96
  exact jx_all1 (tl_ldR) <|
  jx_all1 (tl_gI) <|
  jx_all1 (tl_push) <|
  jx_all1 (tl_clt) <|
  jx_all1 (tl_ldR) <|
  jx_all1 (tl_push) <|
  jx_all1 (tl_vI) <|
  jx_all1 (tl_rI) <|
  jx_all1 (tl_ldR) <|
  jx_all1 (tl_gR) <|
  jx_all1 (tl_ldR) <|
  jx_all1 (tl_gI) <|
  jx_all1 (tl_ldI) <|
  jx_all1 (tl_iast) <|
  jx_all1 (tl_ldR) <|
  jx_all1 (tl_dup) <|
  jx_all1 (tl_gI) <|
  jx_all1 (tl_push) <|
  jx_all1 (tl_i2) <|
  jx_all1 (tl_pI) <|
  jx_all1 (tl_ldR) <|
  jx_all1 (tl_gI) <|
  jx_all1 (tl_rI) <|
  jx_all0
def mk_96 : List (Nat × List Bool) := []
/-- RoadBench.would()I -/
noncomputable def tb_97 (D : jx_D) : List (Nat × jx_A) := [(0, jx_ldR 0 1), (1, jx_gI 0 6 4), (4, jx_stI 1 2 5), (5, jx_ldR 0 6), (6, jx_push (vi 0) 7), (7, jx_pI 0 6 10), (10, jx_ldI 1 11), (11, jx_push (vi 2) 12), (12, jx_dv (fun x y => x - x / y * y) 13), (13, jx_eq0 23 16), (16, jx_ldR 0 17), (17, jx_push (vi (-3)) 19), (19, jx_vI D 8 0 2 22), (22, jx_rI), (23, jx_ldR 0 24), (24, jx_ldR 0 25), (25, jx_gR 0 13 (fun _ => 0) 28), (28, jx_ldI 1 29), (29, jx_push (vi 2) 30), (30, jx_dv (fun x y => x / y) 31), (31, jx_vI D 36 0 3 34), (34, jx_eq0 43 37), (37, jx_ldR 0 38), (38, jx_push (vi (-1)) 39), (39, jx_vI D 8 0 2 42), (42, jx_rI), (43, jx_ldR 0 44), (44, jx_gR 0 14 (fun _ => 0) 47), (47, jx_ldR 0 48), (48, jx_gR 0 1 (fun _ => 0) 51), (51, jx_vV D 38 14 2 54), (54, jx_ldR 0 55), (55, jx_gR 0 14 (fun _ => 0) 58), (58, jx_ldR 0 59), (59, jx_gR 0 13 (fun _ => 0) 62), (62, jx_ldI 1 63), (63, jx_push (vi 2) 64), (64, jx_dv (fun x y => x / y) 65), (65, jx_vI D 98 14 3 68), (68, jx_rI)]
set_option maxRecDepth 100000 in
theorem tl_m97 (D : jx_D) : ∀ pc, jx_tl (jx_look (tb_97 D) pc) := jx_tlm <| by
  unfold tb_97
  exact jx_all1 (tl_ldR) <|
  jx_all1 (tl_gI) <|
  jx_all1 (tl_stI) <|
  jx_all1 (tl_ldR) <|
  jx_all1 (tl_push) <|
  jx_all1 (tl_pI) <|
  jx_all1 (tl_ldI) <|
  jx_all1 (tl_push) <|
  jx_all1 (tl_dv) <|
  jx_all1 (tl_eq0) <|
  jx_all1 (tl_ldR) <|
  jx_all1 (tl_push) <|
  jx_all1 (tl_vI) <|
  jx_all1 (tl_rI) <|
  jx_all1 (tl_ldR) <|
  jx_all1 (tl_ldR) <|
  jx_all1 (tl_gR) <|
  jx_all1 (tl_ldI) <|
  jx_all1 (tl_push) <|
  jx_all1 (tl_dv) <|
  jx_all1 (tl_vI) <|
  jx_all1 (tl_eq0) <|
  jx_all1 (tl_ldR) <|
  jx_all1 (tl_push) <|
  jx_all1 (tl_vI) <|
  jx_all1 (tl_rI) <|
  jx_all1 (tl_ldR) <|
  jx_all1 (tl_gR) <|
  jx_all1 (tl_ldR) <|
  jx_all1 (tl_gR) <|
  jx_all1 (tl_vV) <|
  jx_all1 (tl_ldR) <|
  jx_all1 (tl_gR) <|
  jx_all1 (tl_ldR) <|
  jx_all1 (tl_gR) <|
  jx_all1 (tl_ldI) <|
  jx_all1 (tl_push) <|
  jx_all1 (tl_dv) <|
  jx_all1 (tl_vI) <|
  jx_all1 (tl_rI) <|
  jx_all0
def mk_97 : List (Nat × List Bool) := []
/-- RoadBench$Plan.holdWithPairs([II)I -/
noncomputable def tb_98 (D : jx_D) : List (Nat × jx_A) := [(0, jx_ldR 0 1), (1, jx_gI 14 0 4), (4, jx_push (vi 2) 5), (5, jx_cge 10 8), (8, jx_push (vi 0) 9), (9, jx_rI), (10, jx_ldR 0 11), (11, jx_gI 14 1 14), (14, jx_ldI 2 15), (15, jx_i2 (fun x y => x + y) 16), (16, jx_stI 3 10 17), (17, jx_push (vi 1) 18), (18, jx_stI 4 10 20), (20, jx_ldI 4 22), (22, jx_ldR 0 23), (23, jx_gI 14 5 26), (26, jx_cge 136 29), (29, jx_ldI 4 31), (31, jx_ldR 0 32), (32, jx_gI 14 6 35), (35, jx_i2 (fun x y => x <<< (y &&& 31)) 36), (36, jx_stI 5 10 38), (38, jx_ldR 0 39), (39, jx_gR 14 18 (fun _ => 0) 42), (42, jx_ldI 5 44), (44, jx_iald 45), (45, jx_cI D 1 1 48), (48, jx_stI 6 10 50), (50, jx_push (vi 0) 51), (51, jx_stI 7 10 53), (53, jx_ldI 7 55), (55, jx_ldI 2 56), (56, jx_cge 123 59), (59, jx_ldI 5 61), (61, jx_ldR 1 62), (62, jx_push (vi 2) 63), (63, jx_ldI 7 65), (65, jx_i2 (fun x y => x * y) 66), (66, jx_iald 67), (67, jx_cI D 19 2 70), (70, jx_stI 8 10 72), (72, jx_ldI 5 74), (74, jx_ldR 1 75), (75, jx_push (vi 2) 76), (76, jx_ldI 7 78), (78, jx_i2 (fun x y => x * y) 79), (79, jx_push (vi 1) 80), (80, jx_i2 (fun x y => x + y) 81), (81, jx_iald 82), (82, jx_cI D 19 2 85), (85, jx_stI 9 10 87), (87, jx_ldR 0 88), (88, jx_gI 14 2 91), (91, jx_eq0 107 94), (94, jx_ldI 8 96), (96, jx_eq0 117 99), (99, jx_ldI 9 101), (101, jx_ne0 117 104), (104, jx_go 114), (107, jx_ldI 8 109), (109, jx_ldI 9 111), (111, jx_ceq 117 114), (114, jx_incI 6 10 1 117), (117, jx_incI 7 10 1 120), (120, jx_go 53), (123, jx_ldI 3 124), (124, jx_ldI 6 126), (126, jx_m2 jx_mn 129), (129, jx_stI 3 10 130), (130, jx_incI 4 10 1 133), (133, jx_go 20), (136, jx_ldI 3 137), (137, jx_rI)]
set_option maxRecDepth 100000 in
theorem tl_m98 (D : jx_D) : ∀ pc, jx_tl (jx_look (tb_98 D) pc) := jx_tlm <| by
  unfold tb_98
  exact jx_all1 (tl_ldR) <|
  jx_all1 (tl_gI) <|
  jx_all1 (tl_push) <|
  jx_all1 (tl_cge) <|
  jx_all1 (tl_push) <|
  jx_all1 (tl_rI) <|
  jx_all1 (tl_ldR) <|
  jx_all1 (tl_gI) <|
  jx_all1 (tl_ldI) <|
  jx_all1 (tl_i2) <|
  jx_all1 (tl_stI) <|
  jx_all1 (tl_push) <|
  jx_all1 (tl_stI) <|
  jx_all1 (tl_ldI) <|
  jx_all1 (tl_ldR) <|
  jx_all1 (tl_gI) <|
  jx_all1 (tl_cge) <|
  jx_all1 (tl_ldI) <|
  jx_all1 (tl_ldR) <|
  jx_all1 (tl_gI) <|
  jx_all1 (tl_i2) <|
  jx_all1 (tl_stI) <|
  jx_all1 (tl_ldR) <|
  jx_all1 (tl_gR) <|
  jx_all1 (tl_ldI) <|
  jx_all1 (tl_iald) <|
  jx_all1 (tl_cI) <|
  jx_all1 (tl_stI) <|
  jx_all1 (tl_push) <|
  jx_all1 (tl_stI) <|
  jx_all1 (tl_ldI) <|
  jx_all1 (tl_ldI) <|
  jx_all1 (tl_cge) <|
  jx_all1 (tl_ldI) <|
  jx_all1 (tl_ldR) <|
  jx_all1 (tl_push) <|
  jx_all1 (tl_ldI) <|
  jx_all1 (tl_i2) <|
  jx_all1 (tl_iald) <|
  jx_all1 (tl_cI) <|
  jx_all1 (tl_stI) <|
  jx_all1 (tl_ldI) <|
  jx_all1 (tl_ldR) <|
  jx_all1 (tl_push) <|
  jx_all1 (tl_ldI) <|
  jx_all1 (tl_i2) <|
  jx_all1 (tl_push) <|
  jx_all1 (tl_i2) <|
  jx_all1 (tl_iald) <|
  jx_all1 (tl_cI) <|
  jx_all1 (tl_stI) <|
  jx_all1 (tl_ldR) <|
  jx_all1 (tl_gI) <|
  jx_all1 (tl_eq0) <|
  jx_all1 (tl_ldI) <|
  jx_all1 (tl_eq0) <|
  jx_all1 (tl_ldI) <|
  jx_all1 (tl_ne0) <|
  jx_all1 (tl_go) <|
  jx_all1 (tl_ldI) <|
  jx_all1 (tl_ldI) <|
  jx_all1 (tl_ceq) <|
  jx_all1 (tl_incI) <|
  jx_all1 (tl_incI) <|
  jx_all1 (tl_go) <|
  jx_all1 (tl_ldI) <|
  jx_all1 (tl_ldI) <|
  jx_all1 (tl_m2) <|
  jx_all1 (tl_stI) <|
  jx_all1 (tl_incI) <|
  jx_all1 (tl_go) <|
  jx_all1 (tl_ldI) <|
  jx_all1 (tl_rI) <|
  jx_all0
def mk_98 : List (Nat × List Bool) := [(17, [true, true, true, true, false, false, false, false, false, false]), (20, [true, true, true, true, true, false, false, false, false, false]), (38, [true, true, true, true, true, true, false, false, false, false]), (53, [true, true, true, true, true, true, true, true, false, false]), (114, [true, true, true, true, true, true, true, true, false, false]), (117, [true, true, true, true, true, true, true, true, false, false]), (130, [true, true, true, true, true, false, false, false, false, false])]
/-- RoadBench.way(II)I -/
noncomputable def tb_99 (D : jx_D) : List (Nat × jx_A) := [(0, jx_ldR 0 1), (1, jx_gI 0 6 4), (4, jx_stI 3 5 5), (5, jx_ldR 0 6), (6, jx_push (vi 0) 7), (7, jx_pI 0 6 10), (10, jx_ldR 0 11), (11, jx_ldI 1 12), (12, jx_ldI 2 13), (13, jx_vI D 11 0 3 16), (16, jx_stI 4 5 18), (18, jx_ldI 4 20), (20, jx_eq0 30 23), (23, jx_ldR 0 24), (24, jx_ldI 4 26), (26, jx_vI D 8 0 2 29), (29, jx_rI), (30, jx_ldR 0 31), (31, jx_gR 0 1 (fun _ => 0) 34), (34, jx_ldI 1 35), (35, jx_ldR 0 36), (36, jx_gR 0 13 (fun _ => 0) 39), (39, jx_ldI 3 40), (40, jx_vI D 100 1 4 43), (43, jx_ldI 2 44), (44, jx_cne 51 47), (47, jx_push (vi 1) 48), (48, jx_go 52), (51, jx_push (vi 0) 52), (52, jx_rI)]
set_option maxRecDepth 100000 in
theorem tl_m99 (D : jx_D) : ∀ pc, jx_tl (jx_look (tb_99 D) pc) := jx_tlm <| by
  unfold tb_99
  exact jx_all1 (tl_ldR) <|
  jx_all1 (tl_gI) <|
  jx_all1 (tl_stI) <|
  jx_all1 (tl_ldR) <|
  jx_all1 (tl_push) <|
  jx_all1 (tl_pI) <|
  jx_all1 (tl_ldR) <|
  jx_all1 (tl_ldI) <|
  jx_all1 (tl_ldI) <|
  jx_all1 (tl_vI) <|
  jx_all1 (tl_stI) <|
  jx_all1 (tl_ldI) <|
  jx_all1 (tl_eq0) <|
  jx_all1 (tl_ldR) <|
  jx_all1 (tl_ldI) <|
  jx_all1 (tl_vI) <|
  jx_all1 (tl_rI) <|
  jx_all1 (tl_ldR) <|
  jx_all1 (tl_gR) <|
  jx_all1 (tl_ldI) <|
  jx_all1 (tl_ldR) <|
  jx_all1 (tl_gR) <|
  jx_all1 (tl_ldI) <|
  jx_all1 (tl_vI) <|
  jx_all1 (tl_ldI) <|
  jx_all1 (tl_cne) <|
  jx_all1 (tl_push) <|
  jx_all1 (tl_go) <|
  jx_all1 (tl_push) <|
  jx_all1 (tl_rI) <|
  jx_all0
def mk_99 : List (Nat × List Bool) := [(52, [false, false, false, false, false])]
/-- RoadBench$Net.endOfWay(I[II)I -/
noncomputable def tb_100 (D : jx_D) : List (Nat × jx_A) := [(0, jx_ldI 1 1), (1, jx_stI 4 7 3), (3, jx_push (vi 1) 4), (4, jx_ldI 1 5), (5, jx_i2 (fun x y => x <<< (y &&& 31)) 6), (6, jx_stI 5 7 8), (8, jx_push (vi 0) 9), (9, jx_stI 6 7 11), (11, jx_ldI 6 13), (13, jx_ldI 3 14), (14, jx_cge 61 17), (17, jx_ldR 0 18), (18, jx_ldR 2 19), (19, jx_ldI 6 21), (21, jx_iald 22), (22, jx_ldI 4 24), (24, jx_vI D 101 1 3 27), (27, jx_stI 4 7 29), (29, jx_ldI 4 31), (31, jx_lt0 44 34), (34, jx_ldI 5 36), (36, jx_ldI 4 38), (38, jx_cI D 19 2 41), (41, jx_eq0 46 44), (44, jx_push (vi (-1)) 45), (45, jx_rI), (46, jx_ldI 5 48), (48, jx_push (vi 1) 49), (49, jx_ldI 4 51), (51, jx_i2 (fun x y => x <<< (y &&& 31)) 52), (52, jx_i2 (fun x y => x ||| y) 53), (53, jx_stI 5 7 55), (55, jx_incI 6 7 1 58), (58, jx_go 11), (61, jx_ldI 4 63), (63, jx_rI)]
set_option maxRecDepth 100000 in
theorem tl_m100 (D : jx_D) : ∀ pc, jx_tl (jx_look (tb_100 D) pc) := jx_tlm <| by
  unfold tb_100
  exact jx_all1 (tl_ldI) <|
  jx_all1 (tl_stI) <|
  jx_all1 (tl_push) <|
  jx_all1 (tl_ldI) <|
  jx_all1 (tl_i2) <|
  jx_all1 (tl_stI) <|
  jx_all1 (tl_push) <|
  jx_all1 (tl_stI) <|
  jx_all1 (tl_ldI) <|
  jx_all1 (tl_ldI) <|
  jx_all1 (tl_cge) <|
  jx_all1 (tl_ldR) <|
  jx_all1 (tl_ldR) <|
  jx_all1 (tl_ldI) <|
  jx_all1 (tl_iald) <|
  jx_all1 (tl_ldI) <|
  jx_all1 (tl_vI) <|
  jx_all1 (tl_stI) <|
  jx_all1 (tl_ldI) <|
  jx_all1 (tl_lt0) <|
  jx_all1 (tl_ldI) <|
  jx_all1 (tl_ldI) <|
  jx_all1 (tl_cI) <|
  jx_all1 (tl_eq0) <|
  jx_all1 (tl_push) <|
  jx_all1 (tl_rI) <|
  jx_all1 (tl_ldI) <|
  jx_all1 (tl_push) <|
  jx_all1 (tl_ldI) <|
  jx_all1 (tl_i2) <|
  jx_all1 (tl_i2) <|
  jx_all1 (tl_stI) <|
  jx_all1 (tl_incI) <|
  jx_all1 (tl_go) <|
  jx_all1 (tl_ldI) <|
  jx_all1 (tl_rI) <|
  jx_all0
def mk_100 : List (Nat × List Bool) := [(8, [true, false, true, true, true, true, false]), (11, [true, false, true, true, true, true, true]), (44, [false, false, false, false, false, false, false]), (55, [true, false, true, true, true, true, true])]
/-- RoadBench$Net.otherEnd(II)I -/
noncomputable def tb_101 (D : jx_D) : List (Nat × jx_A) := [(0, jx_ldI 1 1), (1, jx_lt0 12 4), (4, jx_ldI 1 5), (5, jx_ldR 0 6), (6, jx_gI 1 1 9), (9, jx_clt 14 12), (12, jx_push (vi (-1)) 13), (13, jx_rI), (14, jx_ldR 0 15), (15, jx_gR 1 2 (fun i => i) 18), (18, jx_ldI 1 19), (19, jx_iald 20), (20, jx_ldI 2 21), (21, jx_cne 31 24), (24, jx_ldR 0 25), (25, jx_gR 1 3 (fun i => i) 28), (28, jx_ldI 1 29), (29, jx_iald 30), (30, jx_rI), (31, jx_ldR 0 32), (32, jx_gI 1 2 35), (35, jx_ne0 57 38), (38, jx_ldR 0 39), (39, jx_gR 1 3 (fun i => i) 42), (42, jx_ldI 1 43), (43, jx_iald 44), (44, jx_ldI 2 45), (45, jx_cne 57 48), (48, jx_ldR 0 49), (49, jx_gR 1 2 (fun i => i) 52), (52, jx_ldI 1 53), (53, jx_iald 54), (54, jx_go 58), (57, jx_push (vi (-1)) 58), (58, jx_rI)]
set_option maxRecDepth 100000 in
theorem tl_m101 (D : jx_D) : ∀ pc, jx_tl (jx_look (tb_101 D) pc) := jx_tlm <| by
  unfold tb_101
  exact jx_all1 (tl_ldI) <|
  jx_all1 (tl_lt0) <|
  jx_all1 (tl_ldI) <|
  jx_all1 (tl_ldR) <|
  jx_all1 (tl_gI) <|
  jx_all1 (tl_clt) <|
  jx_all1 (tl_push) <|
  jx_all1 (tl_rI) <|
  jx_all1 (tl_ldR) <|
  jx_all1 (tl_gR) <|
  jx_all1 (tl_ldI) <|
  jx_all1 (tl_iald) <|
  jx_all1 (tl_ldI) <|
  jx_all1 (tl_cne) <|
  jx_all1 (tl_ldR) <|
  jx_all1 (tl_gR) <|
  jx_all1 (tl_ldI) <|
  jx_all1 (tl_iald) <|
  jx_all1 (tl_rI) <|
  jx_all1 (tl_ldR) <|
  jx_all1 (tl_gI) <|
  jx_all1 (tl_ne0) <|
  jx_all1 (tl_ldR) <|
  jx_all1 (tl_gR) <|
  jx_all1 (tl_ldI) <|
  jx_all1 (tl_iald) <|
  jx_all1 (tl_ldI) <|
  jx_all1 (tl_cne) <|
  jx_all1 (tl_ldR) <|
  jx_all1 (tl_gR) <|
  jx_all1 (tl_ldI) <|
  jx_all1 (tl_iald) <|
  jx_all1 (tl_go) <|
  jx_all1 (tl_push) <|
  jx_all1 (tl_rI) <|
  jx_all0
def mk_101 : List (Nat × List Bool) := [(12, [false, false, false]), (57, [false, false, false]), (58, [false, false, false])]
/-- RoadBench.keep(I)I -/
noncomputable def tb_102 (D : jx_D) : List (Nat × jx_A) := [(0, jx_ldI 1 1), (1, jx_cI D 103 1 4), (4, jx_eq0 13 7), (7, jx_ldR 0 8), (8, jx_push (vi (-1)) 9), (9, jx_vI D 8 0 2 12), (12, jx_rI), (13, jx_ldR 0 14), (14, jx_gR 0 8 (fun _ => 0) 17), (17, jx_ldI 1 18), (18, jx_aald 19), (19, jx_ldR 0 20), (20, jx_gR 0 1 (fun _ => 0) 23), (23, jx_vV D 5 1 2 26), (26, jx_ldR 0 27), (27, jx_gR 0 9 (fun _ => 0) 30), (30, jx_ldI 1 31), (31, jx_ldR 0 32), (32, jx_vI D 104 0 1 35), (35, jx_iast 36), (36, jx_ldR 0 37), (37, jx_gR 0 9 (fun _ => 0) 40), (40, jx_ldI 1 41), (41, jx_iald 42), (42, jx_rI)]
set_option maxRecDepth 100000 in
theorem tl_m102 (D : jx_D) : ∀ pc, jx_tl (jx_look (tb_102 D) pc) := jx_tlm <| by
  unfold tb_102
  exact jx_all1 (tl_ldI) <|
  jx_all1 (tl_cI) <|
  jx_all1 (tl_eq0) <|
  jx_all1 (tl_ldR) <|
  jx_all1 (tl_push) <|
  jx_all1 (tl_vI) <|
  jx_all1 (tl_rI) <|
  jx_all1 (tl_ldR) <|
  jx_all1 (tl_gR) <|
  jx_all1 (tl_ldI) <|
  jx_all1 (tl_aald) <|
  jx_all1 (tl_ldR) <|
  jx_all1 (tl_gR) <|
  jx_all1 (tl_vV) <|
  jx_all1 (tl_ldR) <|
  jx_all1 (tl_gR) <|
  jx_all1 (tl_ldI) <|
  jx_all1 (tl_ldR) <|
  jx_all1 (tl_vI) <|
  jx_all1 (tl_iast) <|
  jx_all1 (tl_ldR) <|
  jx_all1 (tl_gR) <|
  jx_all1 (tl_ldI) <|
  jx_all1 (tl_iald) <|
  jx_all1 (tl_rI) <|
  jx_all0
def mk_102 : List (Nat × List Bool) := []
/-- RoadBench.isNoSlot(I)Z -/
noncomputable def tb_103 (D : jx_D) : List (Nat × jx_A) := [(0, jx_ldI 0 1), (1, jx_lt0 9 4), (4, jx_ldI 0 5), (5, jx_push (vi 4) 6), (6, jx_clt 13 9), (9, jx_push (vi 1) 10), (10, jx_go 14), (13, jx_push (vi 0) 14), (14, jx_rZ)]
set_option maxRecDepth 100000 in
theorem tl_m103 (D : jx_D) : ∀ pc, jx_tl (jx_look (tb_103 D) pc) := jx_tlm <| by
  unfold tb_103
  exact jx_all1 (tl_ldI) <|
  jx_all1 (tl_lt0) <|
  jx_all1 (tl_ldI) <|
  jx_all1 (tl_push) <|
  jx_all1 (tl_clt) <|
  jx_all1 (tl_push) <|
  jx_all1 (tl_go) <|
  jx_all1 (tl_push) <|
  jx_all1 (tl_rZ) <|
  jx_all0
def mk_103 : List (Nat × List Bool) := [(9, [false]), (14, [false])]
/-- RoadBench.kindOfNet()I -/
noncomputable def tb_104 (D : jx_D) : List (Nat × jx_A) := [(0, jx_ldR 0 1), (1, jx_gR 0 1 (fun _ => 0) 4), (4, jx_gI 1 2 7), (7, jx_eq0 12 10), (10, jx_push (vi 3) 11), (11, jx_rI), (12, jx_ldR 0 13), (13, jx_gR 0 14 (fun _ => 0) 16), (16, jx_ldR 0 17), (17, jx_gR 0 1 (fun _ => 0) 20), (20, jx_vV D 38 14 2 23), (23, jx_ldR 0 24), (24, jx_gR 0 14 (fun _ => 0) 27), (27, jx_ldR 0 28), (28, jx_gR 0 14 (fun _ => 0) 31), (31, jx_gI 14 4 34), (34, jx_push (vi 2) 35), (35, jx_vI D 70 14 3 38), (38, jx_eq0 43 41), (41, jx_push (vi 2) 42), (42, jx_rI), (43, jx_ldR 0 44), (44, jx_gR 0 14 (fun _ => 0) 47), (47, jx_ldR 0 48), (48, jx_gR 0 14 (fun _ => 0) 51), (51, jx_gI 14 4 54), (54, jx_vI D 55 14 2 57), (57, jx_eq0 64 60), (60, jx_push (vi 1) 61), (61, jx_go 65), (64, jx_push (vi 0) 65), (65, jx_rI)]
set_option maxRecDepth 100000 in
theorem tl_m104 (D : jx_D) : ∀ pc, jx_tl (jx_look (tb_104 D) pc) := jx_tlm <| by
  unfold tb_104
  exact jx_all1 (tl_ldR) <|
  jx_all1 (tl_gR) <|
  jx_all1 (tl_gI) <|
  jx_all1 (tl_eq0) <|
  jx_all1 (tl_push) <|
  jx_all1 (tl_rI) <|
  jx_all1 (tl_ldR) <|
  jx_all1 (tl_gR) <|
  jx_all1 (tl_ldR) <|
  jx_all1 (tl_gR) <|
  jx_all1 (tl_vV) <|
  jx_all1 (tl_ldR) <|
  jx_all1 (tl_gR) <|
  jx_all1 (tl_ldR) <|
  jx_all1 (tl_gR) <|
  jx_all1 (tl_gI) <|
  jx_all1 (tl_push) <|
  jx_all1 (tl_vI) <|
  jx_all1 (tl_eq0) <|
  jx_all1 (tl_push) <|
  jx_all1 (tl_rI) <|
  jx_all1 (tl_ldR) <|
  jx_all1 (tl_gR) <|
  jx_all1 (tl_ldR) <|
  jx_all1 (tl_gR) <|
  jx_all1 (tl_gI) <|
  jx_all1 (tl_vI) <|
  jx_all1 (tl_eq0) <|
  jx_all1 (tl_push) <|
  jx_all1 (tl_go) <|
  jx_all1 (tl_push) <|
  jx_all1 (tl_rI) <|
  jx_all0
def mk_104 : List (Nat × List Bool) := [(65, [false])]
/-- RoadBench.bring(I)I -/
noncomputable def tb_105 (D : jx_D) : List (Nat × jx_A) := [(0, jx_ldI 1 1), (1, jx_cI D 103 1 4), (4, jx_eq0 13 7), (7, jx_ldR 0 8), (8, jx_push (vi (-1)) 9), (9, jx_vI D 8 0 2 12), (12, jx_rI), (13, jx_ldR 0 14), (14, jx_gR 0 9 (fun _ => 0) 17), (17, jx_ldI 1 18), (18, jx_iald 19), (19, jx_push (vi (-1)) 20), (20, jx_cne 30 23), (23, jx_ldR 0 24), (24, jx_push (vi (-6)) 26), (26, jx_vI D 8 0 2 29), (29, jx_rI), (30, jx_ldR 0 31), (31, jx_gR 0 6 (fun _ => 0) 34), (34, jx_ldR 0 35), (35, jx_gR 0 1 (fun _ => 0) 38), (38, jx_vV D 4 6 2 41), (41, jx_ldR 0 42), (42, jx_gR 0 1 (fun _ => 0) 45), (45, jx_ldR 0 46), (46, jx_gR 0 8 (fun _ => 0) 49), (49, jx_ldI 1 50), (50, jx_aald 51), (51, jx_vV D 5 1 2 54), (54, jx_ldR 0 55), (55, jx_gR 0 1 (fun _ => 0) 58), (58, jx_gI 1 0 61), (61, jx_rI)]
set_option maxRecDepth 100000 in
theorem tl_m105 (D : jx_D) : ∀ pc, jx_tl (jx_look (tb_105 D) pc) := jx_tlm <| by
  unfold tb_105
  exact jx_all1 (tl_ldI) <|
  jx_all1 (tl_cI) <|
  jx_all1 (tl_eq0) <|
  jx_all1 (tl_ldR) <|
  jx_all1 (tl_push) <|
  jx_all1 (tl_vI) <|
  jx_all1 (tl_rI) <|
  jx_all1 (tl_ldR) <|
  jx_all1 (tl_gR) <|
  jx_all1 (tl_ldI) <|
  jx_all1 (tl_iald) <|
  jx_all1 (tl_push) <|
  jx_all1 (tl_cne) <|
  jx_all1 (tl_ldR) <|
  jx_all1 (tl_push) <|
  jx_all1 (tl_vI) <|
  jx_all1 (tl_rI) <|
  jx_all1 (tl_ldR) <|
  jx_all1 (tl_gR) <|
  jx_all1 (tl_ldR) <|
  jx_all1 (tl_gR) <|
  jx_all1 (tl_vV) <|
  jx_all1 (tl_ldR) <|
  jx_all1 (tl_gR) <|
  jx_all1 (tl_ldR) <|
  jx_all1 (tl_gR) <|
  jx_all1 (tl_ldI) <|
  jx_all1 (tl_aald) <|
  jx_all1 (tl_vV) <|
  jx_all1 (tl_ldR) <|
  jx_all1 (tl_gR) <|
  jx_all1 (tl_gI) <|
  jx_all1 (tl_rI) <|
  jx_all0
def mk_105 : List (Nat × List Bool) := []
/-- RoadBench.as(II)I -/
noncomputable def tb_106 (D : jx_D) : List (Nat × jx_A) := [(0, jx_ldI 1 1), (1, jx_cI D 103 1 4), (4, jx_ne0 19 7), (7, jx_ldI 2 8), (8, jx_lt0 19 11), (11, jx_ldI 2 12), (12, jx_gst 15), (15, jx_sln 16), (16, jx_clt 25 19), (19, jx_ldR 0 20), (20, jx_push (vi (-1)) 21), (21, jx_vI D 8 0 2 24), (24, jx_rI), (25, jx_ldR 0 26), (26, jx_gR 0 9 (fun _ => 0) 29), (29, jx_ldI 1 30), (30, jx_iald 31), (31, jx_push (vi (-1)) 32), (32, jx_cne 42 35), (35, jx_ldR 0 36), (36, jx_push (vi (-6)) 38), (38, jx_vI D 8 0 2 41), (41, jx_rI), (42, jx_ldR 0 43), (43, jx_gR 0 9 (fun _ => 0) 46), (46, jx_ldI 1 47), (47, jx_iald 48), (48, jx_ldI 2 49), (49, jx_cI D 107 2 52), (52, jx_ne0 62 55), (55, jx_ldR 0 56), (56, jx_push (vi (-4)) 58), (58, jx_vI D 8 0 2 61), (61, jx_rI), (62, jx_ldR 0 63), (63, jx_gR 0 8 (fun _ => 0) 66), (66, jx_ldI 1 67), (67, jx_aald 68), (68, jx_gI 1 1 71), (71, jx_rI)]
set_option maxRecDepth 100000 in
theorem tl_m106 (D : jx_D) : ∀ pc, jx_tl (jx_look (tb_106 D) pc) := jx_tlm <| by
  unfold tb_106
  exact jx_all1 (tl_ldI) <|
  jx_all1 (tl_cI) <|
  jx_all1 (tl_ne0) <|
  jx_all1 (tl_ldI) <|
  jx_all1 (tl_lt0) <|
  jx_all1 (tl_ldI) <|
  jx_all1 (tl_gst) <|
  jx_all1 (tl_sln) <|
  jx_all1 (tl_clt) <|
  jx_all1 (tl_ldR) <|
  jx_all1 (tl_push) <|
  jx_all1 (tl_vI) <|
  jx_all1 (tl_rI) <|
  jx_all1 (tl_ldR) <|
  jx_all1 (tl_gR) <|
  jx_all1 (tl_ldI) <|
  jx_all1 (tl_iald) <|
  jx_all1 (tl_push) <|
  jx_all1 (tl_cne) <|
  jx_all1 (tl_ldR) <|
  jx_all1 (tl_push) <|
  jx_all1 (tl_vI) <|
  jx_all1 (tl_rI) <|
  jx_all1 (tl_ldR) <|
  jx_all1 (tl_gR) <|
  jx_all1 (tl_ldI) <|
  jx_all1 (tl_iald) <|
  jx_all1 (tl_ldI) <|
  jx_all1 (tl_cI) <|
  jx_all1 (tl_ne0) <|
  jx_all1 (tl_ldR) <|
  jx_all1 (tl_push) <|
  jx_all1 (tl_vI) <|
  jx_all1 (tl_rI) <|
  jx_all1 (tl_ldR) <|
  jx_all1 (tl_gR) <|
  jx_all1 (tl_ldI) <|
  jx_all1 (tl_aald) <|
  jx_all1 (tl_gI) <|
  jx_all1 (tl_rI) <|
  jx_all0
def mk_106 : List (Nat × List Bool) := [(19, [true, false, false])]
/-- RoadBench.isKindUnder(II)Z -/
noncomputable def tb_107 (D : jx_D) : List (Nat × jx_A) := [(0, jx_ldI 0 1), (1, jx_stI 2 4 2), (2, jx_push (vi 0) 3), (3, jx_stI 3 4 4), (4, jx_ldI 3 5), (5, jx_gst 8), (8, jx_sln 9), (9, jx_cge 36 12), (12, jx_ldI 2 13), (13, jx_push (vi (-1)) 14), (14, jx_ceq 36 17), (17, jx_ldI 2 18), (18, jx_ldI 1 19), (19, jx_cne 24 22), (22, jx_push (vi 1) 23), (23, jx_rZ), (24, jx_gst 27), (27, jx_ldI 2 28), (28, jx_sld 29), (29, jx_stI 2 4 30), (30, jx_incI 3 4 1 33), (33, jx_go 4), (36, jx_push (vi 0) 37), (37, jx_rZ)]
set_option maxRecDepth 100000 in
theorem tl_m107 (D : jx_D) : ∀ pc, jx_tl (jx_look (tb_107 D) pc) := jx_tlm <| by
  unfold tb_107
  exact jx_all1 (tl_ldI) <|
  jx_all1 (tl_stI) <|
  jx_all1 (tl_push) <|
  jx_all1 (tl_stI) <|
  jx_all1 (tl_ldI) <|
  jx_all1 (tl_gst) <|
  jx_all1 (tl_sln) <|
  jx_all1 (tl_cge) <|
  jx_all1 (tl_ldI) <|
  jx_all1 (tl_push) <|
  jx_all1 (tl_ceq) <|
  jx_all1 (tl_ldI) <|
  jx_all1 (tl_ldI) <|
  jx_all1 (tl_cne) <|
  jx_all1 (tl_push) <|
  jx_all1 (tl_rZ) <|
  jx_all1 (tl_gst) <|
  jx_all1 (tl_ldI) <|
  jx_all1 (tl_sld) <|
  jx_all1 (tl_stI) <|
  jx_all1 (tl_incI) <|
  jx_all1 (tl_go) <|
  jx_all1 (tl_push) <|
  jx_all1 (tl_rZ) <|
  jx_all0
def mk_107 : List (Nat × List Bool) := [(4, [false, true, true, true]), (30, [false, true, true, true]), (36, [false, false, false, false])]
/-- RoadBench.told(I)I -/
noncomputable def tb_108 (D : jx_D) : List (Nat × jx_A) := [(0, jx_ldI 1 1), (1, jx_sw [(0, 44), (1, 52), (2, 60), (3, 76), (4, 110), (5, 115), (6, 123)] 128), (44, jx_ldR 0 45), (45, jx_gR 0 1 (fun _ => 0) 48), (48, jx_gI 1 0 51), (51, jx_rI), (52, jx_ldR 0 53), (53, jx_gR 0 1 (fun _ => 0) 56), (56, jx_gI 1 1 59), (59, jx_rI), (60, jx_ldR 0 61), (61, jx_gR 0 1 (fun _ => 0) 64), (64, jx_gI 1 2 67), (67, jx_eq0 74 70), (70, jx_push (vi 1) 71), (71, jx_go 75), (74, jx_push (vi 0) 75), (75, jx_rI), (76, jx_ldR 0 77), (77, jx_gR 0 14 (fun _ => 0) 80), (80, jx_ldR 0 81), (81, jx_gR 0 1 (fun _ => 0) 84), (84, jx_vV D 38 14 2 87), (87, jx_ldR 0 88), (88, jx_gR 0 14 (fun _ => 0) 91), (91, jx_ldR 0 92), (92, jx_gR 0 14 (fun _ => 0) 95), (95, jx_gI 14 4 98), (98, jx_vI D 55 14 2 101), (101, jx_eq0 108 104), (104, jx_push (vi 1) 105), (105, jx_go 109), (108, jx_push (vi 0) 109), (109, jx_rI), (110, jx_ldR 0 111), (111, jx_gI 0 6 114), (114, jx_rI), (115, jx_ldR 0 116), (116, jx_gR 0 1 (fun _ => 0) 119), (119, jx_vI D 109 1 1 122), (122, jx_rI), (123, jx_ldR 0 124), (124, jx_gI 0 7 127), (127, jx_rI), (128, jx_ldR 0 129), (129, jx_push (vi (-1)) 130), (130, jx_vI D 8 0 2 133), (133, jx_rI)]
set_option maxRecDepth 100000 in
theorem tl_m108 (D : jx_D) : ∀ pc, jx_tl (jx_look (tb_108 D) pc) := jx_tlm <| by
  unfold tb_108
  exact jx_all1 (tl_ldI) <|
  jx_all1 (tl_sw) <|
  jx_all1 (tl_ldR) <|
  jx_all1 (tl_gR) <|
  jx_all1 (tl_gI) <|
  jx_all1 (tl_rI) <|
  jx_all1 (tl_ldR) <|
  jx_all1 (tl_gR) <|
  jx_all1 (tl_gI) <|
  jx_all1 (tl_rI) <|
  jx_all1 (tl_ldR) <|
  jx_all1 (tl_gR) <|
  jx_all1 (tl_gI) <|
  jx_all1 (tl_eq0) <|
  jx_all1 (tl_push) <|
  jx_all1 (tl_go) <|
  jx_all1 (tl_push) <|
  jx_all1 (tl_rI) <|
  jx_all1 (tl_ldR) <|
  jx_all1 (tl_gR) <|
  jx_all1 (tl_ldR) <|
  jx_all1 (tl_gR) <|
  jx_all1 (tl_vV) <|
  jx_all1 (tl_ldR) <|
  jx_all1 (tl_gR) <|
  jx_all1 (tl_ldR) <|
  jx_all1 (tl_gR) <|
  jx_all1 (tl_gI) <|
  jx_all1 (tl_vI) <|
  jx_all1 (tl_eq0) <|
  jx_all1 (tl_push) <|
  jx_all1 (tl_go) <|
  jx_all1 (tl_push) <|
  jx_all1 (tl_rI) <|
  jx_all1 (tl_ldR) <|
  jx_all1 (tl_gI) <|
  jx_all1 (tl_rI) <|
  jx_all1 (tl_ldR) <|
  jx_all1 (tl_gR) <|
  jx_all1 (tl_vI) <|
  jx_all1 (tl_rI) <|
  jx_all1 (tl_ldR) <|
  jx_all1 (tl_gI) <|
  jx_all1 (tl_rI) <|
  jx_all1 (tl_ldR) <|
  jx_all1 (tl_push) <|
  jx_all1 (tl_vI) <|
  jx_all1 (tl_rI) <|
  jx_all0
def mk_108 : List (Nat × List Bool) := [(75, [false, false]), (109, [false, false])]
/-- RoadBench$Net.priceOfAll()I -/
noncomputable def tb_109 (D : jx_D) : List (Nat × jx_A) := [(0, jx_push (vi 0) 1), (1, jx_stI 1 3 2), (2, jx_push (vi 0) 3), (3, jx_stI 2 3 4), (4, jx_ldI 2 5), (5, jx_ldR 0 6), (6, jx_gI 1 1 9), (9, jx_cge 27 12), (12, jx_ldI 1 13), (13, jx_ldR 0 14), (14, jx_gR 1 4 (fun i => i) 17), (17, jx_ldI 2 18), (18, jx_iald 19), (19, jx_i2 (fun x y => x + y) 20), (20, jx_stI 1 3 21), (21, jx_incI 2 3 1 24), (24, jx_go 4), (27, jx_ldI 1 28), (28, jx_rI)]
set_option maxRecDepth 100000 in
theorem tl_m109 (D : jx_D) : ∀ pc, jx_tl (jx_look (tb_109 D) pc) := jx_tlm <| by
  unfold tb_109
  exact jx_all1 (tl_push) <|
  jx_all1 (tl_stI) <|
  jx_all1 (tl_push) <|
  jx_all1 (tl_stI) <|
  jx_all1 (tl_ldI) <|
  jx_all1 (tl_ldR) <|
  jx_all1 (tl_gI) <|
  jx_all1 (tl_cge) <|
  jx_all1 (tl_ldI) <|
  jx_all1 (tl_ldR) <|
  jx_all1 (tl_gR) <|
  jx_all1 (tl_ldI) <|
  jx_all1 (tl_iald) <|
  jx_all1 (tl_i2) <|
  jx_all1 (tl_stI) <|
  jx_all1 (tl_incI) <|
  jx_all1 (tl_go) <|
  jx_all1 (tl_ldI) <|
  jx_all1 (tl_rI) <|
  jx_all0
def mk_109 : List (Nat × List Bool) := [(4, [true, true, true]), (21, [true, true, true])]
