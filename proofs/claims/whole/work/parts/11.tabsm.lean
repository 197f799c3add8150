/-- RoadBenchModel.undo()I -/
noncomputable def tb_110 (D : jx_D) : List (Nat × jx_A) := [(0, jx_ldR 0 1), (1, jx_gI 30 7 4), (4, jx_ne0 14 7), (7, jx_ldR 0 8), (8, jx_push (vi (-6)) 10), (10, jx_vI D 111 30 2 13), (13, jx_rI), (14, jx_ldR 0 15), (15, jx_dup 16), (16, jx_gI 30 7 19), (19, jx_push (vi 1) 20), (20, jx_i2 (fun x y => x - y) 21), (21, jx_pI 30 7 24), (24, jx_ldR 0 25), (25, jx_ldR 0 26), (26, jx_gR 30 38 (fun _ => 0) 29), (29, jx_push (vi 84) 31), (31, jx_ldR 0 32), (32, jx_gI 30 7 35), (35, jx_i2 (fun x y => x * y) 36), (36, jx_vV D 112 30 3 39), (39, jx_ldR 0 40), (40, jx_gI 30 7 43), (43, jx_rI)]
set_option maxRecDepth 100000 in
theorem tl_m110 (D : jx_D) : ∀ pc, jx_tl (jx_look (tb_110 D) pc) := jx_tlm <| by
  unfold tb_110
  exact jx_all1 (tl_ldR) <|
  jx_all1 (tl_gI) <|
  jx_all1 (tl_ne0) <|
  jx_all1 (tl_ldR) <|
  jx_all1 (tl_push) <|
  jx_all1 (tl_vI) <|
  jx_all1 (tl_rI) <|
  jx_all1 (tl_ldR) <|
  jx_all1 (tl_dup) <|
  jx_all1 (tl_gI) <|
  jx_all1 (tl_push) <|
  jx_all1 (tl_i2) <|
  jx_all1 (tl_pI) <|
  jx_all1 (tl_ldR) <|
  jx_all1 (tl_ldR) <|
  jx_all1 (tl_gR) <|
  jx_all1 (tl_push) <|
  jx_all1 (tl_ldR) <|
  jx_all1 (tl_gI) <|
  jx_all1 (tl_i2) <|
  jx_all1 (tl_vV) <|
  jx_all1 (tl_ldR) <|
  jx_all1 (tl_gI) <|
  jx_all1 (tl_rI) <|
  jx_all0
def mk_110 : List (Nat × List Bool) := []
/-- RoadBenchModel.finding(I)I -/
noncomputable def tb_111 (D : jx_D) : List (Nat × jx_A) := [(0, jx_ldR 0 1), (1, jx_dup 2), (2, jx_gI 30 16 5), (5, jx_push (vi 1) 6), (6, jx_i2 (fun x y => x + y) 7), (7, jx_pI 30 16 10), (10, jx_ldI 1 11), (11, jx_rI)]
set_option maxRecDepth 100000 in
theorem tl_m111 (D : jx_D) : ∀ pc, jx_tl (jx_look (tb_111 D) pc) := jx_tlm <| by
  unfold tb_111
  exact jx_all1 (tl_ldR) <|
  jx_all1 (tl_dup) <|
  jx_all1 (tl_gI) <|
  jx_all1 (tl_push) <|
  jx_all1 (tl_i2) <|
  jx_all1 (tl_pI) <|
  jx_all1 (tl_ldI) <|
  jx_all1 (tl_rI) <|
  jx_all0
def mk_111 : List (Nat × List Bool) := []
/-- RoadBenchModel.load([II)V -/
noncomputable def tb_112 (D : jx_D) : List (Nat × jx_A) := [(0, jx_ldR 0 1), (1, jx_ldR 1 2), (2, jx_ldI 2 3), (3, jx_push (vi 0) 4), (4, jx_i2 (fun x y => x + y) 5), (5, jx_iald 6), (6, jx_pI 30 0 9), (9, jx_ldR 0 10), (10, jx_ldR 1 11), (11, jx_ldI 2 12), (12, jx_push (vi 1) 13), (13, jx_i2 (fun x y => x + y) 14), (14, jx_iald 15), (15, jx_pI 30 1 18), (18, jx_ldR 0 19), (19, jx_ldR 1 20), (20, jx_ldI 2 21), (21, jx_push (vi 2) 22), (22, jx_i2 (fun x y => x + y) 23), (23, jx_iald 24), (24, jx_push (vi 1) 25), (25, jx_cne 32 28), (28, jx_push (vi 1) 29), (29, jx_go 33), (32, jx_push (vi 0) 33), (33, jx_pZ 30 2 36), (36, jx_push (vi 0) 37), (37, jx_stI 3 4 38), (38, jx_ldI 3 39), (39, jx_ldR 0 40), (40, jx_gI 30 1 43), (43, jx_cge 118 46), (46, jx_ldR 0 47), (47, jx_gR 30 33 (fun _ => 0) 50), (50, jx_ldI 3 51), (51, jx_ldR 1 52), (52, jx_ldI 2 53), (53, jx_push (vi 4) 54), (54, jx_i2 (fun x y => x + y) 55), (55, jx_push (vi 4) 56), (56, jx_ldI 3 57), (57, jx_i2 (fun x y => x * y) 58), (58, jx_i2 (fun x y => x + y) 59), (59, jx_iald 60), (60, jx_iast 61), (61, jx_ldR 0 62), (62, jx_gR 30 34 (fun _ => 0) 65), (65, jx_ldI 3 66), (66, jx_ldR 1 67), (67, jx_ldI 2 68), (68, jx_push (vi 4) 69), (69, jx_i2 (fun x y => x + y) 70), (70, jx_push (vi 4) 71), (71, jx_ldI 3 72), (72, jx_i2 (fun x y => x * y) 73), (73, jx_i2 (fun x y => x + y) 74), (74, jx_push (vi 1) 75), (75, jx_i2 (fun x y => x + y) 76), (76, jx_iald 77), (77, jx_iast 78), (78, jx_ldR 0 79), (79, jx_gR 30 35 (fun _ => 0) 82), (82, jx_ldI 3 83), (83, jx_ldR 1 84), (84, jx_ldI 2 85), (85, jx_push (vi 4) 86), (86, jx_i2 (fun x y => x + y) 87), (87, jx_push (vi 4) 88), (88, jx_ldI 3 89), (89, jx_i2 (fun x y => x * y) 90), (90, jx_i2 (fun x y => x + y) 91), (91, jx_push (vi 2) 92), (92, jx_i2 (fun x y => x + y) 93), (93, jx_iald 94), (94, jx_iast 95), (95, jx_ldR 0 96), (96, jx_gR 30 36 (fun _ => 0) 99), (99, jx_ldI 3 100), (100, jx_ldR 1 101), (101, jx_ldI 2 102), (102, jx_push (vi 4) 103), (103, jx_i2 (fun x y => x + y) 104), (104, jx_push (vi 4) 105), (105, jx_ldI 3 106), (106, jx_i2 (fun x y => x * y) 107), (107, jx_i2 (fun x y => x + y) 108), (108, jx_push (vi 3) 109), (109, jx_i2 (fun x y => x + y) 110), (110, jx_iald 111), (111, jx_iast 112), (112, jx_incI 3 4 1 115), (115, jx_go 38), (118, jx_rV)]
set_option maxRecDepth 100000 in
theorem tl_m112 (D : jx_D) : ∀ pc, jx_tl (jx_look (tb_112 D) pc) := jx_tlm <| by
  unfold tb_112
  exact jx_all1 (tl_ldR) <|
  jx_all1 (tl_ldR) <|
  jx_all1 (tl_ldI) <|
  jx_all1 (tl_push) <|
  jx_all1 (tl_i2) <|
  jx_all1 (tl_iald) <|
  jx_all1 (tl_pI) <|
  jx_all1 (tl_ldR) <|
  jx_all1 (tl_ldR) <|
  jx_all1 (tl_ldI) <|
  jx_all1 (tl_push) <|
  jx_all1 (tl_i2) <|
  jx_all1 (tl_iald) <|
  jx_all1 (tl_pI) <|
  jx_all1 (tl_ldR) <|
  jx_all1 (tl_ldR) <|
  jx_all1 (tl_ldI) <|
  jx_all1 (tl_push) <|
  jx_all1 (tl_i2) <|
  jx_all1 (tl_iald) <|
  jx_all1 (tl_push) <|
  jx_all1 (tl_cne) <|
  jx_all1 (tl_push) <|
  jx_all1 (tl_go) <|
  jx_all1 (tl_push) <|
  jx_all1 (tl_pZ) <|
  jx_all1 (tl_push) <|
  jx_all1 (tl_stI) <|
  jx_all1 (tl_ldI) <|
  jx_all1 (tl_ldR) <|
  jx_all1 (tl_gI) <|
  jx_all1 (tl_cge) <|
  jx_all1 (tl_ldR) <|
  jx_all1 (tl_gR) <|
  jx_all1 (tl_ldI) <|
  jx_all1 (tl_ldR) <|
  jx_all1 (tl_ldI) <|
  jx_all1 (tl_push) <|
  jx_all1 (tl_i2) <|
  jx_all1 (tl_push) <|
  jx_all1 (tl_ldI) <|
  jx_all1 (tl_i2) <|
  jx_all1 (tl_i2) <|
  jx_all1 (tl_iald) <|
  jx_all1 (tl_iast) <|
  jx_all1 (tl_ldR) <|
  jx_all1 (tl_gR) <|
  jx_all1 (tl_ldI) <|
  jx_all1 (tl_ldR) <|
  jx_all1 (tl_ldI) <|
  jx_all1 (tl_push) <|
  jx_all1 (tl_i2) <|
  jx_all1 (tl_push) <|
  jx_all1 (tl_ldI) <|
  jx_all1 (tl_i2) <|
  jx_all1 (tl_i2) <|
  jx_all1 (tl_push) <|
  jx_all1 (tl_i2) <|
  jx_all1 (tl_iald) <|
  jx_all1 (tl_iast) <|
  jx_all1 (tl_ldR) <|
  jx_all1 (tl_gR) <|
  jx_all1 (tl_ldI) <|
  jx_all1 (tl_ldR) <|
  jx_all1 (tl_ldI) <|
  jx_all1 (tl_push) <|
  jx_all1 (tl_i2) <|
  jx_all1 (tl_push) <|
  jx_all1 (tl_ldI) <|
  jx_all1 (tl_i2) <|
  jx_all1 (tl_i2) <|
  jx_all1 (tl_push) <|
  jx_all1 (tl_i2) <|
  jx_all1 (tl_iald) <|
  jx_all1 (tl_iast) <|
  jx_all1 (tl_ldR) <|
  jx_all1 (tl_gR) <|
  jx_all1 (tl_ldI) <|
  jx_all1 (tl_ldR) <|
  jx_all1 (tl_ldI) <|
  jx_all1 (tl_push) <|
  jx_all1 (tl_i2) <|
  jx_all1 (tl_push) <|
  jx_all1 (tl_ldI) <|
  jx_all1 (tl_i2) <|
  jx_all1 (tl_i2) <|
  jx_all1 (tl_push) <|
  jx_all1 (tl_i2) <|
  jx_all1 (tl_iald) <|
  jx_all1 (tl_iast) <|
  jx_all1 (tl_incI) <|
  jx_all1 (tl_go) <|
  jx_all1 (tl_rV) <|
  jx_all0
def mk_112 : List (Nat × List Bool) := [(9, [true, true, true, false]), (18, [true, true, true, false]), (33, [true, true, true, false]), (36, [true, true, true, false]), (38, [true, true, true, true]), (61, [true, true, true, true]), (78, [true, true, true, true]), (95, [true, true, true, true]), (112, [true, true, true, true])]
/-- RoadBenchModel.anew(Z)I -/
noncomputable def tb_113 (D : jx_D) : List (Nat × jx_A) := [(0, jx_ldR 0 1), (1, jx_vV D 114 30 1 4), (4, jx_ldR 0 5), (5, jx_gI 30 0 8), (8, jx_stI 2 3 9), (9, jx_ldR 0 10), (10, jx_push (vi 0) 11), (11, jx_pI 30 0 14), (14, jx_ldR 0 15), (15, jx_push (vi 0) 16), (16, jx_pI 30 1 19), (19, jx_ldR 0 20), (20, jx_ldI 1 21), (21, jx_pZ 30 2 24), (24, jx_ldI 2 25), (25, jx_rI)]
set_option maxRecDepth 100000 in
theorem tl_m113 (D : jx_D) : ∀ pc, jx_tl (jx_look (tb_113 D) pc) := jx_tlm <| by
  unfold tb_113
  exact jx_all1 (tl_ldR) <|
  jx_all1 (tl_vV) <|
  jx_all1 (tl_ldR) <|
  jx_all1 (tl_gI) <|
  jx_all1 (tl_stI) <|
  jx_all1 (tl_ldR) <|
  jx_all1 (tl_push) <|
  jx_all1 (tl_pI) <|
  jx_all1 (tl_ldR) <|
  jx_all1 (tl_push) <|
  jx_all1 (tl_pI) <|
  jx_all1 (tl_ldR) <|
  jx_all1 (tl_ldI) <|
  jx_all1 (tl_pZ) <|
  jx_all1 (tl_ldI) <|
  jx_all1 (tl_rI) <|
  jx_all0
def mk_113 : List (Nat × List Bool) := []
/-- RoadBenchModel.keepNet()V -/
noncomputable def tb_114 (D : jx_D) : List (Nat × jx_A) := [(0, jx_ldR 0 1), (1, jx_gI 30 7 4), (4, jx_push (vi 30) 6), (6, jx_cne 49 9), (9, jx_push (vi 0) 10), (10, jx_stI 1 2 11), (11, jx_ldI 1 12), (12, jx_push (vi 2436) 15), (15, jx_cge 39 18), (18, jx_ldR 0 19), (19, jx_gR 30 38 (fun _ => 0) 22), (22, jx_ldI 1 23), (23, jx_ldR 0 24), (24, jx_gR 30 38 (fun _ => 0) 27), (27, jx_ldI 1 28), (28, jx_push (vi 84) 30), (30, jx_i2 (fun x y => x + y) 31), (31, jx_iald 32), (32, jx_iast 33), (33, jx_incI 1 2 1 36), (36, jx_go 11), (39, jx_ldR 0 40), (40, jx_dup 41), (41, jx_gI 30 7 44), (44, jx_push (vi 1) 45), (45, jx_i2 (fun x y => x - y) 46), (46, jx_pI 30 7 49), (49, jx_ldR 0 50), (50, jx_ldR 0 51), (51, jx_gR 30 38 (fun _ => 0) 54), (54, jx_push (vi 84) 56), (56, jx_ldR 0 57), (57, jx_gI 30 7 60), (60, jx_i2 (fun x y => x * y) 61), (61, jx_vV D 115 30 3 64), (64, jx_ldR 0 65), (65, jx_dup 66), (66, jx_gI 30 7 69), (69, jx_push (vi 1) 70), (70, jx_i2 (fun x y => x + y) 71), (71, jx_pI 30 7 74), (74, jx_rV)]
set_option maxRecDepth 100000 in
theorem tl_m114 (D : jx_D) : ∀ pc, jx_tl (jx_look (tb_114 D) pc) := jx_tlm <| by
  unfold tb_114
  exact jx_all1 (tl_ldR) <|
  jx_all1 (tl_gI) <|
  jx_all1 (tl_push) <|
  jx_all1 (tl_cne) <|
  jx_all1 (tl_push) <|
  jx_all1 (tl_stI) <|
  jx_all1 (tl_ldI) <|
  jx_all1 (tl_push) <|
  jx_all1 (tl_cge) <|
  jx_all1 (tl_ldR) <|
  jx_all1 (tl_gR) <|
  jx_all1 (tl_ldI) <|
  jx_all1 (tl_ldR) <|
  jx_all1 (tl_gR) <|
  jx_all1 (tl_ldI) <|
  jx_all1 (tl_push) <|
  jx_all1 (tl_i2) <|
  jx_all1 (tl_iald) <|
  jx_all1 (tl_iast) <|
  jx_all1 (tl_incI) <|
  jx_all1 (tl_go) <|
  jx_all1 (tl_ldR) <|
  jx_all1 (tl_dup) <|
  jx_all1 (tl_gI) <|
  jx_all1 (tl_push) <|
  jx_all1 (tl_i2) <|
  jx_all1 (tl_pI) <|
  jx_all1 (tl_ldR) <|
  jx_all1 (tl_ldR) <|
  jx_all1 (tl_gR) <|
  jx_all1 (tl_push) <|
  jx_all1 (tl_ldR) <|
  jx_all1 (tl_gI) <|
  jx_all1 (tl_i2) <|
  jx_all1 (tl_vV) <|
  jx_all1 (tl_ldR) <|
  jx_all1 (tl_dup) <|
  jx_all1 (tl_gI) <|
  jx_all1 (tl_push) <|
  jx_all1 (tl_i2) <|
  jx_all1 (tl_pI) <|
  jx_all1 (tl_rV) <|
  jx_all0
def mk_114 : List (Nat × List Bool) := [(11, [true, true]), (49, [true, false])]
/-- RoadBenchModel.save([II)V -/
noncomputable def tb_115 (D : jx_D) : List (Nat × jx_A) := [(0, jx_ldR 1 1), (1, jx_ldI 2 2), (2, jx_push (vi 0) 3), (3, jx_i2 (fun x y => x + y) 4), (4, jx_ldR 0 5), (5, jx_gI 30 0 8), (8, jx_iast 9), (9, jx_ldR 1 10), (10, jx_ldI 2 11), (11, jx_push (vi 1) 12), (12, jx_i2 (fun x y => x + y) 13), (13, jx_ldR 0 14), (14, jx_gI 30 1 17), (17, jx_iast 18), (18, jx_ldR 1 19), (19, jx_ldI 2 20), (20, jx_push (vi 2) 21), (21, jx_i2 (fun x y => x + y) 22), (22, jx_ldR 0 23), (23, jx_gI 30 2 26), (26, jx_eq0 33 29), (29, jx_push (vi 1) 30), (30, jx_go 34), (33, jx_push (vi 0) 34), (34, jx_iast 35), (35, jx_push (vi 0) 36), (36, jx_stI 3 4 37), (37, jx_ldI 3 38), (38, jx_ldR 0 39), (39, jx_gI 30 1 42), (42, jx_cge 117 45), (45, jx_ldR 1 46), (46, jx_ldI 2 47), (47, jx_push (vi 4) 48), (48, jx_i2 (fun x y => x + y) 49), (49, jx_push (vi 4) 50), (50, jx_ldI 3 51), (51, jx_i2 (fun x y => x * y) 52), (52, jx_i2 (fun x y => x + y) 53), (53, jx_ldR 0 54), (54, jx_gR 30 33 (fun _ => 0) 57), (57, jx_ldI 3 58), (58, jx_iald 59), (59, jx_iast 60), (60, jx_ldR 1 61), (61, jx_ldI 2 62), (62, jx_push (vi 4) 63), (63, jx_i2 (fun x y => x + y) 64), (64, jx_push (vi 4) 65), (65, jx_ldI 3 66), (66, jx_i2 (fun x y => x * y) 67), (67, jx_i2 (fun x y => x + y) 68), (68, jx_push (vi 1) 69), (69, jx_i2 (fun x y => x + y) 70), (70, jx_ldR 0 71), (71, jx_gR 30 34 (fun _ => 0) 74), (74, jx_ldI 3 75), (75, jx_iald 76), (76, jx_iast 77), (77, jx_ldR 1 78), (78, jx_ldI 2 79), (79, jx_push (vi 4) 80), (80, jx_i2 (fun x y => x + y) 81), (81, jx_push (vi 4) 82), (82, jx_ldI 3 83), (83, jx_i2 (fun x y => x * y) 84), (84, jx_i2 (fun x y => x + y) 85), (85, jx_push (vi 2) 86), (86, jx_i2 (fun x y => x + y) 87), (87, jx_ldR 0 88), (88, jx_gR 30 35 (fun _ => 0) 91), (91, jx_ldI 3 92), (92, jx_iald 93), (93, jx_iast 94), (94, jx_ldR 1 95), (95, jx_ldI 2 96), (96, jx_push (vi 4) 97), (97, jx_i2 (fun x y => x + y) 98), (98, jx_push (vi 4) 99), (99, jx_ldI 3 100), (100, jx_i2 (fun x y => x * y) 101), (101, jx_i2 (fun x y => x + y) 102), (102, jx_push (vi 3) 103), (103, jx_i2 (fun x y => x + y) 104), (104, jx_ldR 0 105), (105, jx_gR 30 36 (fun _ => 0) 108), (108, jx_ldI 3 109), (109, jx_iald 110), (110, jx_iast 111), (111, jx_incI 3 4 1 114), (114, jx_go 37), (117, jx_rV)]
set_option maxRecDepth 100000 in
theorem tl_m115 (D : jx_D) : ∀ pc, jx_tl (jx_look (tb_115 D) pc) := jx_tlm <| by
  unfold tb_115
  exact jx_all1 (tl_ldR) <|
  jx_all1 (tl_ldI) <|
  jx_all1 (tl_push) <|
  jx_all1 (tl_i2) <|
  jx_all1 (tl_ldR) <|
  jx_all1 (tl_gI) <|
  jx_all1 (tl_iast) <|
  jx_all1 (tl_ldR) <|
  jx_all1 (tl_ldI) <|
  jx_all1 (tl_push) <|
  jx_all1 (tl_i2) <|
  jx_all1 (tl_ldR) <|
  jx_all1 (tl_gI) <|
  jx_all1 (tl_iast) <|
  jx_all1 (tl_ldR) <|
  jx_all1 (tl_ldI) <|
  jx_all1 (tl_push) <|
  jx_all1 (tl_i2) <|
  jx_all1 (tl_ldR) <|
  jx_all1 (tl_gI) <|
  jx_all1 (tl_eq0) <|
  jx_all1 (tl_push) <|
  jx_all1 (tl_go) <|
  jx_all1 (tl_push) <|
  jx_all1 (tl_iast) <|
  jx_all1 (tl_push) <|
  jx_all1 (tl_stI) <|
  jx_all1 (tl_ldI) <|
  jx_all1 (tl_ldR) <|
  jx_all1 (tl_gI) <|
  jx_all1 (tl_cge) <|
  jx_all1 (tl_ldR) <|
  jx_all1 (tl_ldI) <|
  jx_all1 (tl_push) <|
  jx_all1 (tl_i2) <|
  jx_all1 (tl_push) <|
  jx_all1 (tl_ldI) <|
  jx_all1 (tl_i2) <|
  jx_all1 (tl_i2) <|
  jx_all1 (tl_ldR) <|
  jx_all1 (tl_gR) <|
  jx_all1 (tl_ldI) <|
  jx_all1 (tl_iald) <|
  jx_all1 (tl_iast) <|
  jx_all1 (tl_ldR) <|
  jx_all1 (tl_ldI) <|
  jx_all1 (tl_push) <|
  jx_all1 (tl_i2) <|
  jx_all1 (tl_push) <|
  jx_all1 (tl_ldI) <|
  jx_all1 (tl_i2) <|
  jx_all1 (tl_i2) <|
  jx_all1 (tl_push) <|
  jx_all1 (tl_i2) <|
  jx_all1 (tl_ldR) <|
  jx_all1 (tl_gR) <|
  jx_all1 (tl_ldI) <|
  jx_all1 (tl_iald) <|
  jx_all1 (tl_iast) <|
  jx_all1 (tl_ldR) <|
  jx_all1 (tl_ldI) <|
  jx_all1 (tl_push) <|
  jx_all1 (tl_i2) <|
  jx_all1 (tl_push) <|
  jx_all1 (tl_ldI) <|
  jx_all1 (tl_i2) <|
  jx_all1 (tl_i2) <|
  jx_all1 (tl_push) <|
  jx_all1 (tl_i2) <|
  jx_all1 (tl_ldR) <|
  jx_all1 (tl_gR) <|
  jx_all1 (tl_ldI) <|
  jx_all1 (tl_iald) <|
  jx_all1 (tl_iast) <|
  jx_all1 (tl_ldR) <|
  jx_all1 (tl_ldI) <|
  jx_all1 (tl_push) <|
  jx_all1 (tl_i2) <|
  jx_all1 (tl_push) <|
  jx_all1 (tl_ldI) <|
  jx_all1 (tl_i2) <|
  jx_all1 (tl_i2) <|
  jx_all1 (tl_push) <|
  jx_all1 (tl_i2) <|
  jx_all1 (tl_ldR) <|
  jx_all1 (tl_gR) <|
  jx_all1 (tl_ldI) <|
  jx_all1 (tl_iald) <|
  jx_all1 (tl_iast) <|
  jx_all1 (tl_incI) <|
  jx_all1 (tl_go) <|
  jx_all1 (tl_rV) <|
  jx_all0
def mk_115 : List (Nat × List Bool) := [(9, [true, true, true, false]), (18, [true, true, true, false]), (34, [true, true, true, false]), (35, [true, true, true, false]), (37, [true, true, true, true]), (60, [true, true, true, true]), (77, [true, true, true, true]), (94, [true, true, true, true]), (111, [true, true, true, true])]
/-- RoadBenchModel.post()I -/
noncomputable def tb_116 (D : jx_D) : List (Nat × jx_A) := [(0, jx_ldR 0 1), (1, jx_gI 30 0 4), (4, jx_push (vi 8) 6), (6, jx_cne 16 9), (9, jx_ldR 0 10), (10, jx_push (vi (-5)) 12), (12, jx_vI D 111 30 2 15), (15, jx_rI), (16, jx_ldR 0 17), (17, jx_vV D 114 30 1 20), (20, jx_ldR 0 21), (21, jx_dup 22), (22, jx_gI 30 0 25), (25, jx_push (vi 1) 26), (26, jx_i2 (fun x y => x + y) 27), (27, jx_pI 30 0 30), (30, jx_ldR 0 31), (31, jx_gI 30 0 34), (34, jx_push (vi 1) 35), (35, jx_i2 (fun x y => x - y) 36), (36, jx_rI)]
set_option maxRecDepth 100000 in
theorem tl_m116 (D : jx_D) : ∀ pc, jx_tl (jx_look (tb_116 D) pc) := jx_tlm <| by
  unfold tb_116
  exact jx_all1 (tl_ldR) <|
  jx_all1 (tl_gI) <|
  jx_all1 (tl_push) <|
  jx_all1 (tl_cne) <|
  jx_all1 (tl_ldR) <|
  jx_all1 (tl_push) <|
  jx_all1 (tl_vI) <|
  jx_all1 (tl_rI) <|
  jx_all1 (tl_ldR) <|
  jx_all1 (tl_vV) <|
  jx_all1 (tl_ldR) <|
  jx_all1 (tl_dup) <|
  jx_all1 (tl_gI) <|
  jx_all1 (tl_push) <|
  jx_all1 (tl_i2) <|
  jx_all1 (tl_pI) <|
  jx_all1 (tl_ldR) <|
  jx_all1 (tl_gI) <|
  jx_all1 (tl_push) <|
  jx_all1 (tl_i2) <|
  jx_all1 (tl_rI) <|
  jx_all0
def mk_116 : List (Nat × List Bool) := []
/-- RoadBenchModel.road(II)I -/
noncomputable def tb_117 (D : jx_D) : List (Nat × jx_A) := [(0, jx_ldR 0 1), (1, jx_ldI 1 2), (2, jx_vI D 118 30 2 5), (5, jx_eq0 16 8), (8, jx_ldR 0 9), (9, jx_ldI 2 10), (10, jx_vI D 118 30 2 13), (13, jx_ne0 22 16), (16, jx_ldR 0 17), (17, jx_push (vi (-1)) 18), (18, jx_vI D 111 30 2 21), (21, jx_rI), (22, jx_ldI 1 23), (23, jx_ldI 2 24), (24, jx_cne 34 27), (27, jx_ldR 0 28), (28, jx_push (vi (-3)) 30), (30, jx_vI D 111 30 2 33), (33, jx_rI), (34, jx_ldR 0 35), (35, jx_gI 30 1 38), (38, jx_push (vi 20) 40), (40, jx_cne 50 43), (43, jx_ldR 0 44), (44, jx_push (vi (-5)) 46), (46, jx_vI D 111 30 2 49), (49, jx_rI), (50, jx_ldR 0 51), (51, jx_vV D 114 30 1 54), (54, jx_ldR 0 55), (55, jx_ldI 1 56), (56, jx_ldI 2 57), (57, jx_vV D 119 30 3 60), (60, jx_ldR 0 61), (61, jx_gI 30 1 64), (64, jx_push (vi 1) 65), (65, jx_i2 (fun x y => x - y) 66), (66, jx_rI)]
set_option maxRecDepth 100000 in
theorem tl_m117 (D : jx_D) : ∀ pc, jx_tl (jx_look (tb_117 D) pc) := jx_tlm <| by
  unfold tb_117
  exact jx_all1 (tl_ldR) <|
  jx_all1 (tl_ldI) <|
  jx_all1 (tl_vI) <|
  jx_all1 (tl_eq0) <|
  jx_all1 (tl_ldR) <|
  jx_all1 (tl_ldI) <|
  jx_all1 (tl_vI) <|
  jx_all1 (tl_ne0) <|
  jx_all1 (tl_ldR) <|
  jx_all1 (tl_push) <|
  jx_all1 (tl_vI) <|
  jx_all1 (tl_rI) <|
  jx_all1 (tl_ldI) <|
  jx_all1 (tl_ldI) <|
  jx_all1 (tl_cne) <|
  jx_all1 (tl_ldR) <|
  jx_all1 (tl_push) <|
  jx_all1 (tl_vI) <|
  jx_all1 (tl_rI) <|
  jx_all1 (tl_ldR) <|
  jx_all1 (tl_gI) <|
  jx_all1 (tl_push) <|
  jx_all1 (tl_cne) <|
  jx_all1 (tl_ldR) <|
  jx_all1 (tl_push) <|
  jx_all1 (tl_vI) <|
  jx_all1 (tl_rI) <|
  jx_all1 (tl_ldR) <|
  jx_all1 (tl_vV) <|
  jx_all1 (tl_ldR) <|
  jx_all1 (tl_ldI) <|
  jx_all1 (tl_ldI) <|
  jx_all1 (tl_vV) <|
  jx_all1 (tl_ldR) <|
  jx_all1 (tl_gI) <|
  jx_all1 (tl_push) <|
  jx_all1 (tl_i2) <|
  jx_all1 (tl_rI) <|
  jx_all0
def mk_117 : List (Nat × List Bool) := [(16, [true, false, false])]
/-- RoadBenchModel.isPost(I)Z -/
noncomputable def tb_118 (D : jx_D) : List (Nat × jx_A) := [(0, jx_ldI 1 1), (1, jx_lt0 16 4), (4, jx_ldI 1 5), (5, jx_ldR 0 6), (6, jx_gI 30 0 9), (9, jx_cge 16 12), (12, jx_push (vi 1) 13), (13, jx_go 17), (16, jx_push (vi 0) 17), (17, jx_rZ)]
set_option maxRecDepth 100000 in
theorem tl_m118 (D : jx_D) : ∀ pc, jx_tl (jx_look (tb_118 D) pc) := jx_tlm <| by
  unfold tb_118
  exact jx_all1 (tl_ldI) <|
  jx_all1 (tl_lt0) <|
  jx_all1 (tl_ldI) <|
  jx_all1 (tl_ldR) <|
  jx_all1 (tl_gI) <|
  jx_all1 (tl_cge) <|
  jx_all1 (tl_push) <|
  jx_all1 (tl_go) <|
  jx_all1 (tl_push) <|
  jx_all1 (tl_rZ) <|
  jx_all0
def mk_118 : List (Nat × List Bool) := [(16, [false, false]), (17, [false, false])]
/-- RoadBenchModel.addRoad(II)V -/
noncomputable def tb_119 (D : jx_D) : List (Nat × jx_A) := [(0, jx_ldR 0 1), (1, jx_gR 30 33 (fun _ => 0) 4), (4, jx_ldR 0 5), (5, jx_gI 30 1 8), (8, jx_ldI 1 9), (9, jx_iast 10), (10, jx_ldR 0 11), (11, jx_gR 30 34 (fun _ => 0) 14), (14, jx_ldR 0 15), (15, jx_gI 30 1 18), (18, jx_ldI 2 19), (19, jx_iast 20), (20, jx_ldR 0 21), (21, jx_gR 30 35 (fun _ => 0) 24), (24, jx_ldR 0 25), (25, jx_gI 30 1 28), (28, jx_push (vi 1) 29), (29, jx_iast 30), (30, jx_ldR 0 31), (31, jx_gR 30 36 (fun _ => 0) 34), (34, jx_ldR 0 35), (35, jx_gI 30 1 38), (38, jx_push (vi 4) 39), (39, jx_iast 40), (40, jx_ldR 0 41), (41, jx_dup 42), (42, jx_gI 30 1 45), (45, jx_push (vi 1) 46), (46, jx_i2 (fun x y => x + y) 47), (47, jx_pI 30 1 50), (50, jx_rV)]
set_option maxRecDepth 100000 in
theorem tl_m119 (D : jx_D) : ∀ pc, jx_tl (jx_look (tb_119 D) pc) := jx_tlm <| by
  unfold tb_119
  exact jx_all1 (tl_ldR) <|
  jx_all1 (tl_gR) <|
  jx_all1 (tl_ldR) <|
  jx_all1 (tl_gI) <|
  jx_all1 (tl_ldI) <|
  jx_all1 (tl_iast) <|
  jx_all1 (tl_ldR) <|
  jx_all1 (tl_gR) <|
  jx_all1 (tl_ldR) <|
  jx_all1 (tl_gI) <|
  jx_all1 (tl_ldI) <|
  jx_all1 (tl_iast) <|
  jx_all1 (tl_ldR) <|
  jx_all1 (tl_gR) <|
  jx_all1 (tl_ldR) <|
  jx_all1 (tl_gI) <|
  jx_all1 (tl_push) <|
  jx_all1 (tl_iast) <|
  jx_all1 (tl_ldR) <|
  jx_all1 (tl_gR) <|
  jx_all1 (tl_ldR) <|
  jx_all1 (tl_gI) <|
  jx_all1 (tl_push) <|
  jx_all1 (tl_iast) <|
  jx_all1 (tl_ldR) <|
  jx_all1 (tl_dup) <|
  jx_all1 (tl_gI) <|
  jx_all1 (tl_push) <|
  jx_all1 (tl_i2) <|
  jx_all1 (tl_pI) <|
  jx_all1 (tl_rV) <|
  jx_all0
def mk_119 : List (Nat × List Bool) := []
/-- RoadBenchModel.worth(IZI)I -/
noncomputable def tb_120 (D : jx_D) : List (Nat × jx_A) := [(0, jx_ldR 0 1), (1, jx_ldI 1 2), (2, jx_vI D 121 30 2 5), (5, jx_eq0 28 8), (8, jx_ldI 3 9), (9, jx_lt0 28 12), (12, jx_ldI 3 13), (13, jx_ldI 2 14), (14, jx_eq0 22 17), (17, jx_push (vi 8) 19), (19, jx_go 25), (22, jx_push (vi 1000) 25), (25, jx_cle 34 28), (28, jx_ldR 0 29), (29, jx_push (vi (-1)) 30), (30, jx_vI D 111 30 2 33), (33, jx_rI), (34, jx_ldR 0 35), (35, jx_vV D 114 30 1 38), (38, jx_ldI 2 39), (39, jx_eq0 51 42), (42, jx_ldR 0 43), (43, jx_gR 30 36 (fun _ => 0) 46), (46, jx_ldI 1 47), (47, jx_iald 48), (48, jx_go 57), (51, jx_ldR 0 52), (52, jx_gR 30 35 (fun _ => 0) 55), (55, jx_ldI 1 56), (56, jx_iald 57), (57, jx_stI 4 5 59), (59, jx_ldI 2 60), (60, jx_eq0 73 63), (63, jx_ldR 0 64), (64, jx_gR 30 36 (fun _ => 0) 67), (67, jx_ldI 1 68), (68, jx_ldI 3 69), (69, jx_iast 70), (70, jx_go 80), (73, jx_ldR 0 74), (74, jx_gR 30 35 (fun _ => 0) 77), (77, jx_ldI 1 78), (78, jx_ldI 3 79), (79, jx_iast 80), (80, jx_ldI 4 82), (82, jx_rI)]
set_option maxRecDepth 100000 in
theorem tl_m120 (D : jx_D) : ∀ pc, jx_tl (jx_look (tb_120 D) pc) := jx_tlm <| by
  unfold tb_120
  exact jx_all1 (tl_ldR) <|
  jx_all1 (tl_ldI) <|
  jx_all1 (tl_vI) <|
  jx_all1 (tl_eq0) <|
  jx_all1 (tl_ldI) <|
  jx_all1 (tl_lt0) <|
  jx_all1 (tl_ldI) <|
  jx_all1 (tl_ldI) <|
  jx_all1 (tl_eq0) <|
  jx_all1 (tl_push) <|
  jx_all1 (tl_go) <|
  jx_all1 (tl_push) <|
  jx_all1 (tl_cle) <|
  jx_all1 (tl_ldR) <|
  jx_all1 (tl_push) <|
  jx_all1 (tl_vI) <|
  jx_all1 (tl_rI) <|
  jx_all1 (tl_ldR) <|
  jx_all1 (tl_vV) <|
  jx_all1 (tl_ldI) <|
  jx_all1 (tl_eq0) <|
  jx_all1 (tl_ldR) <|
  jx_all1 (tl_gR) <|
  jx_all1 (tl_ldI) <|
  jx_all1 (tl_iald) <|
  jx_all1 (tl_go) <|
  jx_all1 (tl_ldR) <|
  jx_all1 (tl_gR) <|
  jx_all1 (tl_ldI) <|
  jx_all1 (tl_iald) <|
  jx_all1 (tl_stI) <|
  jx_all1 (tl_ldI) <|
  jx_all1 (tl_eq0) <|
  jx_all1 (tl_ldR) <|
  jx_all1 (tl_gR) <|
  jx_all1 (tl_ldI) <|
  jx_all1 (tl_ldI) <|
  jx_all1 (tl_iast) <|
  jx_all1 (tl_go) <|
  jx_all1 (tl_ldR) <|
  jx_all1 (tl_gR) <|
  jx_all1 (tl_ldI) <|
  jx_all1 (tl_ldI) <|
  jx_all1 (tl_iast) <|
  jx_all1 (tl_ldI) <|
  jx_all1 (tl_rI) <|
  jx_all0
def mk_120 : List (Nat × List Bool) := [(25, [true, true, true, true, false]), (28, [true, false, false, false, false]), (57, [true, true, true, true, false]), (80, [false, false, false, false, true])]
/-- RoadBenchModel.isRoad(I)Z -/
noncomputable def tb_121 (D : jx_D) : List (Nat × jx_A) := [(0, jx_ldI 1 1), (1, jx_lt0 16 4), (4, jx_ldI 1 5), (5, jx_ldR 0 6), (6, jx_gI 30 1 9), (9, jx_cge 16 12), (12, jx_push (vi 1) 13), (13, jx_go 17), (16, jx_push (vi 0) 17), (17, jx_rZ)]
set_option maxRecDepth 100000 in
theorem tl_m121 (D : jx_D) : ∀ pc, jx_tl (jx_look (tb_121 D) pc) := jx_tlm <| by
  unfold tb_121
  exact jx_all1 (tl_ldI) <|
  jx_all1 (tl_lt0) <|
  jx_all1 (tl_ldI) <|
  jx_all1 (tl_ldR) <|
  jx_all1 (tl_gI) <|
  jx_all1 (tl_cge) <|
  jx_all1 (tl_push) <|
  jx_all1 (tl_go) <|
  jx_all1 (tl_push) <|
  jx_all1 (tl_rZ) <|
  jx_all0
def mk_121 : List (Nat × List Bool) := [(16, [false, false]), (17, [false, false])]
/-- RoadBenchModel.drop(I)I -/
noncomputable def tb_122 (D : jx_D) : List (Nat × jx_A) := [(0, jx_ldR 0 1), (1, jx_ldI 1 2), (2, jx_vI D 121 30 2 5), (5, jx_ne0 14 8), (8, jx_ldR 0 9), (9, jx_push (vi (-1)) 10), (10, jx_vI D 111 30 2 13), (13, jx_rI), (14, jx_ldR 0 15), (15, jx_vV D 114 30 1 18), (18, jx_ldR 0 19), (19, jx_ldI 1 20), (20, jx_vV D 123 30 2 23), (23, jx_ldR 0 24), (24, jx_gI 30 1 27), (27, jx_rI)]
set_option maxRecDepth 100000 in
theorem tl_m122 (D : jx_D) : ∀ pc, jx_tl (jx_look (tb_122 D) pc) := jx_tlm <| by
  unfold tb_122
  exact jx_all1 (tl_ldR) <|
  jx_all1 (tl_ldI) <|
  jx_all1 (tl_vI) <|
  jx_all1 (tl_ne0) <|
  jx_all1 (tl_ldR) <|
  jx_all1 (tl_push) <|
  jx_all1 (tl_vI) <|
  jx_all1 (tl_rI) <|
  jx_all1 (tl_ldR) <|
  jx_all1 (tl_vV) <|
  jx_all1 (tl_ldR) <|
  jx_all1 (tl_ldI) <|
  jx_all1 (tl_vV) <|
  jx_all1 (tl_ldR) <|
  jx_all1 (tl_gI) <|
  jx_all1 (tl_rI) <|
  jx_all0
def mk_122 : List (Nat × List Bool) := []
/-- RoadBenchModel.remove(I)V -/
noncomputable def tb_123 (D : jx_D) : List (Nat × jx_A) := [(0, jx_ldR 0 1), (1, jx_dup 2), (2, jx_gI 30 1 5), (5, jx_push (vi 1) 6), (6, jx_i2 (fun x y => x - y) 7), (7, jx_pI 30 1 10), (10, jx_ldI 1 11), (11, jx_stI 2 3 12), (12, jx_ldI 2 13), (13, jx_ldR 0 14), (14, jx_gI 30 1 17), (17, jx_cge 82 20), (20, jx_ldR 0 21), (21, jx_gR 30 33 (fun _ => 0) 24), (24, jx_ldI 2 25), (25, jx_ldR 0 26), (26, jx_gR 30 33 (fun _ => 0) 29), (29, jx_ldI 2 30), (30, jx_push (vi 1) 31), (31, jx_i2 (fun x y => x + y) 32), (32, jx_iald 33), (33, jx_iast 34), (34, jx_ldR 0 35), (35, jx_gR 30 34 (fun _ => 0) 38), (38, jx_ldI 2 39), (39, jx_ldR 0 40), (40, jx_gR 30 34 (fun _ => 0) 43), (43, jx_ldI 2 44), (44, jx_push (vi 1) 45), (45, jx_i2 (fun x y => x + y) 46), (46, jx_iald 47), (47, jx_iast 48), (48, jx_ldR 0 49), (49, jx_gR 30 35 (fun _ => 0) 52), (52, jx_ldI 2 53), (53, jx_ldR 0 54), (54, jx_gR 30 35 (fun _ => 0) 57), (57, jx_ldI 2 58), (58, jx_push (vi 1) 59), (59, jx_i2 (fun x y => x + y) 60), (60, jx_iald 61), (61, jx_iast 62), (62, jx_ldR 0 63), (63, jx_gR 30 36 (fun _ => 0) 66), (66, jx_ldI 2 67), (67, jx_ldR 0 68), (68, jx_gR 30 36 (fun _ => 0) 71), (71, jx_ldI 2 72), (72, jx_push (vi 1) 73), (73, jx_i2 (fun x y => x + y) 74), (74, jx_iald 75), (75, jx_iast 76), (76, jx_incI 2 3 1 79), (79, jx_go 12), (82, jx_rV)]
set_option maxRecDepth 100000 in
theorem tl_m123 (D : jx_D) : ∀ pc, jx_tl (jx_look (tb_123 D) pc) := jx_tlm <| by
  unfold tb_123
  exact jx_all1 (tl_ldR) <|
  jx_all1 (tl_dup) <|
  jx_all1 (tl_gI) <|
  jx_all1 (tl_push) <|
  jx_all1 (tl_i2) <|
  jx_all1 (tl_pI) <|
  jx_all1 (tl_ldI) <|
  jx_all1 (tl_stI) <|
  jx_all1 (tl_ldI) <|
  jx_all1 (tl_ldR) <|
  jx_all1 (tl_gI) <|
  jx_all1 (tl_cge) <|
  jx_all1 (tl_ldR) <|
  jx_all1 (tl_gR) <|
  jx_all1 (tl_ldI) <|
  jx_all1 (tl_ldR) <|
  jx_all1 (tl_gR) <|
  jx_all1 (tl_ldI) <|
  jx_all1 (tl_push) <|
  jx_all1 (tl_i2) <|
  jx_all1 (tl_iald) <|
  jx_all1 (tl_iast) <|
  jx_all1 (tl_ldR) <|
  jx_all1 (tl_gR) <|
  jx_all1 (tl_ldI) <|
  jx_all1 (tl_ldR) <|
  jx_all1 (tl_gR) <|
  jx_all1 (tl_ldI) <|
  jx_all1 (tl_push) <|
  jx_all1 (tl_i2) <|
  jx_all1 (tl_iald) <|
  jx_all1 (tl_iast) <|
  jx_all1 (tl_ldR) <|
  jx_all1 (tl_gR) <|
  jx_all1 (tl_ldI) <|
  jx_all1 (tl_ldR) <|
  jx_all1 (tl_gR) <|
  jx_all1 (tl_ldI) <|
  jx_all1 (tl_push) <|
  jx_all1 (tl_i2) <|
  jx_all1 (tl_iald) <|
  jx_all1 (tl_iast) <|
  jx_all1 (tl_ldR) <|
  jx_all1 (tl_gR) <|
  jx_all1 (tl_ldI) <|
  jx_all1 (tl_ldR) <|
  jx_all1 (tl_gR) <|
  jx_all1 (tl_ldI) <|
  jx_all1 (tl_push) <|
  jx_all1 (tl_i2) <|
  jx_all1 (tl_iald) <|
  jx_all1 (tl_iast) <|
  jx_all1 (tl_incI) <|
  jx_all1 (tl_go) <|
  jx_all1 (tl_rV) <|
  jx_all0
def mk_123 : List (Nat × List Bool) := [(10, [true, true, false]), (12, [true, false, true]), (34, [true, false, true]), (48, [true, false, true]), (62, [true, false, true]), (76, [true, false, true])]
/-- RoadBenchModel.join(II)I -/
noncomputable def tb_124 (D : jx_D) : List (Nat × jx_A) := [(0, jx_ldR 0 1), (1, jx_ldI 1 2), (2, jx_vI D 118 30 2 5), (5, jx_eq0 16 8), (8, jx_ldR 0 9), (9, jx_ldI 2 10), (10, jx_vI D 118 30 2 13), (13, jx_ne0 22 16), (16, jx_ldR 0 17), (17, jx_push (vi (-1)) 18), (18, jx_vI D 111 30 2 21), (21, jx_rI), (22, jx_ldI 1 23), (23, jx_ldI 2 24), (24, jx_clt 34 27), (27, jx_ldR 0 28), (28, jx_push (vi (-3)) 30), (30, jx_vI D 111 30 2 33), (33, jx_rI), (34, jx_ldR 0 35), (35, jx_vV D 114 30 1 38), (38, jx_ldR 0 39), (39, jx_gI 30 1 42), (42, jx_push (vi 1) 43), (43, jx_i2 (fun x y => x - y) 44), (44, jx_stI 3 4 45), (45, jx_ldI 3 46), (46, jx_lt0 109 49), (49, jx_ldR 0 50), (50, jx_gR 30 33 (fun _ => 0) 53), (53, jx_ldI 3 54), (54, jx_ldR 0 55), (55, jx_gR 30 33 (fun _ => 0) 58), (58, jx_ldI 3 59), (59, jx_iald 60), (60, jx_ldI 1 61), (61, jx_ldI 2 62), (62, jx_cI D 125 3 65), (65, jx_iast 66), (66, jx_ldR 0 67), (67, jx_gR 30 34 (fun _ => 0) 70), (70, jx_ldI 3 71), (71, jx_ldR 0 72), (72, jx_gR 30 34 (fun _ => 0) 75), (75, jx_ldI 3 76), (76, jx_iald 77), (77, jx_ldI 1 78), (78, jx_ldI 2 79), (79, jx_cI D 125 3 82), (82, jx_iast 83), (83, jx_ldR 0 84), (84, jx_gR 30 33 (fun _ => 0) 87), (87, jx_ldI 3 88), (88, jx_iald 89), (89, jx_ldR 0 90), (90, jx_gR 30 34 (fun _ => 0) 93), (93, jx_ldI 3 94), (94, jx_iald 95), (95, jx_cne 103 98), (98, jx_ldR 0 99), (99, jx_ldI 3 100), (100, jx_vV D 123 30 2 103), (103, jx_incI 3 4 (-1) 106), (106, jx_go 45), (109, jx_ldR 0 110), (110, jx_dup 111), (111, jx_gI 30 0 114), (114, jx_push (vi 1) 115), (115, jx_i2 (fun x y => x - y) 116), (116, jx_pI 30 0 119), (119, jx_ldR 0 120), (120, jx_gI 30 0 123), (123, jx_rI)]
set_option maxRecDepth 100000 in
theorem tl_m124 (D : jx_D) : ∀ pc, jx_tl (jx_look (tb_124 D) pc) := jx_tlm <| by
  unfold tb_124
  exact jx_all1 (tl_ldR) <|
  jx_all1 (tl_ldI) <|
  jx_all1 (tl_vI) <|
  jx_all1 (tl_eq0) <|
  jx_all1 (tl_ldR) <|
  jx_all1 (tl_ldI) <|
  jx_all1 (tl_vI) <|
  jx_all1 (tl_ne0) <|
  jx_all1 (tl_ldR) <|
  jx_all1 (tl_push) <|
  jx_all1 (tl_vI) <|
  jx_all1 (tl_rI) <|
  jx_all1 (tl_ldI) <|
  jx_all1 (tl_ldI) <|
  jx_all1 (tl_clt) <|
  jx_all1 (tl_ldR) <|
  jx_all1 (tl_push) <|
  jx_all1 (tl_vI) <|
  jx_all1 (tl_rI) <|
  jx_all1 (tl_ldR) <|
  jx_all1 (tl_vV) <|
  jx_all1 (tl_ldR) <|
  jx_all1 (tl_gI) <|
  jx_all1 (tl_push) <|
  jx_all1 (tl_i2) <|
  jx_all1 (tl_stI) <|
  jx_all1 (tl_ldI) <|
  jx_all1 (tl_lt0) <|
  jx_all1 (tl_ldR) <|
  jx_all1 (tl_gR) <|
  jx_all1 (tl_ldI) <|
  jx_all1 (tl_ldR) <|
  jx_all1 (tl_gR) <|
  jx_all1 (tl_ldI) <|
  jx_all1 (tl_iald) <|
  jx_all1 (tl_ldI) <|
  jx_all1 (tl_ldI) <|
  jx_all1 (tl_cI) <|
  jx_all1 (tl_iast) <|
  jx_all1 (tl_ldR) <|
  jx_all1 (tl_gR) <|
  jx_all1 (tl_ldI) <|
  jx_all1 (tl_ldR) <|
  jx_all1 (tl_gR) <|
  jx_all1 (tl_ldI) <|
  jx_all1 (tl_iald) <|
  jx_all1 (tl_ldI) <|
  jx_all1 (tl_ldI) <|
  jx_all1 (tl_cI) <|
  jx_all1 (tl_iast) <|
  jx_all1 (tl_ldR) <|
  jx_all1 (tl_gR) <|
  jx_all1 (tl_ldI) <|
  jx_all1 (tl_iald) <|
  jx_all1 (tl_ldR) <|
  jx_all1 (tl_gR) <|
  jx_all1 (tl_ldI) <|
  jx_all1 (tl_iald) <|
  jx_all1 (tl_cne) <|
  jx_all1 (tl_ldR) <|
  jx_all1 (tl_ldI) <|
  jx_all1 (tl_vV) <|
  jx_all1 (tl_incI) <|
  jx_all1 (tl_go) <|
  jx_all1 (tl_ldR) <|
  jx_all1 (tl_dup) <|
  jx_all1 (tl_gI) <|
  jx_all1 (tl_push) <|
  jx_all1 (tl_i2) <|
  jx_all1 (tl_pI) <|
  jx_all1 (tl_ldR) <|
  jx_all1 (tl_gI) <|
  jx_all1 (tl_rI) <|
  jx_all0
def mk_124 : List (Nat × List Bool) := [(16, [true, false, false, false]), (45, [true, true, true, true]), (103, [true, true, true, true])]
/-- RoadBenchModel.joined(III)I -/
noncomputable def tb_125 (D : jx_D) : List (Nat × jx_A) := [(0, jx_ldI 0 1), (1, jx_ldI 2 2), (2, jx_cne 9 5), (5, jx_ldI 1 6), (6, jx_go 21), (9, jx_ldI 0 10), (10, jx_ldI 2 11), (11, jx_cle 20 14), (14, jx_ldI 0 15), (15, jx_push (vi 1) 16), (16, jx_i2 (fun x y => x - y) 17), (17, jx_go 21), (20, jx_ldI 0 21), (21, jx_rI)]
set_option maxRecDepth 100000 in
theorem tl_m125 (D : jx_D) : ∀ pc, jx_tl (jx_look (tb_125 D) pc) := jx_tlm <| by
  unfold tb_125
  exact jx_all1 (tl_ldI) <|
  jx_all1 (tl_ldI) <|
  jx_all1 (tl_cne) <|
  jx_all1 (tl_ldI) <|
  jx_all1 (tl_go) <|
  jx_all1 (tl_ldI) <|
  jx_all1 (tl_ldI) <|
  jx_all1 (tl_cle) <|
  jx_all1 (tl_ldI) <|
  jx_all1 (tl_push) <|
  jx_all1 (tl_i2) <|
  jx_all1 (tl_go) <|
  jx_all1 (tl_ldI) <|
  jx_all1 (tl_rI) <|
  jx_all0
def mk_125 : List (Nat × List Bool) := [(21, [false, false, false])]
/-- RoadBenchModel.of(II)I -/
noncomputable def tb_126 (D : jx_D) : List (Nat × jx_A) := [(0, jx_ldR 0 1), (1, jx_ldI 1 2), (2, jx_vI D 121 30 2 5), (5, jx_eq0 17 8), (8, jx_ldI 2 9), (9, jx_lt0 17 12), (12, jx_ldI 2 13), (13, jx_push (vi 3) 14), (14, jx_cle 23 17), (17, jx_ldR 0 18), (18, jx_push (vi (-1)) 19), (19, jx_vI D 111 30 2 22), (22, jx_rI), (23, jx_ldI 2 24), (24, jx_ne0 36 27), (27, jx_ldR 0 28), (28, jx_gR 30 33 (fun _ => 0) 31), (31, jx_ldI 1 32), (32, jx_iald 33), (33, jx_go 70), (36, jx_ldI 2 37), (37, jx_push (vi 1) 38), (38, jx_cne 50 41), (41, jx_ldR 0 42), (42, jx_gR 30 34 (fun _ => 0) 45), (45, jx_ldI 1 46), (46, jx_iald 47), (47, jx_go 70), (50, jx_ldI 2 51), (51, jx_push (vi 2) 52), (52, jx_cne 64 55), (55, jx_ldR 0 56), (56, jx_gR 30 35 (fun _ => 0) 59), (59, jx_ldI 1 60), (60, jx_iald 61), (61, jx_go 70), (64, jx_ldR 0 65), (65, jx_gR 30 36 (fun _ => 0) 68), (68, jx_ldI 1 69), (69, jx_iald 70), (70, jx_rI)]
set_option maxRecDepth 100000 in
theorem tl_m126 (D : jx_D) : ∀ pc, jx_tl (jx_look (tb_126 D) pc) := jx_tlm <| by
  unfold tb_126
  exact jx_all1 (tl_ldR) <|
  jx_all1 (tl_ldI) <|
  jx_all1 (tl_vI) <|
  jx_all1 (tl_eq0) <|
  jx_all1 (tl_ldI) <|
  jx_all1 (tl_lt0) <|
  jx_all1 (tl_ldI) <|
  jx_all1 (tl_push) <|
  jx_all1 (tl_cle) <|
  jx_all1 (tl_ldR) <|
  jx_all1 (tl_push) <|
  jx_all1 (tl_vI) <|
  jx_all1 (tl_rI) <|
  jx_all1 (tl_ldI) <|
  jx_all1 (tl_ne0) <|
  jx_all1 (tl_ldR) <|
  jx_all1 (tl_gR) <|
  jx_all1 (tl_ldI) <|
  jx_all1 (tl_iald) <|
  jx_all1 (tl_go) <|
  jx_all1 (tl_ldI) <|
  jx_all1 (tl_push) <|
  jx_all1 (tl_cne) <|
  jx_all1 (tl_ldR) <|
  jx_all1 (tl_gR) <|
  jx_all1 (tl_ldI) <|
  jx_all1 (tl_iald) <|
  jx_all1 (tl_go) <|
  jx_all1 (tl_ldI) <|
  jx_all1 (tl_push) <|
  jx_all1 (tl_cne) <|
  jx_all1 (tl_ldR) <|
  jx_all1 (tl_gR) <|
  jx_all1 (tl_ldI) <|
  jx_all1 (tl_iald) <|
  jx_all1 (tl_go) <|
  jx_all1 (tl_ldR) <|
  jx_all1 (tl_gR) <|
  jx_all1 (tl_ldI) <|
  jx_all1 (tl_iald) <|
  jx_all1 (tl_rI) <|
  jx_all0
def mk_126 : List (Nat × List Bool) := [(17, [true, false, false]), (70, [false, false, false])]
/-- RoadBenchModel.sheet(III)I -/
noncomputable def tb_127 (D : jx_D) : List (Nat × jx_A) := [(0, jx_ldI 1 1), (1, jx_cI D 128 1 4), (4, jx_eq0 29 7), (7, jx_ldI 2 8), (8, jx_eq0 35 11), (11, jx_ldI 2 12), (12, jx_push (vi 8) 14), (14, jx_ceq 35 17), (17, jx_ldI 2 18), (18, jx_push (vi 16) 20), (20, jx_ceq 35 23), (23, jx_ldI 2 24), (24, jx_push (vi 32) 26), (26, jx_ceq 35 29), (29, jx_ldR 0 30), (30, jx_push (vi (-1)) 31), (31, jx_vI D 111 30 2 34), (34, jx_rI), (35, jx_ldI 3 36), (36, jx_ge0 46 39), (39, jx_ldR 0 40), (40, jx_push (vi (-3)) 42), (42, jx_vI D 111 30 2 45), (45, jx_rI), (46, jx_ldI 3 47), (47, jx_push (vi 24) 49), (49, jx_cle 58 52), (52, jx_ldR 0 53), (53, jx_push (vi (-1)) 54), (54, jx_vI D 111 30 2 57), (57, jx_rI), (58, jx_ldR 0 59), (59, jx_gR 30 41 (fun _ => 0) 62), (62, jx_ldI 1 63), (63, jx_ldI 2 64), (64, jx_iast 65), (65, jx_ldR 0 66), (66, jx_gR 30 42 (fun _ => 0) 69), (69, jx_ldI 1 70), (70, jx_ldI 2 71), (71, jx_ne0 78 74), (74, jx_push (vi 0) 75), (75, jx_go 79), (78, jx_ldI 3 79), (79, jx_iast 80), (80, jx_push (vi 0) 81), (81, jx_stI 4 5 83), (83, jx_ldI 4 85), (85, jx_push (vi 24) 87), (87, jx_cge 109 90), (90, jx_ldR 0 91), (91, jx_gR 30 43 (fun _ => 0) 94), (94, jx_push (vi 24) 96), (96, jx_ldI 1 97), (97, jx_i2 (fun x y => x * y) 98), (98, jx_ldI 4 100), (100, jx_i2 (fun x y => x + y) 101), (101, jx_push (vi 0) 102), (102, jx_iast 103), (103, jx_incI 4 5 1 106), (106, jx_go 83), (109, jx_ldR 0 110), (110, jx_gR 30 42 (fun _ => 0) 113), (113, jx_ldI 1 114), (114, jx_iald 115), (115, jx_rI)]
set_option maxRecDepth 100000 in
theorem tl_m127 (D : jx_D) : ∀ pc, jx_tl (jx_look (tb_127 D) pc) := jx_tlm <| by
  unfold tb_127
  exact jx_all1 (tl_ldI) <|
  jx_all1 (tl_cI) <|
  jx_all1 (tl_eq0) <|
  jx_all1 (tl_ldI) <|
  jx_all1 (tl_eq0) <|
  jx_all1 (tl_ldI) <|
  jx_all1 (tl_push) <|
  jx_all1 (tl_ceq) <|
  jx_all1 (tl_ldI) <|
  jx_all1 (tl_push) <|
  jx_all1 (tl_ceq) <|
  jx_all1 (tl_ldI) <|
  jx_all1 (tl_push) <|
  jx_all1 (tl_ceq) <|
  jx_all1 (tl_ldR) <|
  jx_all1 (tl_push) <|
  jx_all1 (tl_vI) <|
  jx_all1 (tl_rI) <|
  jx_all1 (tl_ldI) <|
  jx_all1 (tl_ge0) <|
  jx_all1 (tl_ldR) <|
  jx_all1 (tl_push) <|
  jx_all1 (tl_vI) <|
  jx_all1 (tl_rI) <|
  jx_all1 (tl_ldI) <|
  jx_all1 (tl_push) <|
  jx_all1 (tl_cle) <|
  jx_all1 (tl_ldR) <|
  jx_all1 (tl_push) <|
  jx_all1 (tl_vI) <|
  jx_all1 (tl_rI) <|
  jx_all1 (tl_ldR) <|
  jx_all1 (tl_gR) <|
  jx_all1 (tl_ldI) <|
  jx_all1 (tl_ldI) <|
  jx_all1 (tl_iast) <|
  jx_all1 (tl_ldR) <|
  jx_all1 (tl_gR) <|
  jx_all1 (tl_ldI) <|
  jx_all1 (tl_ldI) <|
  jx_all1 (tl_ne0) <|
  jx_all1 (tl_push) <|
  jx_all1 (tl_go) <|
  jx_all1 (tl_ldI) <|
  jx_all1 (tl_iast) <|
  jx_all1 (tl_push) <|
  jx_all1 (tl_stI) <|
  jx_all1 (tl_ldI) <|
  jx_all1 (tl_push) <|
  jx_all1 (tl_cge) <|
  jx_all1 (tl_ldR) <|
  jx_all1 (tl_gR) <|
  jx_all1 (tl_push) <|
  jx_all1 (tl_ldI) <|
  jx_all1 (tl_i2) <|
  jx_all1 (tl_ldI) <|
  jx_all1 (tl_i2) <|
  jx_all1 (tl_push) <|
  jx_all1 (tl_iast) <|
  jx_all1 (tl_incI) <|
  jx_all1 (tl_go) <|
  jx_all1 (tl_ldR) <|
  jx_all1 (tl_gR) <|
  jx_all1 (tl_ldI) <|
  jx_all1 (tl_iald) <|
  jx_all1 (tl_rI) <|
  jx_all0
def mk_127 : List (Nat × List Bool) := [(29, [true, false, false, false, false]), (35, [true, true, true, true, false]), (79, [true, true, false, false, false]), (83, [true, true, false, false, true])]
/-- RoadBenchModel.isSheet(I)Z -/
noncomputable def tb_128 (D : jx_D) : List (Nat × jx_A) := [(0, jx_ldI 0 1), (1, jx_lt0 13 4), (4, jx_ldI 0 5), (5, jx_push (vi 4) 6), (6, jx_cge 13 9), (9, jx_push (vi 1) 10), (10, jx_go 14), (13, jx_push (vi 0) 14), (14, jx_rZ)]
set_option maxRecDepth 100000 in
theorem tl_m128 (D : jx_D) : ∀ pc, jx_tl (jx_look (tb_128 D) pc) := jx_tlm <| by
  unfold tb_128
  exact jx_all1 (tl_ldI) <|
  jx_all1 (tl_lt0) <|
  jx_all1 (tl_ldI) <|
  jx_all1 (tl_push) <|
  jx_all1 (tl_cge) <|
  jx_all1 (tl_push) <|
  jx_all1 (tl_go) <|
  jx_all1 (tl_push) <|
  jx_all1 (tl_rZ) <|
  jx_all0
def mk_128 : List (Nat × List Bool) := [(13, [false]), (14, [false])]
/-- RoadBenchModel.put(III)I -/
noncomputable def tb_129 (D : jx_D) : List (Nat × jx_A) := [(0, jx_ldI 1 1), (1, jx_cI D 128 1 4), (4, jx_ne0 13 7), (7, jx_ldR 0 8), (8, jx_push (vi (-1)) 9), (9, jx_vI D 111 30 2 12), (12, jx_rI), (13, jx_ldR 0 14), (14, jx_gR 30 41 (fun _ => 0) 17), (17, jx_ldI 1 18), (18, jx_iald 19), (19, jx_ne0 29 22), (22, jx_ldR 0 23), (23, jx_push (vi (-2)) 25), (25, jx_vI D 111 30 2 28), (28, jx_rI), (29, jx_ldI 2 30), (30, jx_lt0 43 33), (33, jx_ldI 2 34), (34, jx_ldR 0 35), (35, jx_gR 30 42 (fun _ => 0) 38), (38, jx_ldI 1 39), (39, jx_iald 40), (40, jx_clt 49 43), (43, jx_ldR 0 44), (44, jx_push (vi (-1)) 45), (45, jx_vI D 111 30 2 48), (48, jx_rI), (49, jx_ldR 0 50), (50, jx_gR 30 43 (fun _ => 0) 53), (53, jx_push (vi 24) 55), (55, jx_ldI 1 56), (56, jx_i2 (fun x y => x * y) 57), (57, jx_ldI 2 58), (58, jx_i2 (fun x y => x + y) 59), (59, jx_ldR 0 60), (60, jx_gR 30 41 (fun _ => 0) 63), (63, jx_ldI 1 64), (64, jx_iald 65), (65, jx_push (vi 8) 67), (67, jx_cne 75 70), (70, jx_ldI 3 71), (71, jx_i1 (fun x => x.toInt8.toInt32) 72), (72, jx_go 92), (75, jx_ldR 0 76), (76, jx_gR 30 41 (fun _ => 0) 79), (79, jx_ldI 1 80), (80, jx_iald 81), (81, jx_push (vi 16) 83), (83, jx_cne 91 86), (86, jx_ldI 3 87), (87, jx_i1 (fun x => x.toInt16.toInt32) 88), (88, jx_go 92), (91, jx_ldI 3 92), (92, jx_iast 93), (93, jx_push (vi 0) 94), (94, jx_rI)]
set_option maxRecDepth 100000 in
theorem tl_m129 (D : jx_D) : ∀ pc, jx_tl (jx_look (tb_129 D) pc) := jx_tlm <| by
  unfold tb_129
  exact jx_all1 (tl_ldI) <|
  jx_all1 (tl_cI) <|
  jx_all1 (tl_ne0) <|
  jx_all1 (tl_ldR) <|
  jx_all1 (tl_push) <|
  jx_all1 (tl_vI) <|
  jx_all1 (tl_rI) <|
  jx_all1 (tl_ldR) <|
  jx_all1 (tl_gR) <|
  jx_all1 (tl_ldI) <|
  jx_all1 (tl_iald) <|
  jx_all1 (tl_ne0) <|
  jx_all1 (tl_ldR) <|
  jx_all1 (tl_push) <|
  jx_all1 (tl_vI) <|
  jx_all1 (tl_rI) <|
  jx_all1 (tl_ldI) <|
  jx_all1 (tl_lt0) <|
  jx_all1 (tl_ldI) <|
  jx_all1 (tl_ldR) <|
  jx_all1 (tl_gR) <|
  jx_all1 (tl_ldI) <|
  jx_all1 (tl_iald) <|
  jx_all1 (tl_clt) <|
  jx_all1 (tl_ldR) <|
  jx_all1 (tl_push) <|
  jx_all1 (tl_vI) <|
  jx_all1 (tl_rI) <|
  jx_all1 (tl_ldR) <|
  jx_all1 (tl_gR) <|
  jx_all1 (tl_push) <|
  jx_all1 (tl_ldI) <|
  jx_all1 (tl_i2) <|
  jx_all1 (tl_ldI) <|
  jx_all1 (tl_i2) <|
  jx_all1 (tl_ldR) <|
  jx_all1 (tl_gR) <|
  jx_all1 (tl_ldI) <|
  jx_all1 (tl_iald) <|
  jx_all1 (tl_push) <|
  jx_all1 (tl_cne) <|
  jx_all1 (tl_ldI) <|
  jx_all1 (tl_i1) <|
  jx_all1 (tl_go) <|
  jx_all1 (tl_ldR) <|
  jx_all1 (tl_gR) <|
  jx_all1 (tl_ldI) <|
  jx_all1 (tl_iald) <|
  jx_all1 (tl_push) <|
  jx_all1 (tl_cne) <|
  jx_all1 (tl_ldI) <|
  jx_all1 (tl_i1) <|
  jx_all1 (tl_go) <|
  jx_all1 (tl_ldI) <|
  jx_all1 (tl_iast) <|
  jx_all1 (tl_push) <|
  jx_all1 (tl_rI) <|
  jx_all0
def mk_129 : List (Nat × List Bool) := [(43, [true, false, false, false]), (92, [false, false, false, false])]
/-- RoadBenchModel.copy(IIIII)I -/
noncomputable def tb_130 (D : jx_D) : List (Nat × jx_A) := [(0, jx_ldI 1 1), (1, jx_cI D 128 1 4), (4, jx_eq0 14 7), (7, jx_ldI 3 8), (8, jx_cI D 128 1 11), (11, jx_ne0 20 14), (14, jx_ldR 0 15), (15, jx_push (vi (-1)) 16), (16, jx_vI D 111 30 2 19), (19, jx_rI), (20, jx_ldR 0 21), (21, jx_gR 30 41 (fun _ => 0) 24), (24, jx_ldI 1 25), (25, jx_iald 26), (26, jx_eq0 38 29), (29, jx_ldR 0 30), (30, jx_gR 30 41 (fun _ => 0) 33), (33, jx_ldI 3 34), (34, jx_iald 35), (35, jx_ne0 45 38), (38, jx_ldR 0 39), (39, jx_push (vi (-2)) 41), (41, jx_vI D 111 30 2 44), (44, jx_rI), (45, jx_ldR 0 46), (46, jx_gR 30 41 (fun _ => 0) 49), (49, jx_ldI 1 50), (50, jx_iald 51), (51, jx_ldR 0 52), (52, jx_gR 30 41 (fun _ => 0) 55), (55, jx_ldI 3 56), (56, jx_iald 57), (57, jx_ceq 67 60), (60, jx_ldR 0 61), (61, jx_push (vi (-4)) 63), (63, jx_vI D 111 30 2 66), (66, jx_rI), (67, jx_ldR 0 68), (68, jx_ldI 1 69), (69, jx_ldI 2 70), (70, jx_ldI 5 72), (72, jx_vI D 131 30 4 75), (75, jx_eq0 90 78), (78, jx_ldR 0 79), (79, jx_ldI 3 80), (80, jx_ldI 4 82), (82, jx_ldI 5 84), (84, jx_vI D 131 30 4 87), (87, jx_ne0 96 90), (90, jx_ldR 0 91), (91, jx_push (vi (-1)) 92), (92, jx_vI D 111 30 2 95), (95, jx_rI), (96, jx_push (vi 0) 97), (97, jx_stI 6 7 99), (99, jx_ldI 6 101), (101, jx_ldI 5 103), (103, jx_cge 133 106), (106, jx_ldR 0 107), (107, jx_gR 30 47 (fun _ => 0) 110), (110, jx_ldI 6 112), (112, jx_ldR 0 113), (113, jx_gR 30 43 (fun _ => 0) 116), (116, jx_push (vi 24) 118), (118, jx_ldI 1 119), (119, jx_i2 (fun x y => x * y) 120), (120, jx_ldI 2 121), (121, jx_i2 (fun x y => x + y) 122), (122, jx_ldI 6 124), (124, jx_i2 (fun x y => x + y) 125), (125, jx_iald 126), (126, jx_iast 127), (127, jx_incI 6 7 1 130), (130, jx_go 99), (133, jx_push (vi 0) 134), (134, jx_stI 6 7 136), (136, jx_ldI 6 138), (138, jx_ldI 5 140), (140, jx_cge 171 143), (143, jx_ldR 0 144), (144, jx_gR 30 43 (fun _ => 0) 147), (147, jx_push (vi 24) 149), (149, jx_ldI 3 150), (150, jx_i2 (fun x y => x * y) 151), (151, jx_ldI 4 153), (153, jx_i2 (fun x y => x + y) 154), (154, jx_ldI 6 156), (156, jx_i2 (fun x y => x + y) 157), (157, jx_ldR 0 158), (158, jx_gR 30 47 (fun _ => 0) 161), (161, jx_ldI 6 163), (163, jx_iald 164), (164, jx_iast 165), (165, jx_incI 6 7 1 168), (168, jx_go 136), (171, jx_ldI 5 173), (173, jx_rI)]
set_option maxRecDepth 100000 in
theorem tl_m130 (D : jx_D) : ∀ pc, jx_tl (jx_look (tb_130 D) pc) := jx_tlm <| by
  unfold tb_130
  exact jx_all1 (tl_ldI) <|
  jx_all1 (tl_cI) <|
  jx_all1 (tl_eq0) <|
  jx_all1 (tl_ldI) <|
  jx_all1 (tl_cI) <|
  jx_all1 (tl_ne0) <|
  jx_all1 (tl_ldR) <|
  jx_all1 (tl_push) <|
  jx_all1 (tl_vI) <|
  jx_all1 (tl_rI) <|
  jx_all1 (tl_ldR) <|
  jx_all1 (tl_gR) <|
  jx_all1 (tl_ldI) <|
  jx_all1 (tl_iald) <|
  jx_all1 (tl_eq0) <|
  jx_all1 (tl_ldR) <|
  jx_all1 (tl_gR) <|
  jx_all1 (tl_ldI) <|
  jx_all1 (tl_iald) <|
  jx_all1 (tl_ne0) <|
  jx_all1 (tl_ldR) <|
  jx_all1 (tl_push) <|
  jx_all1 (tl_vI) <|
  jx_all1 (tl_rI) <|
  jx_all1 (tl_ldR) <|
  jx_all1 (tl_gR) <|
  jx_all1 (tl_ldI) <|
  jx_all1 (tl_iald) <|
  jx_all1 (tl_ldR) <|
  jx_all1 (tl_gR) <|
  jx_all1 (tl_ldI) <|
  jx_all1 (tl_iald) <|
  jx_all1 (tl_ceq) <|
  jx_all1 (tl_ldR) <|
  jx_all1 (tl_push) <|
  jx_all1 (tl_vI) <|
  jx_all1 (tl_rI) <|
  jx_all1 (tl_ldR) <|
  jx_all1 (tl_ldI) <|
  jx_all1 (tl_ldI) <|
  jx_all1 (tl_ldI) <|
  jx_all1 (tl_vI) <|
  jx_all1 (tl_eq0) <|
  jx_all1 (tl_ldR) <|
  jx_all1 (tl_ldI) <|
  jx_all1 (tl_ldI) <|
  jx_all1 (tl_ldI) <|
  jx_all1 (tl_vI) <|
  jx_all1 (tl_ne0) <|
  jx_all1 (tl_ldR) <|
  jx_all1 (tl_push) <|
  jx_all1 (tl_vI) <|
  jx_all1 (tl_rI) <|
  jx_all1 (tl_push) <|
  jx_all1 (tl_stI) <|
  jx_all1 (tl_ldI) <|
  jx_all1 (tl_ldI) <|
  jx_all1 (tl_cge) <|
  jx_all1 (tl_ldR) <|
  jx_all1 (tl_gR) <|
  jx_all1 (tl_ldI) <|
  jx_all1 (tl_ldR) <|
  jx_all1 (tl_gR) <|
  jx_all1 (tl_push) <|
  jx_all1 (tl_ldI) <|
  jx_all1 (tl_i2) <|
  jx_all1 (tl_ldI) <|
  jx_all1 (tl_i2) <|
  jx_all1 (tl_ldI) <|
  jx_all1 (tl_i2) <|
  jx_all1 (tl_iald) <|
  jx_all1 (tl_iast) <|
  jx_all1 (tl_incI) <|
  jx_all1 (tl_go) <|
  jx_all1 (tl_push) <|
  jx_all1 (tl_stI) <|
  jx_all1 (tl_ldI) <|
  jx_all1 (tl_ldI) <|
  jx_all1 (tl_cge) <|
  jx_all1 (tl_ldR) <|
  jx_all1 (tl_gR) <|
  jx_all1 (tl_push) <|
  jx_all1 (tl_ldI) <|
  jx_all1 (tl_i2) <|
  jx_all1 (tl_ldI) <|
  jx_all1 (tl_i2) <|
  jx_all1 (tl_ldI) <|
  jx_all1 (tl_i2) <|
  jx_all1 (tl_ldR) <|
  jx_all1 (tl_gR) <|
  jx_all1 (tl_ldI) <|
  jx_all1 (tl_iald) <|
  jx_all1 (tl_iast) <|
  jx_all1 (tl_incI) <|
  jx_all1 (tl_go) <|
  jx_all1 (tl_ldI) <|
  jx_all1 (tl_rI) <|
  jx_all0
def mk_130 : List (Nat × List Bool) := [(14, [true, false, false, false, false, false, false]), (38, [true, false, false, false, false, false, false]), (90, [true, false, false, false, false, false, false]), (99, [true, true, true, true, true, true, true]), (136, [true, false, false, true, true, true, true])]
/-- RoadBenchModel.hasPart(III)Z -/
noncomputable def tb_131 (D : jx_D) : List (Nat × jx_A) := [(0, jx_ldI 2 1), (1, jx_lt0 34 4), (4, jx_ldI 3 5), (5, jx_lt0 34 8), (8, jx_ldI 3 9), (9, jx_ldR 0 10), (10, jx_gR 30 42 (fun _ => 0) 13), (13, jx_ldI 1 14), (14, jx_iald 15), (15, jx_cgt 34 18), (18, jx_ldI 2 19), (19, jx_ldR 0 20), (20, jx_gR 30 42 (fun _ => 0) 23), (23, jx_ldI 1 24), (24, jx_iald 25), (25, jx_ldI 3 26), (26, jx_i2 (fun x y => x - y) 27), (27, jx_cgt 34 30), (30, jx_push (vi 1) 31), (31, jx_go 35), (34, jx_push (vi 0) 35), (35, jx_rZ)]
set_option maxRecDepth 100000 in
theorem tl_m131 (D : jx_D) : ∀ pc, jx_tl (jx_look (tb_131 D) pc) := jx_tlm <| by
  unfold tb_131
  exact jx_all1 (tl_ldI) <|
  jx_all1 (tl_lt0) <|
  jx_all1 (tl_ldI) <|
  jx_all1 (tl_lt0) <|
  jx_all1 (tl_ldI) <|
  jx_all1 (tl_ldR) <|
  jx_all1 (tl_gR) <|
  jx_all1 (tl_ldI) <|
  jx_all1 (tl_iald) <|
  jx_all1 (tl_cgt) <|
  jx_all1 (tl_ldI) <|
  jx_all1 (tl_ldR) <|
  jx_all1 (tl_gR) <|
  jx_all1 (tl_ldI) <|
  jx_all1 (tl_iald) <|
  jx_all1 (tl_ldI) <|
  jx_all1 (tl_i2) <|
  jx_all1 (tl_cgt) <|
  jx_all1 (tl_push) <|
  jx_all1 (tl_go) <|
  jx_all1 (tl_push) <|
  jx_all1 (tl_rZ) <|
  jx_all0
def mk_131 : List (Nat × List Bool) := [(34, [false, false, false, false]), (35, [false, false, false, false])]
/-- RoadBenchModel.lay(I)I -/
noncomputable def tb_132 (D : jx_D) : List (Nat × jx_A) := [(0, jx_ldI 1 1), (1, jx_cI D 128 1 4), (4, jx_ne0 13 7), (7, jx_ldR 0 8), (8, jx_push (vi (-1)) 9), (9, jx_vI D 111 30 2 12), (12, jx_rI), (13, jx_ldR 0 14), (14, jx_gR 30 41 (fun _ => 0) 17), (17, jx_ldI 1 18), (18, jx_iald 19), (19, jx_ne0 29 22), (22, jx_ldR 0 23), (23, jx_push (vi (-2)) 25), (25, jx_vI D 111 30 2 28), (28, jx_rI), (29, jx_ldR 0 30), (30, jx_gR 30 42 (fun _ => 0) 33), (33, jx_ldI 1 34), (34, jx_iald 35), (35, jx_push (vi 2) 36), (36, jx_dv (fun x y => x / y) 37), (37, jx_stI 2 4 38), (38, jx_push (vi 0) 39), (39, jx_stI 3 4 40), (40, jx_ldI 3 41), (41, jx_push (vi 2) 42), (42, jx_ldI 2 43), (43, jx_i2 (fun x y => x * y) 44), (44, jx_cge 77 47), (47, jx_ldR 0 48), (48, jx_ldR 0 49), (49, jx_gR 30 43 (fun _ => 0) 52), (52, jx_push (vi 24) 54), (54, jx_ldI 1 55), (55, jx_i2 (fun x y => x * y) 56), (56, jx_ldI 3 57), (57, jx_i2 (fun x y => x + y) 58), (58, jx_iald 59), (59, jx_vI D 118 30 2 62), (62, jx_ne0 71 65), (65, jx_ldR 0 66), (66, jx_push (vi (-1)) 67), (67, jx_vI D 111 30 2 70), (70, jx_rI), (71, jx_incI 3 4 1 74), (74, jx_go 40), (77, jx_push (vi 0) 78), (78, jx_stI 3 4 79), (79, jx_ldI 3 80), (80, jx_ldI 2 81), (81, jx_cge 128 84), (84, jx_ldR 0 85), (85, jx_gR 30 43 (fun _ => 0) 88), (88, jx_push (vi 24) 90), (90, jx_ldI 1 91), (91, jx_i2 (fun x y => x * y) 92), (92, jx_push (vi 2) 93), (93, jx_ldI 3 94), (94, jx_i2 (fun x y => x * y) 95), (95, jx_i2 (fun x y => x + y) 96), (96, jx_iald 97), (97, jx_ldR 0 98), (98, jx_gR 30 43 (fun _ => 0) 101), (101, jx_push (vi 24) 103), (103, jx_ldI 1 104), (104, jx_i2 (fun x y => x * y) 105), (105, jx_push (vi 2) 106), (106, jx_ldI 3 107), (107, jx_i2 (fun x y => x * y) 108), (108, jx_i2 (fun x y => x + y) 109), (109, jx_push (vi 1) 110), (110, jx_i2 (fun x y => x + y) 111), (111, jx_iald 112), (112, jx_cne 122 115), (115, jx_ldR 0 116), (116, jx_push (vi (-3)) 118), (118, jx_vI D 111 30 2 121), (121, jx_rI), (122, jx_incI 3 4 1 125), (125, jx_go 79), (128, jx_ldR 0 129), (129, jx_gI 30 1 132), (132, jx_ldI 2 133), (133, jx_i2 (fun x y => x + y) 134), (134, jx_push (vi 20) 136), (136, jx_cle 146 139), (139, jx_ldR 0 140), (140, jx_push (vi (-5)) 142), (142, jx_vI D 111 30 2 145), (145, jx_rI), (146, jx_ldR 0 147), (147, jx_vV D 114 30 1 150), (150, jx_push (vi 0) 151), (151, jx_stI 3 4 152), (152, jx_ldI 3 153), (153, jx_ldI 2 154), (154, jx_cge 195 157), (157, jx_ldR 0 158), (158, jx_ldR 0 159), (159, jx_gR 30 43 (fun _ => 0) 162), (162, jx_push (vi 24) 164), (164, jx_ldI 1 165), (165, jx_i2 (fun x y => x * y) 166), (166, jx_push (vi 2) 167), (167, jx_ldI 3 168), (168, jx_i2 (fun x y => x * y) 169), (169, jx_i2 (fun x y => x + y) 170), (170, jx_iald 171), (171, jx_ldR 0 172), (172, jx_gR 30 43 (fun _ => 0) 175), (175, jx_push (vi 24) 177), (177, jx_ldI 1 178), (178, jx_i2 (fun x y => x * y) 179), (179, jx_push (vi 2) 180), (180, jx_ldI 3 181), (181, jx_i2 (fun x y => x * y) 182), (182, jx_i2 (fun x y => x + y) 183), (183, jx_push (vi 1) 184), (184, jx_i2 (fun x y => x + y) 185), (185, jx_iald 186), (186, jx_vV D 119 30 3 189), (189, jx_incI 3 4 1 192), (192, jx_go 152), (195, jx_ldI 2 196), (196, jx_rI)]
set_option maxRecDepth 100000 in
theorem tl_m132 (D : jx_D) : ∀ pc, jx_tl (jx_look (tb_132 D) pc) := jx_tlm <| by
  unfold tb_132
  exact jx_all1 (tl_ldI) <|
  jx_all1 (tl_cI) <|
  jx_all1 (tl_ne0) <|
  jx_all1 (tl_ldR) <|
  jx_all1 (tl_push) <|
  jx_all1 (tl_vI) <|
  jx_all1 (tl_rI) <|
  jx_all1 (tl_ldR) <|
  jx_all1 (tl_gR) <|
  jx_all1 (tl_ldI) <|
  jx_all1 (tl_iald) <|
  jx_all1 (tl_ne0) <|
  jx_all1 (tl_ldR) <|
  jx_all1 (tl_push) <|
  jx_all1 (tl_vI) <|
  jx_all1 (tl_rI) <|
  jx_all1 (tl_ldR) <|
  jx_all1 (tl_gR) <|
  jx_all1 (tl_ldI) <|
  jx_all1 (tl_iald) <|
  jx_all1 (tl_push) <|
  jx_all1 (tl_dv) <|
  jx_all1 (tl_stI) <|
  jx_all1 (tl_push) <|
  jx_all1 (tl_stI) <|
  jx_all1 (tl_ldI) <|
  jx_all1 (tl_push) <|
  jx_all1 (tl_ldI) <|
  jx_all1 (tl_i2) <|
  jx_all1 (tl_cge) <|
  jx_all1 (tl_ldR) <|
  jx_all1 (tl_ldR) <|
  jx_all1 (tl_gR) <|
  jx_all1 (tl_push) <|
  jx_all1 (tl_ldI) <|
  jx_all1 (tl_i2) <|
  jx_all1 (tl_ldI) <|
  jx_all1 (tl_i2) <|
  jx_all1 (tl_iald) <|
  jx_all1 (tl_vI) <|
  jx_all1 (tl_ne0) <|
  jx_all1 (tl_ldR) <|
  jx_all1 (tl_push) <|
  jx_all1 (tl_vI) <|
  jx_all1 (tl_rI) <|
  jx_all1 (tl_incI) <|
  jx_all1 (tl_go) <|
  jx_all1 (tl_push) <|
  jx_all1 (tl_stI) <|
  jx_all1 (tl_ldI) <|
  jx_all1 (tl_ldI) <|
  jx_all1 (tl_cge) <|
  jx_all1 (tl_ldR) <|
  jx_all1 (tl_gR) <|
  jx_all1 (tl_push) <|
  jx_all1 (tl_ldI) <|
  jx_all1 (tl_i2) <|
  jx_all1 (tl_push) <|
  jx_all1 (tl_ldI) <|
  jx_all1 (tl_i2) <|
  jx_all1 (tl_i2) <|
  jx_all1 (tl_iald) <|
  jx_all1 (tl_ldR) <|
  jx_all1 (tl_gR) <|
  jx_all1 (tl_push) <|
  jx_all1 (tl_ldI) <|
  jx_all1 (tl_i2) <|
  jx_all1 (tl_push) <|
  jx_all1 (tl_ldI) <|
  jx_all1 (tl_i2) <|
  jx_all1 (tl_i2) <|
  jx_all1 (tl_push) <|
  jx_all1 (tl_i2) <|
  jx_all1 (tl_iald) <|
  jx_all1 (tl_cne) <|
  jx_all1 (tl_ldR) <|
  jx_all1 (tl_push) <|
  jx_all1 (tl_vI) <|
  jx_all1 (tl_rI) <|
  jx_all1 (tl_incI) <|
  jx_all1 (tl_go) <|
  jx_all1 (tl_ldR) <|
  jx_all1 (tl_gI) <|
  jx_all1 (tl_ldI) <|
  jx_all1 (tl_i2) <|
  jx_all1 (tl_push) <|
  jx_all1 (tl_cle) <|
  jx_all1 (tl_ldR) <|
  jx_all1 (tl_push) <|
  jx_all1 (tl_vI) <|
  jx_all1 (tl_rI) <|
  jx_all1 (tl_ldR) <|
  jx_all1 (tl_vV) <|
  jx_all1 (tl_push) <|
  jx_all1 (tl_stI) <|
  jx_all1 (tl_ldI) <|
  jx_all1 (tl_ldI) <|
  jx_all1 (tl_cge) <|
  jx_all1 (tl_ldR) <|
  jx_all1 (tl_ldR) <|
  jx_all1 (tl_gR) <|
  jx_all1 (tl_push) <|
  jx_all1 (tl_ldI) <|
  jx_all1 (tl_i2) <|
  jx_all1 (tl_push) <|
  jx_all1 (tl_ldI) <|
  jx_all1 (tl_i2) <|
  jx_all1 (tl_i2) <|
  jx_all1 (tl_iald) <|
  jx_all1 (tl_ldR) <|
  jx_all1 (tl_gR) <|
  jx_all1 (tl_push) <|
  jx_all1 (tl_ldI) <|
  jx_all1 (tl_i2) <|
  jx_all1 (tl_push) <|
  jx_all1 (tl_ldI) <|
  jx_all1 (tl_i2) <|
  jx_all1 (tl_i2) <|
  jx_all1 (tl_push) <|
  jx_all1 (tl_i2) <|
  jx_all1 (tl_iald) <|
  jx_all1 (tl_vV) <|
  jx_all1 (tl_incI) <|
  jx_all1 (tl_go) <|
  jx_all1 (tl_ldI) <|
  jx_all1 (tl_rI) <|
  jx_all0
def mk_132 : List (Nat × List Bool) := [(38, [true, true, true, false]), (40, [true, true, true, true]), (79, [true, true, true, true]), (152, [true, true, true, true])]
/-- RoadBenchModel.hold(II)I -/
noncomputable def tb_133 (D : jx_D) : List (Nat × jx_A) := [(0, jx_ldR 0 1), (1, jx_ldI 1 2), (2, jx_vI D 118 30 2 5), (5, jx_eq0 16 8), (8, jx_ldR 0 9), (9, jx_ldI 2 10), (10, jx_vI D 118 30 2 13), (13, jx_ne0 22 16), (16, jx_ldR 0 17), (17, jx_push (vi (-1)) 18), (18, jx_vI D 111 30 2 21), (21, jx_rI), (22, jx_ldI 1 23), (23, jx_ldI 2 24), (24, jx_cne 36 27), (27, jx_ldR 0 28), (28, jx_push (vi (-3)) 30), (30, jx_vI D 111 30 2 33), (33, jx_go 42), (36, jx_ldR 0 37), (37, jx_ldI 1 38), (38, jx_ldI 2 39), (39, jx_vI D 134 30 3 42), (42, jx_rI)]
set_option maxRecDepth 100000 in
theorem tl_m133 (D : jx_D) : ∀ pc, jx_tl (jx_look (tb_133 D) pc) := jx_tlm <| by
  unfold tb_133
  exact jx_all1 (tl_ldR) <|
  jx_all1 (tl_ldI) <|
  jx_all1 (tl_vI) <|
  jx_all1 (tl_eq0) <|
  jx_all1 (tl_ldR) <|
  jx_all1 (tl_ldI) <|
  jx_all1 (tl_vI) <|
  jx_all1 (tl_ne0) <|
  jx_all1 (tl_ldR) <|
  jx_all1 (tl_push) <|
  jx_all1 (tl_vI) <|
  jx_all1 (tl_rI) <|
  jx_all1 (tl_ldI) <|
  jx_all1 (tl_ldI) <|
  jx_all1 (tl_cne) <|
  jx_all1 (tl_ldR) <|
  jx_all1 (tl_push) <|
  jx_all1 (tl_vI) <|
  jx_all1 (tl_go) <|
  jx_all1 (tl_ldR) <|
  jx_all1 (tl_ldI) <|
  jx_all1 (tl_ldI) <|
  jx_all1 (tl_vI) <|
  jx_all1 (tl_rI) <|
  jx_all0
def mk_133 : List (Nat × List Bool) := [(16, [true, false, false]), (42, [false, false, false])]
/-- RoadBenchModel.holdOf(II)I -/
noncomputable def tb_134 (D : jx_D) : List (Nat × jx_A) := [(0, jx_push (vi 21) 2), (2, jx_stI 3 6 3), (3, jx_push (vi 0) 4), (4, jx_stI 4 6 6), (6, jx_ldI 4 8), (8, jx_ldR 0 9), (9, jx_vI D 135 30 1 12), (12, jx_cgt 68 15), (15, jx_ldI 4 17), (17, jx_ldI 1 18), (18, jx_cI D 136 2 21), (21, jx_eq0 62 24), (24, jx_ldI 4 26), (26, jx_ldI 2 27), (27, jx_cI D 136 2 30), (30, jx_ne0 62 33), (33, jx_ldR 0 34), (34, jx_ldI 4 36), (36, jx_ldR 0 37), (37, jx_gI 30 1 40), (40, jx_ldR 0 41), (41, jx_vI D 137 30 1 44), (44, jx_vI D 138 30 4 47), (47, jx_stI 5 6 49), (49, jx_ldI 5 51), (51, jx_ldI 3 52), (52, jx_cge 60 55), (55, jx_ldI 5 57), (57, jx_go 61), (60, jx_ldI 3 61), (61, jx_stI 3 6 62), (62, jx_incI 4 6 1 65), (65, jx_go 6), (68, jx_ldI 3 69), (69, jx_rI)]
set_option maxRecDepth 100000 in
theorem tl_m134 (D : jx_D) : ∀ pc, jx_tl (jx_look (tb_134 D) pc) := jx_tlm <| by
  unfold tb_134
  exact jx_all1 (tl_push) <|
  jx_all1 (tl_stI) <|
  jx_all1 (tl_push) <|
  jx_all1 (tl_stI) <|
  jx_all1 (tl_ldI) <|
  jx_all1 (tl_ldR) <|
  jx_all1 (tl_vI) <|
  jx_all1 (tl_cgt) <|
  jx_all1 (tl_ldI) <|
  jx_all1 (tl_ldI) <|
  jx_all1 (tl_cI) <|
  jx_all1 (tl_eq0) <|
  jx_all1 (tl_ldI) <|
  jx_all1 (tl_ldI) <|
  jx_all1 (tl_cI) <|
  jx_all1 (tl_ne0) <|
  jx_all1 (tl_ldR) <|
  jx_all1 (tl_ldI) <|
  jx_all1 (tl_ldR) <|
  jx_all1 (tl_gI) <|
  jx_all1 (tl_ldR) <|
  jx_all1 (tl_vI) <|
  jx_all1 (tl_vI) <|
  jx_all1 (tl_stI) <|
  jx_all1 (tl_ldI) <|
  jx_all1 (tl_ldI) <|
  jx_all1 (tl_cge) <|
  jx_all1 (tl_ldI) <|
  jx_all1 (tl_go) <|
  jx_all1 (tl_ldI) <|
  jx_all1 (tl_stI) <|
  jx_all1 (tl_incI) <|
  jx_all1 (tl_go) <|
  jx_all1 (tl_ldI) <|
  jx_all1 (tl_rI) <|
  jx_all0
def mk_134 : List (Nat × List Bool) := [(6, [true, true, true, true, true, false]), (61, [true, true, true, false, true, false]), (62, [true, true, true, true, true, false])]
/-- RoadBenchModel.all()I -/
noncomputable def tb_135 (D : jx_D) : List (Nat × jx_A) := [(0, jx_push (vi 1) 1), (1, jx_ldR 0 2), (2, jx_gI 30 0 5), (5, jx_i2 (fun x y => x <<< (y &&& 31)) 6), (6, jx_push (vi 1) 7), (7, jx_i2 (fun x y => x - y) 8), (8, jx_rI)]
set_option maxRecDepth 100000 in
theorem tl_m135 (D : jx_D) : ∀ pc, jx_tl (jx_look (tb_135 D) pc) := jx_tlm <| by
  unfold tb_135
  exact jx_all1 (tl_push) <|
  jx_all1 (tl_ldR) <|
  jx_all1 (tl_gI) <|
  jx_all1 (tl_i2) <|
  jx_all1 (tl_push) <|
  jx_all1 (tl_i2) <|
  jx_all1 (tl_rI) <|
  jx_all0
def mk_135 : List (Nat × List Bool) := []
/-- RoadBenchModel.in(II)Z -/
noncomputable def tb_136 (D : jx_D) : List (Nat × jx_A) := [(0, jx_ldI 0 1), (1, jx_ldI 1 2), (2, jx_i2 (fun x y => x >>> (y &&& 31)) 3), (3, jx_push (vi 1) 4), (4, jx_i2 (fun x y => x &&& y) 5), (5, jx_push (vi 1) 6), (6, jx_cne 13 9), (9, jx_push (vi 1) 10), (10, jx_go 14), (13, jx_push (vi 0) 14), (14, jx_rZ)]
set_option maxRecDepth 100000 in
theorem tl_m136 (D : jx_D) : ∀ pc, jx_tl (jx_look (tb_136 D) pc) := jx_tlm <| by
  unfold tb_136
  exact jx_all1 (tl_ldI) <|
  jx_all1 (tl_ldI) <|
  jx_all1 (tl_i2) <|
  jx_all1 (tl_push) <|
  jx_all1 (tl_i2) <|
  jx_all1 (tl_push) <|
  jx_all1 (tl_cne) <|
  jx_all1 (tl_push) <|
  jx_all1 (tl_go) <|
  jx_all1 (tl_push) <|
  jx_all1 (tl_rZ) <|
  jx_all0
def mk_136 : List (Nat × List Bool) := [(14, [false, false])]
/-- RoadBenchModel.allRoads()I -/
noncomputable def tb_137 (D : jx_D) : List (Nat × jx_A) := [(0, jx_push (vi 1) 1), (1, jx_ldR 0 2), (2, jx_gI 30 1 5), (5, jx_i2 (fun x y => x <<< (y &&& 31)) 6), (6, jx_push (vi 1) 7), (7, jx_i2 (fun x y => x - y) 8), (8, jx_rI)]
set_option maxRecDepth 100000 in
theorem tl_m137 (D : jx_D) : ∀ pc, jx_tl (jx_look (tb_137 D) pc) := jx_tlm <| by
  unfold tb_137
  exact jx_all1 (tl_push) <|
  jx_all1 (tl_ldR) <|
  jx_all1 (tl_gI) <|
  jx_all1 (tl_i2) <|
  jx_all1 (tl_push) <|
  jx_all1 (tl_i2) <|
  jx_all1 (tl_rI) <|
  jx_all0
def mk_137 : List (Nat × List Bool) := []
/-- RoadBenchModel.cutOf(III)I -/
noncomputable def tb_138 (D : jx_D) : List (Nat × jx_A) := [(0, jx_push (vi 0) 1), (1, jx_stI 4 7 3), (3, jx_push (vi 0) 4), (4, jx_stI 5 7 6), (6, jx_ldI 5 8), (8, jx_ldI 2 9), (9, jx_cge 102 12), (12, jx_ldI 1 13), (13, jx_ldR 0 14), (14, jx_gR 30 33 (fun _ => 0) 17), (17, jx_ldI 5 19), (19, jx_iald 20), (20, jx_cI D 136 2 23), (23, jx_ldI 1 24), (24, jx_ldR 0 25), (25, jx_gR 30 34 (fun _ => 0) 28), (28, jx_ldI 5 30), (30, jx_iald 31), (31, jx_cI D 136 2 34), (34, jx_ceq 62 37), (37, jx_ldR 0 38), (38, jx_gI 30 2 41), (41, jx_eq0 58 44), (44, jx_ldI 1 45), (45, jx_ldR 0 46), (46, jx_gR 30 33 (fun _ => 0) 49), (49, jx_ldI 5 51), (51, jx_iald 52), (52, jx_cI D 136 2 55), (55, jx_eq0 62 58), (58, jx_push (vi 1) 59), (59, jx_go 63), (62, jx_push (vi 0) 63), (63, jx_stI 6 7 65), (65, jx_ldI 4 67), (67, jx_ldI 6 69), (69, jx_eq0 92 72), (72, jx_ldI 5 74), (74, jx_push (vi 20) 76), (76, jx_cge 88 79), (79, jx_ldI 3 80), (80, jx_ldI 5 82), (82, jx_cI D 136 2 85), (85, jx_eq0 92 88), (88, jx_push (vi 1) 89), (89, jx_go 93), (92, jx_push (vi 0) 93), (93, jx_i2 (fun x y => x + y) 94), (94, jx_stI 4 7 96), (96, jx_incI 5 7 1 99), (99, jx_go 6), (102, jx_ldI 4 104), (104, jx_rI)]
set_option maxRecDepth 100000 in
theorem tl_m138 (D : jx_D) : ∀ pc, jx_tl (jx_look (tb_138 D) pc) := jx_tlm <| by
  unfold tb_138
  exact jx_all1 (tl_push) <|
  jx_all1 (tl_stI) <|
  jx_all1 (tl_push) <|
  jx_all1 (tl_stI) <|
  jx_all1 (tl_ldI) <|
  jx_all1 (tl_ldI) <|
  jx_all1 (tl_cge) <|
  jx_all1 (tl_ldI) <|
  jx_all1 (tl_ldR) <|
  jx_all1 (tl_gR) <|
  jx_all1 (tl_ldI) <|
  jx_all1 (tl_iald) <|
  jx_all1 (tl_cI) <|
  jx_all1 (tl_ldI) <|
  jx_all1 (tl_ldR) <|
  jx_all1 (tl_gR) <|
  jx_all1 (tl_ldI) <|
  jx_all1 (tl_iald) <|
  jx_all1 (tl_cI) <|
  jx_all1 (tl_ceq) <|
  jx_all1 (tl_ldR) <|
  jx_all1 (tl_gI) <|
  jx_all1 (tl_eq0) <|
  jx_all1 (tl_ldI) <|
  jx_all1 (tl_ldR) <|
  jx_all1 (tl_gR) <|
  jx_all1 (tl_ldI) <|
  jx_all1 (tl_iald) <|
  jx_all1 (tl_cI) <|
  jx_all1 (tl_eq0) <|
  jx_all1 (tl_push) <|
  jx_all1 (tl_go) <|
  jx_all1 (tl_push) <|
  jx_all1 (tl_stI) <|
  jx_all1 (tl_ldI) <|
  jx_all1 (tl_ldI) <|
  jx_all1 (tl_eq0) <|
  jx_all1 (tl_ldI) <|
  jx_all1 (tl_push) <|
  jx_all1 (tl_cge) <|
  jx_all1 (tl_ldI) <|
  jx_all1 (tl_ldI) <|
  jx_all1 (tl_cI) <|
  jx_all1 (tl_eq0) <|
  jx_all1 (tl_push) <|
  jx_all1 (tl_go) <|
  jx_all1 (tl_push) <|
  jx_all1 (tl_i2) <|
  jx_all1 (tl_stI) <|
  jx_all1 (tl_incI) <|
  jx_all1 (tl_go) <|
  jx_all1 (tl_ldI) <|
  jx_all1 (tl_rI) <|
  jx_all0
def mk_138 : List (Nat × List Bool) := [(6, [true, true, true, true, true, true, false]), (58, [true, true, true, true, true, true, false]), (62, [true, true, true, true, true, true, false]), (63, [true, true, true, true, true, true, false]), (88, [true, true, true, true, false, true, false]), (92, [true, true, true, true, false, true, false]), (93, [true, true, true, true, false, true, false]), (96, [true, true, true, true, true, true, false])]
/-- RoadBenchModel.cut(II)I -/
noncomputable def tb_139 (D : jx_D) : List (Nat × jx_A) := [(0, jx_ldR 0 1), (1, jx_ldI 1 2), (2, jx_vI D 118 30 2 5), (5, jx_eq0 16 8), (8, jx_ldR 0 9), (9, jx_ldI 2 10), (10, jx_vI D 118 30 2 13), (13, jx_ne0 22 16), (16, jx_ldR 0 17), (17, jx_push (vi (-1)) 18), (18, jx_vI D 111 30 2 21), (21, jx_rI), (22, jx_ldI 1 23), (23, jx_ldI 2 24), (24, jx_cne 34 27), (27, jx_ldR 0 28), (28, jx_push (vi (-3)) 30), (30, jx_vI D 111 30 2 33), (33, jx_rI), (34, jx_ldR 0 35), (35, jx_ldI 1 36), (36, jx_ldI 2 37), (37, jx_vI D 134 30 3 40), (40, jx_stI 3 7 41), (41, jx_ldR 0 42), (42, jx_vI D 135 30 1 45), (45, jx_stI 4 7 47), (47, jx_push (vi 0) 48), (48, jx_stI 5 7 50), (50, jx_ldI 5 52), (52, jx_ldR 0 53), (53, jx_vI D 135 30 1 56), (56, jx_cgt 135 59), (59, jx_ldI 5 61), (61, jx_ldI 1 62), (62, jx_cI D 136 2 65), (65, jx_eq0 99 68), (68, jx_ldI 5 70), (70, jx_ldI 2 71), (71, jx_cI D 136 2 74), (74, jx_ne0 99 77), (77, jx_ldR 0 78), (78, jx_ldI 5 80), (80, jx_ldR 0 81), (81, jx_gI 30 1 84), (84, jx_ldR 0 85), (85, jx_vI D 137 30 1 88), (88, jx_vI D 138 30 4 91), (91, jx_ldI 3 92), (92, jx_cne 99 95), (95, jx_push (vi 1) 96), (96, jx_go 100), (99, jx_push (vi 0) 100), (100, jx_stI 6 7 102), (102, jx_ldI 6 104), (104, jx_eq0 125 107), (107, jx_ldI 5 109), (109, jx_cI D 140 1 112), (112, jx_ldI 4 114), (114, jx_cI D 140 1 117), (117, jx_cge 125 120), (120, jx_ldI 5 122), (122, jx_go 127), (125, jx_ldI 4 127), (127, jx_stI 4 7 129), (129, jx_incI 5 7 1 132), (132, jx_go 50), (135, jx_ldI 4 137), (137, jx_rI)]
set_option maxRecDepth 100000 in
theorem tl_m139 (D : jx_D) : ∀ pc, jx_tl (jx_look (tb_139 D) pc) := jx_tlm <| by
  unfold tb_139
  exact jx_all1 (tl_ldR) <|
  jx_all1 (tl_ldI) <|
  jx_all1 (tl_vI) <|
  jx_all1 (tl_eq0) <|
  jx_all1 (tl_ldR) <|
  jx_all1 (tl_ldI) <|
  jx_all1 (tl_vI) <|
  jx_all1 (tl_ne0) <|
  jx_all1 (tl_ldR) <|
  jx_all1 (tl_push) <|
  jx_all1 (tl_vI) <|
  jx_all1 (tl_rI) <|
  jx_all1 (tl_ldI) <|
  jx_all1 (tl_ldI) <|
  jx_all1 (tl_cne) <|
  jx_all1 (tl_ldR) <|
  jx_all1 (tl_push) <|
  jx_all1 (tl_vI) <|
  jx_all1 (tl_rI) <|
  jx_all1 (tl_ldR) <|
  jx_all1 (tl_ldI) <|
  jx_all1 (tl_ldI) <|
  jx_all1 (tl_vI) <|
  jx_all1 (tl_stI) <|
  jx_all1 (tl_ldR) <|
  jx_all1 (tl_vI) <|
  jx_all1 (tl_stI) <|
  jx_all1 (tl_push) <|
  jx_all1 (tl_stI) <|
  jx_all1 (tl_ldI) <|
  jx_all1 (tl_ldR) <|
  jx_all1 (tl_vI) <|
  jx_all1 (tl_cgt) <|
  jx_all1 (tl_ldI) <|
  jx_all1 (tl_ldI) <|
  jx_all1 (tl_cI) <|
  jx_all1 (tl_eq0) <|
  jx_all1 (tl_ldI) <|
  jx_all1 (tl_ldI) <|
  jx_all1 (tl_cI) <|
  jx_all1 (tl_ne0) <|
  jx_all1 (tl_ldR) <|
  jx_all1 (tl_ldI) <|
  jx_all1 (tl_ldR) <|
  jx_all1 (tl_gI) <|
  jx_all1 (tl_ldR) <|
  jx_all1 (tl_vI) <|
  jx_all1 (tl_vI) <|
  jx_all1 (tl_ldI) <|
  jx_all1 (tl_cne) <|
  jx_all1 (tl_push) <|
  jx_all1 (tl_go) <|
  jx_all1 (tl_push) <|
  jx_all1 (tl_stI) <|
  jx_all1 (tl_ldI) <|
  jx_all1 (tl_eq0) <|
  jx_all1 (tl_ldI) <|
  jx_all1 (tl_cI) <|
  jx_all1 (tl_ldI) <|
  jx_all1 (tl_cI) <|
  jx_all1 (tl_cge) <|
  jx_all1 (tl_ldI) <|
  jx_all1 (tl_go) <|
  jx_all1 (tl_ldI) <|
  jx_all1 (tl_stI) <|
  jx_all1 (tl_incI) <|
  jx_all1 (tl_go) <|
  jx_all1 (tl_ldI) <|
  jx_all1 (tl_rI) <|
  jx_all0
def mk_139 : List (Nat × List Bool) := [(16, [true, false, false, false, false, false, false]), (50, [true, true, true, true, true, true, false]), (99, [true, true, true, true, true, true, false]), (100, [true, true, true, true, true, true, false]), (125, [true, true, true, true, true, true, false]), (127, [true, true, true, true, false, true, false])]
/-- RoadBenchModel.countOf(I)I -/
noncomputable def tb_140 (D : jx_D) : List (Nat × jx_A) := [(0, jx_push (vi 0) 1), (1, jx_stI 1 3 2), (2, jx_push (vi 0) 3), (3, jx_stI 2 3 4), (4, jx_ldI 2 5), (5, jx_push (vi 31) 7), (7, jx_cge 24 10), (10, jx_ldI 1 11), (11, jx_ldI 0 12), (12, jx_ldI 2 13), (13, jx_i2 (fun x y => x >>> (y &&& 31)) 14), (14, jx_push (vi 1) 15), (15, jx_i2 (fun x y => x &&& y) 16), (16, jx_i2 (fun x y => x + y) 17), (17, jx_stI 1 3 18), (18, jx_incI 2 3 1 21), (21, jx_go 4), (24, jx_ldI 1 25), (25, jx_rI)]
set_option maxRecDepth 100000 in
theorem tl_m140 (D : jx_D) : ∀ pc, jx_tl (jx_look (tb_140 D) pc) := jx_tlm <| by
  unfold tb_140
  exact jx_all1 (tl_push) <|
  jx_all1 (tl_stI) <|
  jx_all1 (tl_push) <|
  jx_all1 (tl_stI) <|
  jx_all1 (tl_ldI) <|
  jx_all1 (tl_push) <|
  jx_all1 (tl_cge) <|
  jx_all1 (tl_ldI) <|
  jx_all1 (tl_ldI) <|
  jx_all1 (tl_ldI) <|
  jx_all1 (tl_i2) <|
  jx_all1 (tl_push) <|
  jx_all1 (tl_i2) <|
  jx_all1 (tl_i2) <|
  jx_all1 (tl_stI) <|
  jx_all1 (tl_incI) <|
  jx_all1 (tl_go) <|
  jx_all1 (tl_ldI) <|
  jx_all1 (tl_rI) <|
  jx_all0
def mk_140 : List (Nat × List Bool) := [(4, [true, true, true]), (18, [true, true, true])]
/-- RoadBenchModel.netHold()I -/
noncomputable def tb_141 (D : jx_D) : List (Nat × jx_A) := [(0, jx_ldR 0 1), (1, jx_ldR 0 2), (2, jx_gI 30 1 5), (5, jx_ldR 0 6), (6, jx_vI D 137 30 1 9), (9, jx_vI D 142 30 3 12), (12, jx_rI)]
set_option maxRecDepth 100000 in
theorem tl_m141 (D : jx_D) : ∀ pc, jx_tl (jx_look (tb_141 D) pc) := jx_tlm <| by
  unfold tb_141
  exact jx_all1 (tl_ldR) <|
  jx_all1 (tl_ldR) <|
  jx_all1 (tl_gI) <|
  jx_all1 (tl_ldR) <|
  jx_all1 (tl_vI) <|
  jx_all1 (tl_vI) <|
  jx_all1 (tl_rI) <|
  jx_all0
def mk_141 : List (Nat × List Bool) := []
/-- RoadBenchModel.netHoldOf(II)I -/
noncomputable def tb_142 (D : jx_D) : List (Nat × jx_A) := [(0, jx_ldR 0 1), (1, jx_gI 30 0 4), (4, jx_push (vi 2) 5), (5, jx_cge 12 8), (8, jx_push (vi 0) 9), (9, jx_go 15), (12, jx_push (vi 1000) 15), (15, jx_stI 3 6 16), (16, jx_push (vi 1) 17), (17, jx_stI 4 6 19), (19, jx_ldI 4 21), (21, jx_ldR 0 22), (22, jx_vI D 135 30 1 25), (25, jx_cge 57 28), (28, jx_ldR 0 29), (29, jx_ldI 4 31), (31, jx_ldI 1 32), (32, jx_ldI 2 33), (33, jx_vI D 138 30 4 36), (36, jx_stI 5 6 38), (38, jx_ldI 5 40), (40, jx_ldI 3 41), (41, jx_cge 49 44), (44, jx_ldI 5 46), (46, jx_go 50), (49, jx_ldI 3 50), (50, jx_stI 3 6 51), (51, jx_incI 4 6 1 54), (54, jx_go 19), (57, jx_ldI 3 58), (58, jx_rI)]
set_option maxRecDepth 100000 in
theorem tl_m142 (D : jx_D) : ∀ pc, jx_tl (jx_look (tb_142 D) pc) := jx_tlm <| by
  unfold tb_142
  exact jx_all1 (tl_ldR) <|
  jx_all1 (tl_gI) <|
  jx_all1 (tl_push) <|
  jx_all1 (tl_cge) <|
  jx_all1 (tl_push) <|
  jx_all1 (tl_go) <|
  jx_all1 (tl_push) <|
  jx_all1 (tl_stI) <|
  jx_all1 (tl_push) <|
  jx_all1 (tl_stI) <|
  jx_all1 (tl_ldI) <|
  jx_all1 (tl_ldR) <|
  jx_all1 (tl_vI) <|
  jx_all1 (tl_cge) <|
  jx_all1 (tl_ldR) <|
  jx_all1 (tl_ldI) <|
  jx_all1 (tl_ldI) <|
  jx_all1 (tl_ldI) <|
  jx_all1 (tl_vI) <|
  jx_all1 (tl_stI) <|
  jx_all1 (tl_ldI) <|
  jx_all1 (tl_ldI) <|
  jx_all1 (tl_cge) <|
  jx_all1 (tl_ldI) <|
  jx_all1 (tl_go) <|
  jx_all1 (tl_ldI) <|
  jx_all1 (tl_stI) <|
  jx_all1 (tl_incI) <|
  jx_all1 (tl_go) <|
  jx_all1 (tl_ldI) <|
  jx_all1 (tl_rI) <|
  jx_all0
def mk_142 : List (Nat × List Bool) := [(15, [true, true, true, false, false, false]), (19, [true, true, true, true, true, false]), (50, [true, true, true, false, true, false])]
/-- RoadBenchModel.least(I)I -/
noncomputable def tb_143 (D : jx_D) : List (Nat × jx_A) := [(0, jx_ldR 0 1), (1, jx_vI D 141 30 1 4), (4, jx_stI 2 5 5), (5, jx_push (vi 0) 6), (6, jx_stI 3 5 7), (7, jx_push (vi 1) 8), (8, jx_stI 4 5 10), (10, jx_ldI 4 12), (12, jx_ldR 0 13), (13, jx_vI D 135 30 1 16), (16, jx_cge 70 19), (19, jx_ldR 0 20), (20, jx_gI 30 2 23), (23, jx_ne0 35 26), (26, jx_ldI 4 28), (28, jx_push (vi 0) 29), (29, jx_cI D 136 2 32), (32, jx_ne0 64 35), (35, jx_ldR 0 36), (36, jx_ldI 4 38), (38, jx_ldR 0 39), (39, jx_gI 30 1 42), (42, jx_ldR 0 43), (43, jx_vI D 137 30 1 46), (46, jx_vI D 138 30 4 49), (49, jx_ldI 2 50), (50, jx_cne 64 53), (53, jx_ldI 3 54), (54, jx_ldI 1 55), (55, jx_cne 61 58), (58, jx_ldI 4 60), (60, jx_rI), (61, jx_incI 3 5 1 64), (64, jx_incI 4 5 1 67), (67, jx_go 10), (70, jx_ldI 1 71), (71, jx_push (vi (-1)) 72), (72, jx_cne 79 75), (75, jx_ldI 3 76), (76, jx_go 85), (79, jx_ldR 0 80), (80, jx_push (vi (-6)) 82), (82, jx_vI D 111 30 2 85), (85, jx_rI)]
set_option maxRecDepth 100000 in
theorem tl_m143 (D : jx_D) : ∀ pc, jx_tl (jx_look (tb_143 D) pc) := jx_tlm <| by
  unfold tb_143
  exact jx_all1 (tl_ldR) <|
  jx_all1 (tl_vI) <|
  jx_all1 (tl_stI) <|
  jx_all1 (tl_push) <|
  jx_all1 (tl_stI) <|
  jx_all1 (tl_push) <|
  jx_all1 (tl_stI) <|
  jx_all1 (tl_ldI) <|
  jx_all1 (tl_ldR) <|
  jx_all1 (tl_vI) <|
  jx_all1 (tl_cge) <|
  jx_all1 (tl_ldR) <|
  jx_all1 (tl_gI) <|
  jx_all1 (tl_ne0) <|
  jx_all1 (tl_ldI) <|
  jx_all1 (tl_push) <|
  jx_all1 (tl_cI) <|
  jx_all1 (tl_ne0) <|
  jx_all1 (tl_ldR) <|
  jx_all1 (tl_ldI) <|
  jx_all1 (tl_ldR) <|
  jx_all1 (tl_gI) <|
  jx_all1 (tl_ldR) <|
  jx_all1 (tl_vI) <|
  jx_all1 (tl_vI) <|
  jx_all1 (tl_ldI) <|
  jx_all1 (tl_cne) <|
  jx_all1 (tl_ldI) <|
  jx_all1 (tl_ldI) <|
  jx_all1 (tl_cne) <|
  jx_all1 (tl_ldI) <|
  jx_all1 (tl_rI) <|
  jx_all1 (tl_incI) <|
  jx_all1 (tl_incI) <|
  jx_all1 (tl_go) <|
  jx_all1 (tl_ldI) <|
  jx_all1 (tl_push) <|
  jx_all1 (tl_cne) <|
  jx_all1 (tl_ldI) <|
  jx_all1 (tl_go) <|
  jx_all1 (tl_ldR) <|
  jx_all1 (tl_push) <|
  jx_all1 (tl_vI) <|
  jx_all1 (tl_rI) <|
  jx_all0
def mk_143 : List (Nat × List Bool) := [(10, [true, true, true, true, true]), (35, [true, true, true, true, true]), (64, [true, true, true, true, true]), (85, [false, false, false, false, false])]
/-- RoadBenchModel.apart(II)I -/
noncomputable def tb_144 (D : jx_D) : List (Nat × jx_A) := [(0, jx_ldR 0 1), (1, jx_ldI 1 2), (2, jx_vI D 118 30 2 5), (5, jx_eq0 16 8), (8, jx_ldR 0 9), (9, jx_ldI 2 10), (10, jx_vI D 118 30 2 13), (13, jx_ne0 22 16), (16, jx_ldR 0 17), (17, jx_push (vi (-1)) 18), (18, jx_vI D 111 30 2 21), (21, jx_rI), (22, jx_ldI 1 23), (23, jx_ldI 2 24), (24, jx_cne 34 27), (27, jx_ldR 0 28), (28, jx_push (vi (-3)) 30), (30, jx_vI D 111 30 2 33), (33, jx_rI), (34, jx_push (vi 0) 35), (35, jx_stI 3 8 36), (36, jx_push (vi 0) 37), (37, jx_stI 4 8 39), (39, jx_push (vi 0) 40), (40, jx_stI 5 8 42), (42, jx_ldI 5 44), (44, jx_ldR 0 45), (45, jx_gI 30 1 48), (48, jx_cge 146 51), (51, jx_ldR 0 52), (52, jx_gR 30 33 (fun _ => 0) 55), (55, jx_ldI 5 57), (57, jx_iald 58), (58, jx_ldI 1 59), (59, jx_cne 73 62), (62, jx_ldR 0 63), (63, jx_gR 30 34 (fun _ => 0) 66), (66, jx_ldI 5 68), (68, jx_iald 69), (69, jx_ldI 2 70), (70, jx_ceq 102 73), (73, jx_ldR 0 74), (74, jx_gI 30 2 77), (77, jx_ne0 106 80), (80, jx_ldR 0 81), (81, jx_gR 30 33 (fun _ => 0) 84), (84, jx_ldI 5 86), (86, jx_iald 87), (87, jx_ldI 2 88), (88, jx_cne 106 91), (91, jx_ldR 0 92), (92, jx_gR 30 34 (fun _ => 0) 95), (95, jx_ldI 5 97), (97, jx_iald 98), (98, jx_ldI 1 99), (99, jx_cne 106 102), (102, jx_push (vi 1) 103), (103, jx_go 107), (106, jx_push (vi 0) 107), (107, jx_stI 6 8 109), (109, jx_ldI 3 110), (110, jx_ldI 6 112), (112, jx_eq0 119 115), (115, jx_push (vi 1) 116), (116, jx_go 120), (119, jx_push (vi 0) 120), (120, jx_i2 (fun x y => x + y) 121), (121, jx_stI 3 8 122), (122, jx_ldI 4 124), (124, jx_ldI 6 126), (126, jx_eq0 133 129), (129, jx_push (vi 0) 130), (130, jx_go 137), (133, jx_push (vi 1) 134), (134, jx_ldI 5 136), (136, jx_i2 (fun x y => x <<< (y &&& 31)) 137), (137, jx_i2 (fun x y => x ||| y) 138), (138, jx_stI 4 8 140), (140, jx_incI 5 8 1 143), (143, jx_go 42), (146, jx_push (vi 8) 148), (148, jx_stI 5 8 150), (150, jx_push (vi 0) 151), (151, jx_stI 6 8 153), (153, jx_ldI 6 155), (155, jx_ldR 0 156), (156, jx_vI D 135 30 1 159), (159, jx_cgt 236 162), (162, jx_ldI 6 164), (164, jx_ldI 1 165), (165, jx_cI D 136 2 168), (168, jx_ne0 200 171), (171, jx_ldI 6 173), (173, jx_ldI 2 174), (174, jx_cI D 136 2 177), (177, jx_ne0 200 180), (180, jx_ldR 0 181), (181, jx_ldI 1 182), (182, jx_ldI 6 184), (184, jx_ldI 4 186), (186, jx_vI D 145 30 4 189), (189, jx_ldI 2 190), (190, jx_cI D 136 2 193), (193, jx_ne0 200 196), (196, jx_push (vi 1) 197), (197, jx_go 201), (200, jx_push (vi 0) 201), (201, jx_stI 7 8 203), (203, jx_ldI 7 205), (205, jx_eq0 226 208), (208, jx_ldI 6 210), (210, jx_cI D 140 1 213), (213, jx_ldI 5 215), (215, jx_cge 226 218), (218, jx_ldI 6 220), (220, jx_cI D 140 1 223), (223, jx_go 228), (226, jx_ldI 5 228), (228, jx_stI 5 8 230), (230, jx_incI 6 8 1 233), (233, jx_go 153), (236, jx_ldI 3 237), (237, jx_ldI 5 239), (239, jx_i2 (fun x y => x + y) 240), (240, jx_rI)]
set_option maxRecDepth 100000 in
theorem tl_m144 (D : jx_D) : ∀ pc, jx_tl (jx_look (tb_144 D) pc) := jx_tlm <| by
  unfold tb_144
  exact jx_all1 (tl_ldR) <|
  jx_all1 (tl_ldI) <|
  jx_all1 (tl_vI) <|
  jx_all1 (tl_eq0) <|
  jx_all1 (tl_ldR) <|
  jx_all1 (tl_ldI) <|
  jx_all1 (tl_vI) <|
  jx_all1 (tl_ne0) <|
  jx_all1 (tl_ldR) <|
  jx_all1 (tl_push) <|
  jx_all1 (tl_vI) <|
  jx_all1 (tl_rI) <|
  jx_all1 (tl_ldI) <|
  jx_all1 (tl_ldI) <|
  jx_all1 (tl_cne) <|
  jx_all1 (tl_ldR) <|
  jx_all1 (tl_push) <|
  jx_all1 (tl_vI) <|
  jx_all1 (tl_rI) <|
  jx_all1 (tl_push) <|
  jx_all1 (tl_stI) <|
  jx_all1 (tl_push) <|
  jx_all1 (tl_stI) <|
  jx_all1 (tl_push) <|
  jx_all1 (tl_stI) <|
  jx_all1 (tl_ldI) <|
  jx_all1 (tl_ldR) <|
  jx_all1 (tl_gI) <|
  jx_all1 (tl_cge) <|
  jx_all1 (tl_ldR) <|
  jx_all1 (tl_gR) <|
  jx_all1 (tl_ldI) <|
  jx_all1 (tl_iald) <|
  jx_all1 (tl_ldI) <|
  jx_all1 (tl_cne) <|
  jx_all1 (tl_ldR) <|
  jx_all1 (tl_gR) <|
  jx_all1 (tl_ldI) <|
  jx_all1 (tl_iald) <|
  jx_all1 (tl_ldI) <|
  jx_all1 (tl_ceq) <|
  jx_all1 (tl_ldR) <|
  jx_all1 (tl_gI) <|
  jx_all1 (tl_ne0) <|
  jx_all1 (tl_ldR) <|
  jx_all1 (tl_gR) <|
  jx_all1 (tl_ldI) <|
  jx_all1 (tl_iald) <|
  jx_all1 (tl_ldI) <|
  jx_all1 (tl_cne) <|
  jx_all1 (tl_ldR) <|
  jx_all1 (tl_gR) <|
  jx_all1 (tl_ldI) <|
  jx_all1 (tl_iald) <|
  jx_all1 (tl_ldI) <|
  jx_all1 (tl_cne) <|
  jx_all1 (tl_push) <|
  jx_all1 (tl_go) <|
  jx_all1 (tl_push) <|
  jx_all1 (tl_stI) <|
  jx_all1 (tl_ldI) <|
  jx_all1 (tl_ldI) <|
  jx_all1 (tl_eq0) <|
  jx_all1 (tl_push) <|
  jx_all1 (tl_go) <|
  jx_all1 (tl_push) <|
  jx_all1 (tl_i2) <|
  jx_all1 (tl_stI) <|
  jx_all1 (tl_ldI) <|
  jx_all1 (tl_ldI) <|
  jx_all1 (tl_eq0) <|
  jx_all1 (tl_push) <|
  jx_all1 (tl_go) <|
  jx_all1 (tl_push) <|
  jx_all1 (tl_ldI) <|
  jx_all1 (tl_i2) <|
  jx_all1 (tl_i2) <|
  jx_all1 (tl_stI) <|
  jx_all1 (tl_incI) <|
  jx_all1 (tl_go) <|
  jx_all1 (tl_push) <|
  jx_all1 (tl_stI) <|
  jx_all1 (tl_push) <|
  jx_all1 (tl_stI) <|
  jx_all1 (tl_ldI) <|
  jx_all1 (tl_ldR) <|
  jx_all1 (tl_vI) <|
  jx_all1 (tl_cgt) <|
  jx_all1 (tl_ldI) <|
  jx_all1 (tl_ldI) <|
  jx_all1 (tl_cI) <|
  jx_all1 (tl_ne0) <|
  jx_all1 (tl_ldI) <|
  jx_all1 (tl_ldI) <|
  jx_all1 (tl_cI) <|
  jx_all1 (tl_ne0) <|
  jx_all1 (tl_ldR) <|
  jx_all1 (tl_ldI) <|
  jx_all1 (tl_ldI) <|
  jx_all1 (tl_ldI) <|
  jx_all1 (tl_vI) <|
  jx_all1 (tl_ldI) <|
  jx_all1 (tl_cI) <|
  jx_all1 (tl_ne0) <|
  jx_all1 (tl_push) <|
  jx_all1 (tl_go) <|
  jx_all1 (tl_push) <|
  jx_all1 (tl_stI) <|
  jx_all1 (tl_ldI) <|
  jx_all1 (tl_eq0) <|
  jx_all1 (tl_ldI) <|
  jx_all1 (tl_cI) <|
  jx_all1 (tl_ldI) <|
  jx_all1 (tl_cge) <|
  jx_all1 (tl_ldI) <|
  jx_all1 (tl_cI) <|
  jx_all1 (tl_go) <|
  jx_all1 (tl_ldI) <|
  jx_all1 (tl_stI) <|
  jx_all1 (tl_incI) <|
  jx_all1 (tl_go) <|
  jx_all1 (tl_ldI) <|
  jx_all1 (tl_ldI) <|
  jx_all1 (tl_i2) <|
  jx_all1 (tl_rI) <|
  jx_all0
def mk_144 : List (Nat × List Bool) := [(16, [true, false, false, false, false, false, false, false]), (42, [true, true, true, true, true, true, false, false]), (73, [true, true, true, true, true, true, false, false]), (102, [true, true, true, true, true, true, false, false]), (106, [true, true, true, true, true, true, false, false]), (107, [true, true, true, true, true, true, false, false]), (120, [true, true, true, false, true, true, true, false]), (122, [true, true, true, true, true, true, true, false]), (137, [true, true, true, true, false, true, false, false]), (140, [true, true, true, true, true, true, false, false]), (153, [true, true, true, true, true, true, true, false]), (200, [true, true, true, true, true, true, true, false]), (201, [true, true, true, true, true, true, true, false]), (226, [true, true, true, true, true, true, true, false]), (228, [true, true, true, true, true, false, true, false])]
/-- RoadBenchModel.reach(III)I -/
noncomputable def tb_145 (D : jx_D) : List (Nat × jx_A) := [(0, jx_ldI 2 1), (1, jx_ldI 1 2), (2, jx_cI D 136 2 5), (5, jx_eq0 12 8), (8, jx_push (vi 0) 9), (9, jx_go 15), (12, jx_push (vi 1) 13), (13, jx_ldI 1 14), (14, jx_i2 (fun x y => x <<< (y &&& 31)) 15), (15, jx_stI 4 7 17), (17, jx_push (vi 0) 18), (18, jx_stI 5 7 20), (20, jx_ldI 4 22), (22, jx_ldI 5 24), (24, jx_ceq 162 27), (27, jx_ldI 4 29), (29, jx_stI 5 7 31), (31, jx_push (vi 0) 32), (32, jx_stI 6 7 34), (34, jx_ldI 6 36), (36, jx_ldR 0 37), (37, jx_gI 30 1 40), (40, jx_cge 159 43), (43, jx_ldI 3 44), (44, jx_ldI 6 46), (46, jx_cI D 136 2 49), (49, jx_eq0 153 52), (52, jx_ldI 2 53), (53, jx_ldR 0 54), (54, jx_gR 30 33 (fun _ => 0) 57), (57, jx_ldI 6 59), (59, jx_iald 60), (60, jx_cI D 136 2 63), (63, jx_ne0 153 66), (66, jx_ldI 2 67), (67, jx_ldR 0 68), (68, jx_gR 30 34 (fun _ => 0) 71), (71, jx_ldI 6 73), (73, jx_iald 74), (74, jx_cI D 136 2 77), (77, jx_ne0 153 80), (80, jx_ldI 4 82), (82, jx_ldI 4 84), (84, jx_ldR 0 85), (85, jx_gR 30 33 (fun _ => 0) 88), (88, jx_ldI 6 90), (90, jx_iald 91), (91, jx_cI D 136 2 94), (94, jx_eq0 109 97), (97, jx_push (vi 1) 98), (98, jx_ldR 0 99), (99, jx_gR 30 34 (fun _ => 0) 102), (102, jx_ldI 6 104), (104, jx_iald 105), (105, jx_i2 (fun x y => x <<< (y &&& 31)) 106), (106, jx_go 110), (109, jx_push (vi 0) 110), (110, jx_i2 (fun x y => x ||| y) 111), (111, jx_stI 4 7 113), (113, jx_ldI 4 115), (115, jx_ldR 0 116), (116, jx_gI 30 2 119), (119, jx_ne0 149 122), (122, jx_ldI 4 124), (124, jx_ldR 0 125), (125, jx_gR 30 34 (fun _ => 0) 128), (128, jx_ldI 6 130), (130, jx_iald 131), (131, jx_cI D 136 2 134), (134, jx_eq0 149 137), (137, jx_push (vi 1) 138), (138, jx_ldR 0 139), (139, jx_gR 30 33 (fun _ => 0) 142), (142, jx_ldI 6 144), (144, jx_iald 145), (145, jx_i2 (fun x y => x <<< (y &&& 31)) 146), (146, jx_go 150), (149, jx_push (vi 0) 150), (150, jx_i2 (fun x y => x ||| y) 151), (151, jx_stI 4 7 153), (153, jx_incI 6 7 1 156), (156, jx_go 34), (159, jx_go 20), (162, jx_ldI 4 164), (164, jx_rI)]
set_option maxRecDepth 100000 in
theorem tl_m145 (D : jx_D) : ∀ pc, jx_tl (jx_look (tb_145 D) pc) := jx_tlm <| by
  unfold tb_145
  exact jx_all1 (tl_ldI) <|
  jx_all1 (tl_ldI) <|
  jx_all1 (tl_cI) <|
  jx_all1 (tl_eq0) <|
  jx_all1 (tl_push) <|
  jx_all1 (tl_go) <|
  jx_all1 (tl_push) <|
  jx_all1 (tl_ldI) <|
  jx_all1 (tl_i2) <|
  jx_all1 (tl_stI) <|
  jx_all1 (tl_push) <|
  jx_all1 (tl_stI) <|
  jx_all1 (tl_ldI) <|
  jx_all1 (tl_ldI) <|
  jx_all1 (tl_ceq) <|
  jx_all1 (tl_ldI) <|
  jx_all1 (tl_stI) <|
  jx_all1 (tl_push) <|
  jx_all1 (tl_stI) <|
  jx_all1 (tl_ldI) <|
  jx_all1 (tl_ldR) <|
  jx_all1 (tl_gI) <|
  jx_all1 (tl_cge) <|
  jx_all1 (tl_ldI) <|
  jx_all1 (tl_ldI) <|
  jx_all1 (tl_cI) <|
  jx_all1 (tl_eq0) <|
  jx_all1 (tl_ldI) <|
  jx_all1 (tl_ldR) <|
  jx_all1 (tl_gR) <|
  jx_all1 (tl_ldI) <|
  jx_all1 (tl_iald) <|
  jx_all1 (tl_cI) <|
  jx_all1 (tl_ne0) <|
  jx_all1 (tl_ldI) <|
  jx_all1 (tl_ldR) <|
  jx_all1 (tl_gR) <|
  jx_all1 (tl_ldI) <|
  jx_all1 (tl_iald) <|
  jx_all1 (tl_cI) <|
  jx_all1 (tl_ne0) <|
  jx_all1 (tl_ldI) <|
  jx_all1 (tl_ldI) <|
  jx_all1 (tl_ldR) <|
  jx_all1 (tl_gR) <|
  jx_all1 (tl_ldI) <|
  jx_all1 (tl_iald) <|
  jx_all1 (tl_cI) <|
  jx_all1 (tl_eq0) <|
  jx_all1 (tl_push) <|
  jx_all1 (tl_ldR) <|
  jx_all1 (tl_gR) <|
  jx_all1 (tl_ldI) <|
  jx_all1 (tl_iald) <|
  jx_all1 (tl_i2) <|
  jx_all1 (tl_go) <|
  jx_all1 (tl_push) <|
  jx_all1 (tl_i2) <|
  jx_all1 (tl_stI) <|
  jx_all1 (tl_ldI) <|
  jx_all1 (tl_ldR) <|
  jx_all1 (tl_gI) <|
  jx_all1 (tl_ne0) <|
  jx_all1 (tl_ldI) <|
  jx_all1 (tl_ldR) <|
  jx_all1 (tl_gR) <|
  jx_all1 (tl_ldI) <|
  jx_all1 (tl_iald) <|
  jx_all1 (tl_cI) <|
  jx_all1 (tl_eq0) <|
  jx_all1 (tl_push) <|
  jx_all1 (tl_ldR) <|
  jx_all1 (tl_gR) <|
  jx_all1 (tl_ldI) <|
  jx_all1 (tl_iald) <|
  jx_all1 (tl_i2) <|
  jx_all1 (tl_go) <|
  jx_all1 (tl_push) <|
  jx_all1 (tl_i2) <|
  jx_all1 (tl_stI) <|
  jx_all1 (tl_incI) <|
  jx_all1 (tl_go) <|
  jx_all1 (tl_go) <|
  jx_all1 (tl_ldI) <|
  jx_all1 (tl_rI) <|
  jx_all0
def mk_145 : List (Nat × List Bool) := [(15, [true, false, true, true, false, false, false]), (17, [true, false, true, true, true, false, false]), (20, [true, false, true, true, true, true, false]), (34, [true, false, true, true, true, true, true]), (110, [true, false, true, true, false, true, true]), (113, [true, false, true, true, true, true, true]), (149, [true, false, true, true, false, true, true]), (150, [true, false, true, true, false, true, true]), (153, [true, false, true, true, true, true, true])]
/-- RoadBenchModel.heap(II)I -/
noncomputable def tb_146 (D : jx_D) : List (Nat × jx_A) := [(0, jx_ldR 0 1), (1, jx_ldI 1 2), (2, jx_vI D 118 30 2 5), (5, jx_eq0 13 8), (8, jx_ldI 2 9), (9, jx_push (vi 1) 10), (10, jx_cge 19 13), (13, jx_ldR 0 14), (14, jx_push (vi (-1)) 15), (15, jx_vI D 111 30 2 18), (18, jx_rI), (19, jx_ldR 0 20), (20, jx_gI 30 2 23), (23, jx_eq0 33 26), (26, jx_ldR 0 27), (27, jx_push (vi (-8)) 29), (29, jx_vI D 111 30 2 32), (32, jx_rI), (33, jx_ldI 1 34), (34, jx_stI 3 5 35), (35, jx_ldR 0 36), (36, jx_gI 30 0 39), (39, jx_push (vi 1) 40), (40, jx_i2 (fun x y => x - y) 41), (41, jx_stI 4 5 43), (43, jx_ldI 4 45), (45, jx_lt0 88 48), (48, jx_ldI 4 50), (50, jx_ldI 1 51), (51, jx_ceq 65 54), (54, jx_ldR 0 55), (55, jx_ldI 1 56), (56, jx_ldI 4 58), (58, jx_vI D 134 30 3 61), (61, jx_ldI 2 62), (62, jx_clt 80 65), (65, jx_ldI 4 67), (67, jx_ldI 3 68), (68, jx_cge 76 71), (71, jx_ldI 4 73), (73, jx_go 81), (76, jx_ldI 3 77), (77, jx_go 81), (80, jx_ldI 3 81), (81, jx_stI 3 5 82), (82, jx_incI 4 5 (-1) 85), (85, jx_go 43), (88, jx_ldI 3 89), (89, jx_rI)]
set_option maxRecDepth 100000 in
theorem tl_m146 (D : jx_D) : ∀ pc, jx_tl (jx_look (tb_146 D) pc) := jx_tlm <| by
  unfold tb_146
  exact jx_all1 (tl_ldR) <|
  jx_all1 (tl_ldI) <|
  jx_all1 (tl_vI) <|
  jx_all1 (tl_eq0) <|
  jx_all1 (tl_ldI) <|
  jx_all1 (tl_push) <|
  jx_all1 (tl_cge) <|
  jx_all1 (tl_ldR) <|
  jx_all1 (tl_push) <|
  jx_all1 (tl_vI) <|
  jx_all1 (tl_rI) <|
  jx_all1 (tl_ldR) <|
  jx_all1 (tl_gI) <|
  jx_all1 (tl_eq0) <|
  jx_all1 (tl_ldR) <|
  jx_all1 (tl_push) <|
  jx_all1 (tl_vI) <|
  jx_all1 (tl_rI) <|
  jx_all1 (tl_ldI) <|
  jx_all1 (tl_stI) <|
  jx_all1 (tl_ldR) <|
  jx_all1 (tl_gI) <|
  jx_all1 (tl_push) <|
  jx_all1 (tl_i2) <|
  jx_all1 (tl_stI) <|
  jx_all1 (tl_ldI) <|
  jx_all1 (tl_lt0) <|
  jx_all1 (tl_ldI) <|
  jx_all1 (tl_ldI) <|
  jx_all1 (tl_ceq) <|
  jx_all1 (tl_ldR) <|
  jx_all1 (tl_ldI) <|
  jx_all1 (tl_ldI) <|
  jx_all1 (tl_vI) <|
  jx_all1 (tl_ldI) <|
  jx_all1 (tl_clt) <|
  jx_all1 (tl_ldI) <|
  jx_all1 (tl_ldI) <|
  jx_all1 (tl_cge) <|
  jx_all1 (tl_ldI) <|
  jx_all1 (tl_go) <|
  jx_all1 (tl_ldI) <|
  jx_all1 (tl_go) <|
  jx_all1 (tl_ldI) <|
  jx_all1 (tl_stI) <|
  jx_all1 (tl_incI) <|
  jx_all1 (tl_go) <|
  jx_all1 (tl_ldI) <|
  jx_all1 (tl_rI) <|
  jx_all0
def mk_146 : List (Nat × List Bool) := [(13, [true, false, false, false, false]), (43, [true, true, true, true, true]), (65, [true, true, true, true, true]), (81, [true, true, true, false, true])]
/-- RoadBenchModel.still(ZI)I -/
noncomputable def tb_147 (D : jx_D) : List (Nat × jx_A) := [(0, jx_ldI 1 1), (1, jx_eq0 11 4), (4, jx_ldR 0 5), (5, jx_vI D 135 30 1 8), (8, jx_go 15), (11, jx_ldR 0 12), (12, jx_vI D 137 30 1 15), (15, jx_stI 3 4 16), (16, jx_ldI 2 17), (17, jx_lt0 25 20), (20, jx_ldI 2 21), (21, jx_ldI 3 22), (22, jx_cle 31 25), (25, jx_ldR 0 26), (26, jx_push (vi (-1)) 27), (27, jx_vI D 111 30 2 30), (30, jx_rI), (31, jx_ldI 1 32), (32, jx_eq0 52 35), (35, jx_ldR 0 36), (36, jx_vI D 135 30 1 39), (39, jx_ldI 2 40), (40, jx_push (vi (-1)) 41), (41, jx_i2 (fun x y => x ^^^ y) 42), (42, jx_i2 (fun x y => x &&& y) 43), (43, jx_cI D 140 1 46), (46, jx_push (vi 1) 47), (47, jx_cgt 52 50), (50, jx_push (vi 1) 51), (51, jx_rI), (52, jx_ldI 1 53), (53, jx_eq0 71 56), (56, jx_ldR 0 57), (57, jx_ldI 2 58), (58, jx_ldR 0 59), (59, jx_vI D 137 30 1 62), (62, jx_vI D 148 30 3 65), (65, jx_eq0 91 68), (68, jx_go 87), (71, jx_ldR 0 72), (72, jx_push (vi 0) 73), (73, jx_ldR 0 74), (74, jx_vI D 137 30 1 77), (77, jx_ldI 2 78), (78, jx_push (vi (-1)) 79), (79, jx_i2 (fun x y => x ^^^ y) 80), (80, jx_i2 (fun x y => x &&& y) 81), (81, jx_vI D 148 30 3 84), (84, jx_eq0 91 87), (87, jx_push (vi 1) 88), (88, jx_go 92), (91, jx_push (vi 0) 92), (92, jx_rI)]
set_option maxRecDepth 100000 in
theorem tl_m147 (D : jx_D) : ∀ pc, jx_tl (jx_look (tb_147 D) pc) := jx_tlm <| by
  unfold tb_147
  exact jx_all1 (tl_ldI) <|
  jx_all1 (tl_eq0) <|
  jx_all1 (tl_ldR) <|
  jx_all1 (tl_vI) <|
  jx_all1 (tl_go) <|
  jx_all1 (tl_ldR) <|
  jx_all1 (tl_vI) <|
  jx_all1 (tl_stI) <|
  jx_all1 (tl_ldI) <|
  jx_all1 (tl_lt0) <|
  jx_all1 (tl_ldI) <|
  jx_all1 (tl_ldI) <|
  jx_all1 (tl_cle) <|
  jx_all1 (tl_ldR) <|
  jx_all1 (tl_push) <|
  jx_all1 (tl_vI) <|
  jx_all1 (tl_rI) <|
  jx_all1 (tl_ldI) <|
  jx_all1 (tl_eq0) <|
  jx_all1 (tl_ldR) <|
  jx_all1 (tl_vI) <|
  jx_all1 (tl_ldI) <|
  jx_all1 (tl_push) <|
  jx_all1 (tl_i2) <|
  jx_all1 (tl_i2) <|
  jx_all1 (tl_cI) <|
  jx_all1 (tl_push) <|
  jx_all1 (tl_cgt) <|
  jx_all1 (tl_push) <|
  jx_all1 (tl_rI) <|
  jx_all1 (tl_ldI) <|
  jx_all1 (tl_eq0) <|
  jx_all1 (tl_ldR) <|
  jx_all1 (tl_ldI) <|
  jx_all1 (tl_ldR) <|
  jx_all1 (tl_vI) <|
  jx_all1 (tl_vI) <|
  jx_all1 (tl_eq0) <|
  jx_all1 (tl_go) <|
  jx_all1 (tl_ldR) <|
  jx_all1 (tl_push) <|
  jx_all1 (tl_ldR) <|
  jx_all1 (tl_vI) <|
  jx_all1 (tl_ldI) <|
  jx_all1 (tl_push) <|
  jx_all1 (tl_i2) <|
  jx_all1 (tl_i2) <|
  jx_all1 (tl_vI) <|
  jx_all1 (tl_eq0) <|
  jx_all1 (tl_push) <|
  jx_all1 (tl_go) <|
  jx_all1 (tl_push) <|
  jx_all1 (tl_rI) <|
  jx_all0
def mk_147 : List (Nat × List Bool) := [(15, [true, true, true, false]), (25, [true, false, false, false]), (52, [true, true, true, false]), (87, [false, false, false, false]), (91, [false, false, false, false]), (92, [false, false, false, false])]
/-- RoadBenchModel.hangs(II)Z -/
noncomputable def tb_148 (D : jx_D) : List (Nat × jx_A) := [(0, jx_ldR 0 1), (1, jx_gI 30 0 4), (4, jx_le0 11 7), (7, jx_push (vi 1) 8), (8, jx_go 12), (11, jx_push (vi 0) 12), (12, jx_stI 3 5 13), (13, jx_push (vi 0) 14), (14, jx_stI 4 5 16), (16, jx_ldI 4 18), (18, jx_ldR 0 19), (19, jx_gI 30 0 22), (22, jx_cge 67 25), (25, jx_ldI 3 26), (26, jx_ldI 1 27), (27, jx_ldI 4 29), (29, jx_cI D 136 2 32), (32, jx_ne0 54 35), (35, jx_ldR 0 36), (36, jx_ldI 4 38), (38, jx_ldI 1 39), (39, jx_ldI 2 40), (40, jx_vI D 145 30 4 43), (43, jx_ldR 0 44), (44, jx_vI D 135 30 1 47), (47, jx_ldI 1 48), (48, jx_push (vi (-1)) 49), (49, jx_i2 (fun x y => x ^^^ y) 50), (50, jx_i2 (fun x y => x &&& y) 51), (51, jx_cne 58 54), (54, jx_push (vi 1) 55), (55, jx_go 59), (58, jx_push (vi 0) 59), (59, jx_i2 (fun x y => x &&& y) 60), (60, jx_stI 3 5 61), (61, jx_incI 4 5 1 64), (64, jx_go 16), (67, jx_ldI 3 68), (68, jx_rZ)]
set_option maxRecDepth 100000 in
theorem tl_m148 (D : jx_D) : ∀ pc, jx_tl (jx_look (tb_148 D) pc) := jx_tlm <| by
  unfold tb_148
  exact jx_all1 (tl_ldR) <|
  jx_all1 (tl_gI) <|
  jx_all1 (tl_le0) <|
  jx_all1 (tl_push) <|
  jx_all1 (tl_go) <|
  jx_all1 (tl_push) <|
  jx_all1 (tl_stI) <|
  jx_all1 (tl_push) <|
  jx_all1 (tl_stI) <|
  jx_all1 (tl_ldI) <|
  jx_all1 (tl_ldR) <|
  jx_all1 (tl_gI) <|
  jx_all1 (tl_cge) <|
  jx_all1 (tl_ldI) <|
  jx_all1 (tl_ldI) <|
  jx_all1 (tl_ldI) <|
  jx_all1 (tl_cI) <|
  jx_all1 (tl_ne0) <|
  jx_all1 (tl_ldR) <|
  jx_all1 (tl_ldI) <|
  jx_all1 (tl_ldI) <|
  jx_all1 (tl_ldI) <|
  jx_all1 (tl_vI) <|
  jx_all1 (tl_ldR) <|
  jx_all1 (tl_vI) <|
  jx_all1 (tl_ldI) <|
  jx_all1 (tl_push) <|
  jx_all1 (tl_i2) <|
  jx_all1 (tl_i2) <|
  jx_all1 (tl_cne) <|
  jx_all1 (tl_push) <|
  jx_all1 (tl_go) <|
  jx_all1 (tl_push) <|
  jx_all1 (tl_i2) <|
  jx_all1 (tl_stI) <|
  jx_all1 (tl_incI) <|
  jx_all1 (tl_go) <|
  jx_all1 (tl_ldI) <|
  jx_all1 (tl_rZ) <|
  jx_all0
def mk_148 : List (Nat × List Bool) := [(12, [true, true, true, false, false]), (16, [true, true, true, true, true]), (54, [true, true, true, false, true]), (59, [true, true, true, false, true]), (61, [true, true, true, true, true])]
/-- RoadBenchModel.bridges()I -/
noncomputable def tb_149 (D : jx_D) : List (Nat × jx_A) := [(0, jx_ldR 0 1), (1, jx_gI 30 2 4), (4, jx_eq0 14 7), (7, jx_ldR 0 8), (8, jx_push (vi (-8)) 10), (10, jx_vI D 111 30 2 13), (13, jx_rI), (14, jx_push (vi 0) 15), (15, jx_stI 1 3 16), (16, jx_push (vi 0) 17), (17, jx_stI 2 3 18), (18, jx_ldI 2 19), (19, jx_ldR 0 20), (20, jx_gI 30 1 23), (23, jx_cge 75 26), (26, jx_ldI 1 27), (27, jx_ldR 0 28), (28, jx_ldR 0 29), (29, jx_gR 30 33 (fun _ => 0) 32), (32, jx_ldI 2 33), (33, jx_iald 34), (34, jx_push (vi 0) 35), (35, jx_ldR 0 36), (36, jx_vI D 137 30 1 39), (39, jx_push (vi 1) 40), (40, jx_ldI 2 41), (41, jx_i2 (fun x y => x <<< (y &&& 31)) 42), (42, jx_push (vi (-1)) 43), (43, jx_i2 (fun x y => x ^^^ y) 44), (44, jx_i2 (fun x y => x &&& y) 45), (45, jx_vI D 145 30 4 48), (48, jx_ldR 0 49), (49, jx_gR 30 34 (fun _ => 0) 52), (52, jx_ldI 2 53), (53, jx_iald 54), (54, jx_cI D 136 2 57), (57, jx_eq0 64 60), (60, jx_push (vi 0) 61), (61, jx_go 67), (64, jx_push (vi 1) 65), (65, jx_ldI 2 66), (66, jx_i2 (fun x y => x <<< (y &&& 31)) 67), (67, jx_i2 (fun x y => x ||| y) 68), (68, jx_stI 1 3 69), (69, jx_incI 2 3 1 72), (72, jx_go 18), (75, jx_ldI 1 76), (76, jx_rI)]
set_option maxRecDepth 100000 in
theorem tl_m149 (D : jx_D) : ∀ pc, jx_tl (jx_look (tb_149 D) pc) := jx_tlm <| by
  unfold tb_149
  exact jx_all1 (tl_ldR) <|
  jx_all1 (tl_gI) <|
  jx_all1 (tl_eq0) <|
  jx_all1 (tl_ldR) <|
  jx_all1 (tl_push) <|
  jx_all1 (tl_vI) <|
  jx_all1 (tl_rI) <|
  jx_all1 (tl_push) <|
  jx_all1 (tl_stI) <|
  jx_all1 (tl_push) <|
  jx_all1 (tl_stI) <|
  jx_all1 (tl_ldI) <|
  jx_all1 (tl_ldR) <|
  jx_all1 (tl_gI) <|
  jx_all1 (tl_cge) <|
  jx_all1 (tl_ldI) <|
  jx_all1 (tl_ldR) <|
  jx_all1 (tl_ldR) <|
  jx_all1 (tl_gR) <|
  jx_all1 (tl_ldI) <|
  jx_all1 (tl_iald) <|
  jx_all1 (tl_push) <|
  jx_all1 (tl_ldR) <|
  jx_all1 (tl_vI) <|
  jx_all1 (tl_push) <|
  jx_all1 (tl_ldI) <|
  jx_all1 (tl_i2) <|
  jx_all1 (tl_push) <|
  jx_all1 (tl_i2) <|
  jx_all1 (tl_i2) <|
  jx_all1 (tl_vI) <|
  jx_all1 (tl_ldR) <|
  jx_all1 (tl_gR) <|
  jx_all1 (tl_ldI) <|
  jx_all1 (tl_iald) <|
  jx_all1 (tl_cI) <|
  jx_all1 (tl_eq0) <|
  jx_all1 (tl_push) <|
  jx_all1 (tl_go) <|
  jx_all1 (tl_push) <|
  jx_all1 (tl_ldI) <|
  jx_all1 (tl_i2) <|
  jx_all1 (tl_i2) <|
  jx_all1 (tl_stI) <|
  jx_all1 (tl_incI) <|
  jx_all1 (tl_go) <|
  jx_all1 (tl_ldI) <|
  jx_all1 (tl_rI) <|
  jx_all0
def mk_149 : List (Nat × List Bool) := [(18, [true, true, true]), (67, [true, false, true]), (69, [true, true, true])]
/-- RoadBenchModel.joints()I -/
noncomputable def tb_150 (D : jx_D) : List (Nat × jx_A) := [(0, jx_ldR 0 1), (1, jx_gI 30 2 4), (4, jx_eq0 14 7), (7, jx_ldR 0 8), (8, jx_push (vi (-8)) 10), (10, jx_vI D 111 30 2 13), (13, jx_rI), (14, jx_push (vi 0) 15), (15, jx_stI 1 5 16), (16, jx_push (vi 0) 17), (17, jx_stI 2 5 18), (18, jx_ldI 2 19), (19, jx_ldR 0 20), (20, jx_gI 30 0 23), (23, jx_cge 113 26), (26, jx_push (vi 0) 27), (27, jx_stI 3 5 28), (28, jx_push (vi 0) 29), (29, jx_stI 4 5 31), (31, jx_ldI 4 33), (33, jx_ldR 0 34), (34, jx_gI 30 0 37), (37, jx_cge 93 40), (40, jx_ldI 3 41), (41, jx_ldI 4 43), (43, jx_ldI 2 44), (44, jx_ceq 84 47), (47, jx_ldR 0 48), (48, jx_ldI 4 50), (50, jx_push (vi 1) 51), (51, jx_ldI 2 52), (52, jx_i2 (fun x y => x <<< (y &&& 31)) 53), (53, jx_ldR 0 54), (54, jx_vI D 137 30 1 57), (57, jx_vI D 145 30 4 60), (60, jx_ldR 0 61), (61, jx_ldI 4 63), (63, jx_push (vi 0) 64), (64, jx_ldR 0 65), (65, jx_vI D 137 30 1 68), (68, jx_vI D 145 30 4 71), (71, jx_push (vi 1) 72), (72, jx_ldI 2 73), (73, jx_i2 (fun x y => x <<< (y &&& 31)) 74), (74, jx_push (vi (-1)) 75), (75, jx_i2 (fun x y => x ^^^ y) 76), (76, jx_i2 (fun x y => x &&& y) 77), (77, jx_ceq 84 80), (80, jx_push (vi 1) 81), (81, jx_go 85), (84, jx_push (vi 0) 85), (85, jx_i2 (fun x y => x ||| y) 86), (86, jx_stI 3 5 87), (87, jx_incI 4 5 1 90), (90, jx_go 31), (93, jx_ldI 1 94), (94, jx_ldI 3 95), (95, jx_eq0 104 98), (98, jx_push (vi 1) 99), (99, jx_ldI 2 100), (100, jx_i2 (fun x y => x <<< (y &&& 31)) 101), (101, jx_go 105), (104, jx_push (vi 0) 105), (105, jx_i2 (fun x y => x ||| y) 106), (106, jx_stI 1 5 107), (107, jx_incI 2 5 1 110), (110, jx_go 18), (113, jx_ldI 1 114), (114, jx_rI)]
set_option maxRecDepth 100000 in
theorem tl_m150 (D : jx_D) : ∀ pc, jx_tl (jx_look (tb_150 D) pc) := jx_tlm <| by
  unfold tb_150
  exact jx_all1 (tl_ldR) <|
  jx_all1 (tl_gI) <|
  jx_all1 (tl_eq0) <|
  jx_all1 (tl_ldR) <|
  jx_all1 (tl_push) <|
  jx_all1 (tl_vI) <|
  jx_all1 (tl_rI) <|
  jx_all1 (tl_push) <|
  jx_all1 (tl_stI) <|
  jx_all1 (tl_push) <|
  jx_all1 (tl_stI) <|
  jx_all1 (tl_ldI) <|
  jx_all1 (tl_ldR) <|
  jx_all1 (tl_gI) <|
  jx_all1 (tl_cge) <|
  jx_all1 (tl_push) <|
  jx_all1 (tl_stI) <|
  jx_all1 (tl_push) <|
  jx_all1 (tl_stI) <|
  jx_all1 (tl_ldI) <|
  jx_all1 (tl_ldR) <|
  jx_all1 (tl_gI) <|
  jx_all1 (tl_cge) <|
  jx_all1 (tl_ldI) <|
  jx_all1 (tl_ldI) <|
  jx_all1 (tl_ldI) <|
  jx_all1 (tl_ceq) <|
  jx_all1 (tl_ldR) <|
  jx_all1 (tl_ldI) <|
  jx_all1 (tl_push) <|
  jx_all1 (tl_ldI) <|
  jx_all1 (tl_i2) <|
  jx_all1 (tl_ldR) <|
  jx_all1 (tl_vI) <|
  jx_all1 (tl_vI) <|
  jx_all1 (tl_ldR) <|
  jx_all1 (tl_ldI) <|
  jx_all1 (tl_push) <|
  jx_all1 (tl_ldR) <|
  jx_all1 (tl_vI) <|
  jx_all1 (tl_vI) <|
  jx_all1 (tl_push) <|
  jx_all1 (tl_ldI) <|
  jx_all1 (tl_i2) <|
  jx_all1 (tl_push) <|
  jx_all1 (tl_i2) <|
  jx_all1 (tl_i2) <|
  jx_all1 (tl_ceq) <|
  jx_all1 (tl_push) <|
  jx_all1 (tl_go) <|
  jx_all1 (tl_push) <|
  jx_all1 (tl_i2) <|
  jx_all1 (tl_stI) <|
  jx_all1 (tl_incI) <|
  jx_all1 (tl_go) <|
  jx_all1 (tl_ldI) <|
  jx_all1 (tl_ldI) <|
  jx_all1 (tl_eq0) <|
  jx_all1 (tl_push) <|
  jx_all1 (tl_ldI) <|
  jx_all1 (tl_i2) <|
  jx_all1 (tl_go) <|
  jx_all1 (tl_push) <|
  jx_all1 (tl_i2) <|
  jx_all1 (tl_stI) <|
  jx_all1 (tl_incI) <|
  jx_all1 (tl_go) <|
  jx_all1 (tl_ldI) <|
  jx_all1 (tl_rI) <|
  jx_all0
def mk_150 : List (Nat × List Bool) := [(18, [true, true, true, false, false]), (31, [true, true, true, true, true]), (84, [true, true, true, false, true]), (85, [true, true, true, false, true]), (87, [true, true, true, true, true]), (105, [true, false, true, false, false]), (107, [true, true, true, false, false])]
/-- RoadBenchModel.block(I)I -/
noncomputable def tb_151 (D : jx_D) : List (Nat × jx_A) := [(0, jx_ldR 0 1), (1, jx_ldI 1 2), (2, jx_vI D 121 30 2 5), (5, jx_ne0 14 8), (8, jx_ldR 0 9), (9, jx_push (vi (-1)) 10), (10, jx_vI D 111 30 2 13), (13, jx_rI), (14, jx_ldR 0 15), (15, jx_gI 30 2 18), (18, jx_eq0 28 21), (21, jx_ldR 0 22), (22, jx_push (vi (-8)) 24), (24, jx_vI D 111 30 2 27), (27, jx_rI), (28, jx_push (vi 0) 29), (29, jx_stI 2 3 30), (30, jx_ldI 2 31), (31, jx_ldI 1 32), (32, jx_cge 52 35), (35, jx_ldR 0 36), (36, jx_ldI 2 37), (37, jx_ldI 1 38), (38, jx_vI D 152 30 3 41), (41, jx_eq0 46 44), (44, jx_ldI 2 45), (45, jx_rI), (46, jx_incI 2 3 1 49), (49, jx_go 30), (52, jx_ldI 1 53), (53, jx_rI)]
set_option maxRecDepth 100000 in
theorem tl_m151 (D : jx_D) : ∀ pc, jx_tl (jx_look (tb_151 D) pc) := jx_tlm <| by
  unfold tb_151
  exact jx_all1 (tl_ldR) <|
  jx_all1 (tl_ldI) <|
  jx_all1 (tl_vI) <|
  jx_all1 (tl_ne0) <|
  jx_all1 (tl_ldR) <|
  jx_all1 (tl_push) <|
  jx_all1 (tl_vI) <|
  jx_all1 (tl_rI) <|
  jx_all1 (tl_ldR) <|
  jx_all1 (tl_gI) <|
  jx_all1 (tl_eq0) <|
  jx_all1 (tl_ldR) <|
  jx_all1 (tl_push) <|
  jx_all1 (tl_vI) <|
  jx_all1 (tl_rI) <|
  jx_all1 (tl_push) <|
  jx_all1 (tl_stI) <|
  jx_all1 (tl_ldI) <|
  jx_all1 (tl_ldI) <|
  jx_all1 (tl_cge) <|
  jx_all1 (tl_ldR) <|
  jx_all1 (tl_ldI) <|
  jx_all1 (tl_ldI) <|
  jx_all1 (tl_vI) <|
  jx_all1 (tl_eq0) <|
  jx_all1 (tl_ldI) <|
  jx_all1 (tl_rI) <|
  jx_all1 (tl_incI) <|
  jx_all1 (tl_go) <|
  jx_all1 (tl_ldI) <|
  jx_all1 (tl_rI) <|
  jx_all0
def mk_151 : List (Nat × List Bool) := [(30, [true, true, true])]
/-- RoadBenchModel.areOneBlock(II)Z -/
noncomputable def tb_152 (D : jx_D) : List (Nat × jx_A) := [(0, jx_push (vi 0) 1), (1, jx_stI 3 6 2), (2, jx_ldI 3 3), (3, jx_ldR 0 4), (4, jx_gI 30 0 7), (7, jx_cge 93 10), (10, jx_ldR 0 11), (11, jx_gR 30 33 (fun _ => 0) 14), (14, jx_ldI 1 15), (15, jx_iald 16), (16, jx_ldI 3 17), (17, jx_cne 29 20), (20, jx_ldR 0 21), (21, jx_gR 30 34 (fun _ => 0) 24), (24, jx_ldI 1 25), (25, jx_iald 26), (26, jx_go 35), (29, jx_ldR 0 30), (30, jx_gR 30 33 (fun _ => 0) 33), (33, jx_ldI 1 34), (34, jx_iald 35), (35, jx_stI 4 6 37), (37, jx_ldR 0 38), (38, jx_gR 30 33 (fun _ => 0) 41), (41, jx_ldI 2 42), (42, jx_iald 43), (43, jx_ldI 3 44), (44, jx_cne 56 47), (47, jx_ldR 0 48), (48, jx_gR 30 34 (fun _ => 0) 51), (51, jx_ldI 2 52), (52, jx_iald 53), (53, jx_go 62), (56, jx_ldR 0 57), (57, jx_gR 30 33 (fun _ => 0) 60), (60, jx_ldI 2 61), (61, jx_iald 62), (62, jx_stI 5 6 64), (64, jx_ldR 0 65), (65, jx_ldI 4 67), (67, jx_push (vi 1) 68), (68, jx_ldI 3 69), (69, jx_i2 (fun x y => x <<< (y &&& 31)) 70), (70, jx_ldR 0 71), (71, jx_vI D 137 30 1 74), (74, jx_vI D 145 30 4 77), (77, jx_ldI 5 79), (79, jx_cI D 136 2 82), (82, jx_ne0 87 85), (85, jx_push (vi 0) 86), (86, jx_rZ), (87, jx_incI 3 6 1 90), (90, jx_go 2), (93, jx_push (vi 1) 94), (94, jx_rZ)]
set_option maxRecDepth 100000 in
theorem tl_m152 (D : jx_D) : ∀ pc, jx_tl (jx_look (tb_152 D) pc) := jx_tlm <| by
  unfold tb_152
  exact jx_all1 (tl_push) <|
  jx_all1 (tl_stI) <|
  jx_all1 (tl_ldI) <|
  jx_all1 (tl_ldR) <|
  jx_all1 (tl_gI) <|
  jx_all1 (tl_cge) <|
  jx_all1 (tl_ldR) <|
  jx_all1 (tl_gR) <|
  jx_all1 (tl_ldI) <|
  jx_all1 (tl_iald) <|
  jx_all1 (tl_ldI) <|
  jx_all1 (tl_cne) <|
  jx_all1 (tl_ldR) <|
  jx_all1 (tl_gR) <|
  jx_all1 (tl_ldI) <|
  jx_all1 (tl_iald) <|
  jx_all1 (tl_go) <|
  jx_all1 (tl_ldR) <|
  jx_all1 (tl_gR) <|
  jx_all1 (tl_ldI) <|
  jx_all1 (tl_iald) <|
  jx_all1 (tl_stI) <|
  jx_all1 (tl_ldR) <|
  jx_all1 (tl_gR) <|
  jx_all1 (tl_ldI) <|
  jx_all1 (tl_iald) <|
  jx_all1 (tl_ldI) <|
  jx_all1 (tl_cne) <|
  jx_all1 (tl_ldR) <|
  jx_all1 (tl_gR) <|
  jx_all1 (tl_ldI) <|
  jx_all1 (tl_iald) <|
  jx_all1 (tl_go) <|
  jx_all1 (tl_ldR) <|
  jx_all1 (tl_gR) <|
  jx_all1 (tl_ldI) <|
  jx_all1 (tl_iald) <|
  jx_all1 (tl_stI) <|
  jx_all1 (tl_ldR) <|
  jx_all1 (tl_ldI) <|
  jx_all1 (tl_push) <|
  jx_all1 (tl_ldI) <|
  jx_all1 (tl_i2) <|
  jx_all1 (tl_ldR) <|
  jx_all1 (tl_vI) <|
  jx_all1 (tl_vI) <|
  jx_all1 (tl_ldI) <|
  jx_all1 (tl_cI) <|
  jx_all1 (tl_ne0) <|
  jx_all1 (tl_push) <|
  jx_all1 (tl_rZ) <|
  jx_all1 (tl_incI) <|
  jx_all1 (tl_go) <|
  jx_all1 (tl_push) <|
  jx_all1 (tl_rZ) <|
  jx_all0
def mk_152 : List (Nat × List Bool) := [(2, [true, true, true, true, false, false]), (35, [true, true, true, true, false, false]), (62, [true, true, true, true, true, false])]
/-- RoadBenchModel.harder(I)I -/
noncomputable def tb_153 (D : jx_D) : List (Nat × jx_A) := [(0, jx_ldI 1 1), (1, jx_push (vi 1) 2), (2, jx_clt 11 5), (5, jx_ldI 1 6), (6, jx_push (vi 8) 8), (8, jx_cle 17 11), (11, jx_ldR 0 12), (12, jx_push (vi (-1)) 13), (13, jx_vI D 111 30 2 16), (16, jx_rI), (17, jx_ldR 0 18), (18, jx_gI 30 2 21), (21, jx_eq0 31 24), (24, jx_ldR 0 25), (25, jx_push (vi (-8)) 27), (27, jx_vI D 111 30 2 30), (30, jx_rI), (31, jx_ldR 0 32), (32, jx_gI 30 0 35), (35, jx_push (vi 2) 36), (36, jx_cge 46 39), (39, jx_ldR 0 40), (40, jx_push (vi (-6)) 42), (42, jx_vI D 111 30 2 45), (45, jx_rI), (46, jx_ldI 1 47), (47, jx_push (vi 1) 48), (48, jx_cne 104 51), (51, jx_push (vi 0) 52), (52, jx_stI 2 5 53), (53, jx_push (vi 0) 54), (54, jx_stI 3 5 55), (55, jx_ldI 3 56), (56, jx_ldR 0 57), (57, jx_gI 30 0 60), (60, jx_cge 100 63), (63, jx_ldR 0 64), (64, jx_ldI 3 65), (65, jx_push (vi 0) 66), (66, jx_ldR 0 67), (67, jx_vI D 137 30 1 70), (70, jx_vI D 145 30 4 73), (73, jx_stI 4 5 75), (75, jx_ldI 2 76), (76, jx_ldI 4 78), (78, jx_push (vi 1) 79), (79, jx_ldI 3 80), (80, jx_i2 (fun x y => x <<< (y &&& 31)) 81), (81, jx_push (vi 1) 82), (82, jx_i2 (fun x y => x - y) 83), (83, jx_i2 (fun x y => x &&& y) 84), (84, jx_ne0 91 87), (87, jx_push (vi 1) 88), (88, jx_go 92), (91, jx_push (vi 0) 92), (92, jx_i2 (fun x y => x + y) 93), (93, jx_stI 2 5 94), (94, jx_incI 3 5 1 97), (97, jx_go 55), (100, jx_ldI 2 101), (101, jx_push (vi 1) 102), (102, jx_i2 (fun x y => x - y) 103), (103, jx_rI), (104, jx_push (vi 0) 105), (105, jx_stI 2 5 106), (106, jx_ldI 2 107), (107, jx_ldR 0 108), (108, jx_vI D 135 30 1 111), (111, jx_cgt 225 114), (114, jx_ldR 0 115), (115, jx_gR 30 48 (fun _ => 0) 118), (118, jx_ldI 2 119), (119, jx_push (vi 0) 120), (120, jx_iast 121), (121, jx_push (vi 1) 122), (122, jx_stI 3 5 123), (123, jx_ldI 3 124), (124, jx_ldI 2 125), (125, jx_cgt 219 128), (128, jx_ldI 3 129), (129, jx_ldI 2 130), (130, jx_push (vi (-1)) 131), (131, jx_i2 (fun x y => x ^^^ y) 132), (132, jx_i2 (fun x y => x &&& y) 133), (133, jx_ne0 213 136), (136, jx_ldI 3 137), (137, jx_ldR 0 138), (138, jx_vI D 135 30 1 141), (141, jx_ceq 213 144), (144, jx_ldI 1 145), (145, jx_ldR 0 146), (146, jx_ldI 3 147), (147, jx_ldR 0 148), (148, jx_gI 30 1 151), (151, jx_ldR 0 152), (152, jx_vI D 137 30 1 155), (155, jx_vI D 138 30 4 158), (158, jx_i2 (fun x y => x - y) 159), (159, jx_stI 4 5 161), (161, jx_ldI 4 163), (163, jx_le0 171 166), (166, jx_ldI 4 168), (168, jx_go 172), (171, jx_push (vi 0) 172), (172, jx_ldR 0 173), (173, jx_gR 30 48 (fun _ => 0) 176), (176, jx_ldI 2 177), (177, jx_ldI 3 178), (178, jx_push (vi (-1)) 179), (179, jx_i2 (fun x y => x ^^^ y) 180), (180, jx_i2 (fun x y => x &&& y) 181), (181, jx_iald 182), (182, jx_i2 (fun x y => x + y) 183), (183, jx_stI 4 5 185), (185, jx_ldR 0 186), (186, jx_gR 30 48 (fun _ => 0) 189), (189, jx_ldI 2 190), (190, jx_ldI 4 192), (192, jx_ldR 0 193), (193, jx_gR 30 48 (fun _ => 0) 196), (196, jx_ldI 2 197), (197, jx_iald 198), (198, jx_cle 206 201), (201, jx_ldI 4 203), (203, jx_go 212), (206, jx_ldR 0 207), (207, jx_gR 30 48 (fun _ => 0) 210), (210, jx_ldI 2 211), (211, jx_iald 212), (212, jx_iast 213), (213, jx_incI 3 5 1 216), (216, jx_go 123), (219, jx_incI 2 5 1 222), (222, jx_go 106), (225, jx_ldR 0 226), (226, jx_gR 30 48 (fun _ => 0) 229), (229, jx_ldR 0 230), (230, jx_vI D 135 30 1 233), (233, jx_iald 234), (234, jx_push (vi 1) 235), (235, jx_i2 (fun x y => x + y) 236), (236, jx_push (vi 2) 237), (237, jx_dv (fun x y => x / y) 238), (238, jx_rI)]
set_option maxRecDepth 100000 in
theorem tl_m153 (D : jx_D) : ∀ pc, jx_tl (jx_look (tb_153 D) pc) := jx_tlm <| by
  unfold tb_153
  exact jx_all1 (tl_ldI) <|
  jx_all1 (tl_push) <|
  jx_all1 (tl_clt) <|
  jx_all1 (tl_ldI) <|
  jx_all1 (tl_push) <|
  jx_all1 (tl_cle) <|
  jx_all1 (tl_ldR) <|
  jx_all1 (tl_push) <|
  jx_all1 (tl_vI) <|
  jx_all1 (tl_rI) <|
  jx_all1 (tl_ldR) <|
  jx_all1 (tl_gI) <|
  jx_all1 (tl_eq0) <|
  jx_all1 (tl_ldR) <|
  jx_all1 (tl_push) <|
  jx_all1 (tl_vI) <|
  jx_all1 (tl_rI) <|
  jx_all1 (tl_ldR) <|
  jx_all1 (tl_gI) <|
  jx_all1 (tl_push) <|
  jx_all1 (tl_cge) <|
  jx_all1 (tl_ldR) <|
  jx_all1 (tl_push) <|
  jx_all1 (tl_vI) <|
  jx_all1 (tl_rI) <|
  jx_all1 (tl_ldI) <|
  jx_all1 (tl_push) <|
  jx_all1 (tl_cne) <|
  jx_all1 (tl_push) <|
  jx_all1 (tl_stI) <|
  jx_all1 (tl_push) <|
  jx_all1 (tl_stI) <|
  jx_all1 (tl_ldI) <|
  jx_all1 (tl_ldR) <|
  jx_all1 (tl_gI) <|
  jx_all1 (tl_cge) <|
  jx_all1 (tl_ldR) <|
  jx_all1 (tl_ldI) <|
  jx_all1 (tl_push) <|
  jx_all1 (tl_ldR) <|
  jx_all1 (tl_vI) <|
  jx_all1 (tl_vI) <|
  jx_all1 (tl_stI) <|
  jx_all1 (tl_ldI) <|
  jx_all1 (tl_ldI) <|
  jx_all1 (tl_push) <|
  jx_all1 (tl_ldI) <|
  jx_all1 (tl_i2) <|
  jx_all1 (tl_push) <|
  jx_all1 (tl_i2) <|
  jx_all1 (tl_i2) <|
  jx_all1 (tl_ne0) <|
  jx_all1 (tl_push) <|
  jx_all1 (tl_go) <|
  jx_all1 (tl_push) <|
  jx_all1 (tl_i2) <|
  jx_all1 (tl_stI) <|
  jx_all1 (tl_incI) <|
  jx_all1 (tl_go) <|
  jx_all1 (tl_ldI) <|
  jx_all1 (tl_push) <|
  jx_all1 (tl_i2) <|
  jx_all1 (tl_rI) <|
  jx_all1 (tl_push) <|
  jx_all1 (tl_stI) <|
  jx_all1 (tl_ldI) <|
  jx_all1 (tl_ldR) <|
  jx_all1 (tl_vI) <|
  jx_all1 (tl_cgt) <|
  jx_all1 (tl_ldR) <|
  jx_all1 (tl_gR) <|
  jx_all1 (tl_ldI) <|
  jx_all1 (tl_push) <|
  jx_all1 (tl_iast) <|
  jx_all1 (tl_push) <|
  jx_all1 (tl_stI) <|
  jx_all1 (tl_ldI) <|
  jx_all1 (tl_ldI) <|
  jx_all1 (tl_cgt) <|
  jx_all1 (tl_ldI) <|
  jx_all1 (tl_ldI) <|
  jx_all1 (tl_push) <|
  jx_all1 (tl_i2) <|
  jx_all1 (tl_i2) <|
  jx_all1 (tl_ne0) <|
  jx_all1 (tl_ldI) <|
  jx_all1 (tl_ldR) <|
  jx_all1 (tl_vI) <|
  jx_all1 (tl_ceq) <|
  jx_all1 (tl_ldI) <|
  jx_all1 (tl_ldR) <|
  jx_all1 (tl_ldI) <|
  jx_all1 (tl_ldR) <|
  jx_all1 (tl_gI) <|
  jx_all1 (tl_ldR) <|
  jx_all1 (tl_vI) <|
  jx_all1 (tl_vI) <|
  jx_all1 (tl_i2) <|
  jx_all1 (tl_stI) <|
  jx_all1 (tl_ldI) <|
  jx_all1 (tl_le0) <|
  jx_all1 (tl_ldI) <|
  jx_all1 (tl_go) <|
  jx_all1 (tl_push) <|
  jx_all1 (tl_ldR) <|
  jx_all1 (tl_gR) <|
  jx_all1 (tl_ldI) <|
  jx_all1 (tl_ldI) <|
  jx_all1 (tl_push) <|
  jx_all1 (tl_i2) <|
  jx_all1 (tl_i2) <|
  jx_all1 (tl_iald) <|
  jx_all1 (tl_i2) <|
  jx_all1 (tl_stI) <|
  jx_all1 (tl_ldR) <|
  jx_all1 (tl_gR) <|
  jx_all1 (tl_ldI) <|
  jx_all1 (tl_ldI) <|
  jx_all1 (tl_ldR) <|
  jx_all1 (tl_gR) <|
  jx_all1 (tl_ldI) <|
  jx_all1 (tl_iald) <|
  jx_all1 (tl_cle) <|
  jx_all1 (tl_ldI) <|
  jx_all1 (tl_go) <|
  jx_all1 (tl_ldR) <|
  jx_all1 (tl_gR) <|
  jx_all1 (tl_ldI) <|
  jx_all1 (tl_iald) <|
  jx_all1 (tl_iast) <|
  jx_all1 (tl_incI) <|
  jx_all1 (tl_go) <|
  jx_all1 (tl_incI) <|
  jx_all1 (tl_go) <|
  jx_all1 (tl_ldR) <|
  jx_all1 (tl_gR) <|
  jx_all1 (tl_ldR) <|
  jx_all1 (tl_vI) <|
  jx_all1 (tl_iald) <|
  jx_all1 (tl_push) <|
  jx_all1 (tl_i2) <|
  jx_all1 (tl_push) <|
  jx_all1 (tl_dv) <|
  jx_all1 (tl_rI) <|
  jx_all0
def mk_153 : List (Nat × List Bool) := [(11, [true, false, false, false, false]), (55, [true, false, true, true, false]), (92, [true, false, false, true, false]), (94, [true, false, true, true, false]), (106, [true, true, true, false, false]), (123, [true, true, true, true, false]), (161, [true, true, true, true, true]), (172, [true, true, true, true, false]), (185, [true, true, true, true, true]), (212, [true, true, true, true, false]), (213, [true, true, true, true, false])]
/-- RoadBenchModel.best(I)I -/
noncomputable def tb_154 (D : jx_D) : List (Nat × jx_A) := [(0, jx_ldI 1 1), (1, jx_push (vi 1) 2), (2, jx_clt 11 5), (5, jx_ldI 1 6), (6, jx_push (vi 8) 8), (8, jx_cle 17 11), (11, jx_ldR 0 12), (12, jx_push (vi (-1)) 13), (13, jx_vI D 111 30 2 16), (16, jx_rI), (17, jx_ldR 0 18), (18, jx_gI 30 1 21), (21, jx_push (vi 12) 23), (23, jx_cle 33 26), (26, jx_ldR 0 27), (27, jx_push (vi (-7)) 29), (29, jx_vI D 111 30 2 32), (32, jx_rI), (33, jx_ldR 0 34), (34, jx_gI 30 0 37), (37, jx_push (vi 2) 38), (38, jx_clt 49 41), (41, jx_ldR 0 42), (42, jx_vI D 141 30 1 45), (45, jx_ldI 1 46), (46, jx_cge 56 49), (49, jx_ldR 0 50), (50, jx_push (vi (-6)) 52), (52, jx_vI D 111 30 2 55), (55, jx_rI), (56, jx_ldR 0 57), (57, jx_vI D 137 30 1 60), (60, jx_stI 2 4 61), (61, jx_ldR 0 62), (62, jx_vI D 137 30 1 65), (65, jx_stI 3 4 66), (66, jx_ldI 3 67), (67, jx_lt0 104 70), (70, jx_ldR 0 71), (71, jx_ldI 3 72), (72, jx_vI D 155 30 2 75), (75, jx_ldR 0 76), (76, jx_ldI 2 77), (77, jx_vI D 155 30 2 80), (80, jx_cgt 98 83), (83, jx_ldR 0 84), (84, jx_ldR 0 85), (85, jx_gI 30 1 88), (88, jx_ldI 3 89), (89, jx_vI D 142 30 3 92), (92, jx_ldI 1 93), (93, jx_clt 98 96), (96, jx_ldI 3 97), (97, jx_stI 2 4 98), (98, jx_incI 3 4 (-1) 101), (101, jx_go 66), (104, jx_ldI 2 105), (105, jx_rI)]
set_option maxRecDepth 100000 in
theorem tl_m154 (D : jx_D) : ∀ pc, jx_tl (jx_look (tb_154 D) pc) := jx_tlm <| by
  unfold tb_154
  exact jx_all1 (tl_ldI) <|
  jx_all1 (tl_push) <|
  jx_all1 (tl_clt) <|
  jx_all1 (tl_ldI) <|
  jx_all1 (tl_push) <|
  jx_all1 (tl_cle) <|
  jx_all1 (tl_ldR) <|
  jx_all1 (tl_push) <|
  jx_all1 (tl_vI) <|
  jx_all1 (tl_rI) <|
  jx_all1 (tl_ldR) <|
  jx_all1 (tl_gI) <|
  jx_all1 (tl_push) <|
  jx_all1 (tl_cle) <|
  jx_all1 (tl_ldR) <|
  jx_all1 (tl_push) <|
  jx_all1 (tl_vI) <|
  jx_all1 (tl_rI) <|
  jx_all1 (tl_ldR) <|
  jx_all1 (tl_gI) <|
  jx_all1 (tl_push) <|
  jx_all1 (tl_clt) <|
  jx_all1 (tl_ldR) <|
  jx_all1 (tl_vI) <|
  jx_all1 (tl_ldI) <|
  jx_all1 (tl_cge) <|
  jx_all1 (tl_ldR) <|
  jx_all1 (tl_push) <|
  jx_all1 (tl_vI) <|
  jx_all1 (tl_rI) <|
  jx_all1 (tl_ldR) <|
  jx_all1 (tl_vI) <|
  jx_all1 (tl_stI) <|
  jx_all1 (tl_ldR) <|
  jx_all1 (tl_vI) <|
  jx_all1 (tl_stI) <|
  jx_all1 (tl_ldI) <|
  jx_all1 (tl_lt0) <|
  jx_all1 (tl_ldR) <|
  jx_all1 (tl_ldI) <|
  jx_all1 (tl_vI) <|
  jx_all1 (tl_ldR) <|
  jx_all1 (tl_ldI) <|
  jx_all1 (tl_vI) <|
  jx_all1 (tl_cgt) <|
  jx_all1 (tl_ldR) <|
  jx_all1 (tl_ldR) <|
  jx_all1 (tl_gI) <|
  jx_all1 (tl_ldI) <|
  jx_all1 (tl_vI) <|
  jx_all1 (tl_ldI) <|
  jx_all1 (tl_clt) <|
  jx_all1 (tl_ldI) <|
  jx_all1 (tl_stI) <|
  jx_all1 (tl_incI) <|
  jx_all1 (tl_go) <|
  jx_all1 (tl_ldI) <|
  jx_all1 (tl_rI) <|
  jx_all0
def mk_154 : List (Nat × List Bool) := [(11, [true, false, false, false]), (49, [true, false, false, false]), (66, [true, true, true, true]), (98, [true, true, true, true])]
/-- RoadBenchModel.priceOf(I)I -/
noncomputable def tb_155 (D : jx_D) : List (Nat × jx_A) := [(0, jx_push (vi 0) 1), (1, jx_stI 2 4 2), (2, jx_push (vi 0) 3), (3, jx_stI 3 4 4), (4, jx_ldI 3 5), (5, jx_ldR 0 6), (6, jx_gI 30 1 9), (9, jx_cge 39 12), (12, jx_ldI 2 13), (13, jx_ldI 1 14), (14, jx_ldI 3 15), (15, jx_cI D 136 2 18), (18, jx_eq0 30 21), (21, jx_ldR 0 22), (22, jx_gR 30 35 (fun _ => 0) 25), (25, jx_ldI 3 26), (26, jx_iald 27), (27, jx_go 31), (30, jx_push (vi 0) 31), (31, jx_i2 (fun x y => x + y) 32), (32, jx_stI 2 4 33), (33, jx_incI 3 4 1 36), (36, jx_go 4), (39, jx_ldI 2 40), (40, jx_rI)]
set_option maxRecDepth 100000 in
theorem tl_m155 (D : jx_D) : ∀ pc, jx_tl (jx_look (tb_155 D) pc) := jx_tlm <| by
  unfold tb_155
  exact jx_all1 (tl_push) <|
  jx_all1 (tl_stI) <|
  jx_all1 (tl_push) <|
  jx_all1 (tl_stI) <|
  jx_all1 (tl_ldI) <|
  jx_all1 (tl_ldR) <|
  jx_all1 (tl_gI) <|
  jx_all1 (tl_cge) <|
  jx_all1 (tl_ldI) <|
  jx_all1 (tl_ldI) <|
  jx_all1 (tl_ldI) <|
  jx_all1 (tl_cI) <|
  jx_all1 (tl_eq0) <|
  jx_all1 (tl_ldR) <|
  jx_all1 (tl_gR) <|
  jx_all1 (tl_ldI) <|
  jx_all1 (tl_iald) <|
  jx_all1 (tl_go) <|
  jx_all1 (tl_push) <|
  jx_all1 (tl_i2) <|
  jx_all1 (tl_stI) <|
  jx_all1 (tl_incI) <|
  jx_all1 (tl_go) <|
  jx_all1 (tl_ldI) <|
  jx_all1 (tl_rI) <|
  jx_all0
def mk_155 : List (Nat × List Bool) := [(4, [true, true, true, true]), (31, [true, true, false, true]), (33, [true, true, true, true])]
/-- RoadBenchModel.take()I -/
noncomputable def tb_156 (D : jx_D) : List (Nat × jx_A) := [(0, jx_ldR 0 1), (1, jx_vV D 114 30 1 4), (4, jx_ldR 0 5), (5, jx_vI D 141 30 1 8), (8, jx_stI 1 4 9), (9, jx_push (vi 0) 10), (10, jx_stI 2 4 11), (11, jx_push (vi 0) 12), (12, jx_stI 3 4 13), (13, jx_ldI 3 14), (14, jx_ldR 0 15), (15, jx_gI 30 1 18), (18, jx_cge 60 21), (21, jx_ldR 0 22), (22, jx_ldR 0 23), (23, jx_gI 30 1 26), (26, jx_ldR 0 27), (27, jx_vI D 137 30 1 30), (30, jx_push (vi 1) 31), (31, jx_ldI 3 32), (32, jx_i2 (fun x y => x <<< (y &&& 31)) 33), (33, jx_push (vi (-1)) 34), (34, jx_i2 (fun x y => x ^^^ y) 35), (35, jx_i2 (fun x y => x &&& y) 36), (36, jx_vI D 142 30 3 39), (39, jx_ldI 1 40), (40, jx_cne 54 43), (43, jx_ldR 0 44), (44, jx_ldI 3 45), (45, jx_vV D 123 30 2 48), (48, jx_incI 2 4 1 51), (51, jx_go 13), (54, jx_incI 3 4 1 57), (57, jx_go 13), (60, jx_ldI 2 61), (61, jx_rI)]
set_option maxRecDepth 100000 in
theorem tl_m156 (D : jx_D) : ∀ pc, jx_tl (jx_look (tb_156 D) pc) := jx_tlm <| by
  unfold tb_156
  exact jx_all1 (tl_ldR) <|
  jx_all1 (tl_vV) <|
  jx_all1 (tl_ldR) <|
  jx_all1 (tl_vI) <|
  jx_all1 (tl_stI) <|
  jx_all1 (tl_push) <|
  jx_all1 (tl_stI) <|
  jx_all1 (tl_push) <|
  jx_all1 (tl_stI) <|
  jx_all1 (tl_ldI) <|
  jx_all1 (tl_ldR) <|
  jx_all1 (tl_gI) <|
  jx_all1 (tl_cge) <|
  jx_all1 (tl_ldR) <|
  jx_all1 (tl_ldR) <|
  jx_all1 (tl_gI) <|
  jx_all1 (tl_ldR) <|
  jx_all1 (tl_vI) <|
  jx_all1 (tl_push) <|
  jx_all1 (tl_ldI) <|
  jx_all1 (tl_i2) <|
  jx_all1 (tl_push) <|
  jx_all1 (tl_i2) <|
  jx_all1 (tl_i2) <|
  jx_all1 (tl_vI) <|
  jx_all1 (tl_ldI) <|
  jx_all1 (tl_cne) <|
  jx_all1 (tl_ldR) <|
  jx_all1 (tl_ldI) <|
  jx_all1 (tl_vV) <|
  jx_all1 (tl_incI) <|
  jx_all1 (tl_go) <|
  jx_all1 (tl_incI) <|
  jx_all1 (tl_go) <|
  jx_all1 (tl_ldI) <|
  jx_all1 (tl_rI) <|
  jx_all0
def mk_156 : List (Nat × List Bool) := [(13, [true, true, true, true])]
/-- RoadBenchModel.pack()I -/
noncomputable def tb_157 (D : jx_D) : List (Nat × jx_A) := [(0, jx_ldR 0 1), (1, jx_gI 30 2 4), (4, jx_eq0 14 7), (7, jx_ldR 0 8), (8, jx_push (vi (-8)) 10), (10, jx_vI D 111 30 2 13), (13, jx_rI), (14, jx_ldR 0 15), (15, jx_gI 30 0 18), (18, jx_push (vi 2) 19), (19, jx_cge 24 22), (22, jx_push (vi 0) 23), (23, jx_rI), (24, jx_push (vi 0) 25), (25, jx_stI 1 5 26), (26, jx_ldI 1 27), (27, jx_ldR 0 28), (28, jx_gI 30 0 31), (31, jx_cge 47 34), (34, jx_ldR 0 35), (35, jx_gR 30 49 (fun _ => 0) 38), (38, jx_ldI 1 39), (39, jx_push (vi 0) 40), (40, jx_iast 41), (41, jx_incI 1 5 1 44), (44, jx_go 26), (47, jx_push (vi 20) 49), (49, jx_stI 1 5 50), (50, jx_ldR 0 51), (51, jx_vI D 158 30 1 54), (54, jx_eq0 173 57), (57, jx_push (vi 0) 58), (58, jx_stI 2 5 59), (59, jx_push (vi 0) 60), (60, jx_stI 3 5 61), (61, jx_push (vi 0) 62), (62, jx_stI 4 5 64), (64, jx_ldI 4 66), (66, jx_ldR 0 67), (67, jx_gI 30 0 70), (70, jx_cge 102 73), (73, jx_ldR 0 74), (74, jx_gR 30 49 (fun _ => 0) 77), (77, jx_ldI 4 79), (79, jx_iald 80), (80, jx_ldI 2 81), (81, jx_cle 94 84), (84, jx_ldR 0 85), (85, jx_gR 30 49 (fun _ => 0) 88), (88, jx_ldI 4 90), (90, jx_iald 91), (91, jx_go 95), (94, jx_ldI 2 95), (95, jx_stI 2 5 96), (96, jx_incI 4 5 1 99), (99, jx_go 64), (102, jx_push (vi 0) 103), (103, jx_stI 4 5 105), (105, jx_ldI 4 107), (107, jx_ldR 0 108), (108, jx_gI 30 1 111), (111, jx_cge 155 114), (114, jx_ldI 3 115), (115, jx_ldR 0 116), (116, jx_gR 30 49 (fun _ => 0) 119), (119, jx_ldR 0 120), (120, jx_gR 30 33 (fun _ => 0) 123), (123, jx_ldI 4 125), (125, jx_iald 126), (126, jx_iald 127), (127, jx_ldR 0 128), (128, jx_gR 30 49 (fun _ => 0) 131), (131, jx_ldR 0 132), (132, jx_gR 30 34 (fun _ => 0) 135), (135, jx_ldI 4 137), (137, jx_iald 138), (138, jx_iald 139), (139, jx_ceq 146 142), (142, jx_push (vi 1) 143), (143, jx_go 147), (146, jx_push (vi 0) 147), (147, jx_i2 (fun x y => x + y) 148), (148, jx_stI 3 5 149), (149, jx_incI 4 5 1 152), (152, jx_go 105), (155, jx_ldI 3 156), (156, jx_ldI 2 157), (157, jx_dv (fun x y => x / y) 158), (158, jx_ldI 1 159), (159, jx_cge 168 162), (162, jx_ldI 3 163), (163, jx_ldI 2 164), (164, jx_dv (fun x y => x / y) 165), (165, jx_go 169), (168, jx_ldI 1 169), (169, jx_stI 1 5 170), (170, jx_go 50), (173, jx_ldI 1 174), (174, jx_rI)]
set_option maxRecDepth 100000 in
theorem tl_m157 (D : jx_D) : ∀ pc, jx_tl (jx_look (tb_157 D) pc) := jx_tlm <| by
  unfold tb_157
  exact jx_all1 (tl_ldR) <|
  jx_all1 (tl_gI) <|
  jx_all1 (tl_eq0) <|
  jx_all1 (tl_ldR) <|
  jx_all1 (tl_push) <|
  jx_all1 (tl_vI) <|
  jx_all1 (tl_rI) <|
  jx_all1 (tl_ldR) <|
  jx_all1 (tl_gI) <|
  jx_all1 (tl_push) <|
  jx_all1 (tl_cge) <|
  jx_all1 (tl_push) <|
  jx_all1 (tl_rI) <|
  jx_all1 (tl_push) <|
  jx_all1 (tl_stI) <|
  jx_all1 (tl_ldI) <|
  jx_all1 (tl_ldR) <|
  jx_all1 (tl_gI) <|
  jx_all1 (tl_cge) <|
  jx_all1 (tl_ldR) <|
  jx_all1 (tl_gR) <|
  jx_all1 (tl_ldI) <|
  jx_all1 (tl_push) <|
  jx_all1 (tl_iast) <|
  jx_all1 (tl_incI) <|
  jx_all1 (tl_go) <|
  jx_all1 (tl_push) <|
  jx_all1 (tl_stI) <|
  jx_all1 (tl_ldR) <|
  jx_all1 (tl_vI) <|
  jx_all1 (tl_eq0) <|
  jx_all1 (tl_push) <|
  jx_all1 (tl_stI) <|
  jx_all1 (tl_push) <|
  jx_all1 (tl_stI) <|
  jx_all1 (tl_push) <|
  jx_all1 (tl_stI) <|
  jx_all1 (tl_ldI) <|
  jx_all1 (tl_ldR) <|
  jx_all1 (tl_gI) <|
  jx_all1 (tl_cge) <|
  jx_all1 (tl_ldR) <|
  jx_all1 (tl_gR) <|
  jx_all1 (tl_ldI) <|
  jx_all1 (tl_iald) <|
  jx_all1 (tl_ldI) <|
  jx_all1 (tl_cle) <|
  jx_all1 (tl_ldR) <|
  jx_all1 (tl_gR) <|
  jx_all1 (tl_ldI) <|
  jx_all1 (tl_iald) <|
  jx_all1 (tl_go) <|
  jx_all1 (tl_ldI) <|
  jx_all1 (tl_stI) <|
  jx_all1 (tl_incI) <|
  jx_all1 (tl_go) <|
  jx_all1 (tl_push) <|
  jx_all1 (tl_stI) <|
  jx_all1 (tl_ldI) <|
  jx_all1 (tl_ldR) <|
  jx_all1 (tl_gI) <|
  jx_all1 (tl_cge) <|
  jx_all1 (tl_ldI) <|
  jx_all1 (tl_ldR) <|
  jx_all1 (tl_gR) <|
  jx_all1 (tl_ldR) <|
  jx_all1 (tl_gR) <|
  jx_all1 (tl_ldI) <|
  jx_all1 (tl_iald) <|
  jx_all1 (tl_iald) <|
  jx_all1 (tl_ldR) <|
  jx_all1 (tl_gR) <|
  jx_all1 (tl_ldR) <|
  jx_all1 (tl_gR) <|
  jx_all1 (tl_ldI) <|
  jx_all1 (tl_iald) <|
  jx_all1 (tl_iald) <|
  jx_all1 (tl_ceq) <|
  jx_all1 (tl_push) <|
  jx_all1 (tl_go) <|
  jx_all1 (tl_push) <|
  jx_all1 (tl_i2) <|
  jx_all1 (tl_stI) <|
  jx_all1 (tl_incI) <|
  jx_all1 (tl_go) <|
  jx_all1 (tl_ldI) <|
  jx_all1 (tl_ldI) <|
  jx_all1 (tl_dv) <|
  jx_all1 (tl_ldI) <|
  jx_all1 (tl_cge) <|
  jx_all1 (tl_ldI) <|
  jx_all1 (tl_ldI) <|
  jx_all1 (tl_dv) <|
  jx_all1 (tl_go) <|
  jx_all1 (tl_ldI) <|
  jx_all1 (tl_stI) <|
  jx_all1 (tl_go) <|
  jx_all1 (tl_ldI) <|
  jx_all1 (tl_rI) <|
  jx_all0
def mk_157 : List (Nat × List Bool) := [(26, [true, true, false, false, false]), (50, [true, true, false, false, false]), (64, [true, true, true, true, true]), (95, [true, true, false, true, true]), (105, [true, true, true, true, true]), (147, [true, true, true, false, true]), (149, [true, true, true, true, true]), (169, [true, false, false, false, false])]
/-- RoadBenchModel.nextParts()Z -/
noncomputable def tb_158 (D : jx_D) : List (Nat × jx_A) := [(0, jx_ldR 0 1), (1, jx_gI 30 0 4), (4, jx_push (vi 1) 5), (5, jx_i2 (fun x y => x - y) 6), (6, jx_stI 1 4 7), (7, jx_ldI 1 8), (8, jx_le0 100 11), (11, jx_push (vi 0) 12), (12, jx_stI 2 4 13), (13, jx_push (vi 0) 14), (14, jx_stI 3 4 15), (15, jx_ldI 3 16), (16, jx_ldI 1 17), (17, jx_cge 47 20), (20, jx_ldR 0 21), (21, jx_gR 30 49 (fun _ => 0) 24), (24, jx_ldI 3 25), (25, jx_iald 26), (26, jx_ldI 2 27), (27, jx_cle 39 30), (30, jx_ldR 0 31), (31, jx_gR 30 49 (fun _ => 0) 34), (34, jx_ldI 3 35), (35, jx_iald 36), (36, jx_go 40), (39, jx_ldI 2 40), (40, jx_stI 2 4 41), (41, jx_incI 3 4 1 44), (44, jx_go 15), (47, jx_ldR 0 48), (48, jx_gR 30 49 (fun _ => 0) 51), (51, jx_ldI 1 52), (52, jx_iald 53), (53, jx_ldI 2 54), (54, jx_cgt 94 57), (57, jx_ldR 0 58), (58, jx_gR 30 49 (fun _ => 0) 61), (61, jx_ldI 1 62), (62, jx_dup2 63), (63, jx_iald 64), (64, jx_push (vi 1) 65), (65, jx_i2 (fun x y => x + y) 66), (66, jx_iast 67), (67, jx_ldI 1 68), (68, jx_push (vi 1) 69), (69, jx_i2 (fun x y => x + y) 70), (70, jx_stI 3 4 71), (71, jx_ldI 3 72), (72, jx_ldR 0 73), (73, jx_gI 30 0 76), (76, jx_cge 92 79), (79, jx_ldR 0 80), (80, jx_gR 30 49 (fun _ => 0) 83), (83, jx_ldI 3 84), (84, jx_push (vi 0) 85), (85, jx_iast 86), (86, jx_incI 3 4 1 89), (89, jx_go 71), (92, jx_push (vi 1) 93), (93, jx_rZ), (94, jx_incI 1 4 (-1) 97), (97, jx_go 7), (100, jx_push (vi 0) 101), (101, jx_rZ)]
set_option maxRecDepth 100000 in
theorem tl_m158 (D : jx_D) : ∀ pc, jx_tl (jx_look (tb_158 D) pc) := jx_tlm <| by
  unfold tb_158
  exact jx_all1 (tl_ldR) <|
  jx_all1 (tl_gI) <|
  jx_all1 (tl_push) <|
  jx_all1 (tl_i2) <|
  jx_all1 (tl_stI) <|
  jx_all1 (tl_ldI) <|
  jx_all1 (tl_le0) <|
  jx_all1 (tl_push) <|
  jx_all1 (tl_stI) <|
  jx_all1 (tl_push) <|
  jx_all1 (tl_stI) <|
  jx_all1 (tl_ldI) <|
  jx_all1 (tl_ldI) <|
  jx_all1 (tl_cge) <|
  jx_all1 (tl_ldR) <|
  jx_all1 (tl_gR) <|
  jx_all1 (tl_ldI) <|
  jx_all1 (tl_iald) <|
  jx_all1 (tl_ldI) <|
  jx_all1 (tl_cle) <|
  jx_all1 (tl_ldR) <|
  jx_all1 (tl_gR) <|
  jx_all1 (tl_ldI) <|
  jx_all1 (tl_iald) <|
  jx_all1 (tl_go) <|
  jx_all1 (tl_ldI) <|
  jx_all1 (tl_stI) <|
  jx_all1 (tl_incI) <|
  jx_all1 (tl_go) <|
  jx_all1 (tl_ldR) <|
  jx_all1 (tl_gR) <|
  jx_all1 (tl_ldI) <|
  jx_all1 (tl_iald) <|
  jx_all1 (tl_ldI) <|
  jx_all1 (tl_cgt) <|
  jx_all1 (tl_ldR) <|
  jx_all1 (tl_gR) <|
  jx_all1 (tl_ldI) <|
  jx_all1 (tl_dup2) <|
  jx_all1 (tl_iald) <|
  jx_all1 (tl_push) <|
  jx_all1 (tl_i2) <|
  jx_all1 (tl_iast) <|
  jx_all1 (tl_ldI) <|
  jx_all1 (tl_push) <|
  jx_all1 (tl_i2) <|
  jx_all1 (tl_stI) <|
  jx_all1 (tl_ldI) <|
  jx_all1 (tl_ldR) <|
  jx_all1 (tl_gI) <|
  jx_all1 (tl_cge) <|
  jx_all1 (tl_ldR) <|
  jx_all1 (tl_gR) <|
  jx_all1 (tl_ldI) <|
  jx_all1 (tl_push) <|
  jx_all1 (tl_iast) <|
  jx_all1 (tl_incI) <|
  jx_all1 (tl_go) <|
  jx_all1 (tl_push) <|
  jx_all1 (tl_rZ) <|
  jx_all1 (tl_incI) <|
  jx_all1 (tl_go) <|
  jx_all1 (tl_push) <|
  jx_all1 (tl_rZ) <|
  jx_all0
def mk_158 : List (Nat × List Bool) := [(7, [true, true, false, false]), (15, [true, true, true, true]), (40, [true, true, false, true]), (71, [true, false, false, true])]
/-- RoadBenchModel.forests()I -/
noncomputable def tb_159 (D : jx_D) : List (Nat × jx_A) := [(0, jx_ldR 0 1), (1, jx_gI 30 2 4), (4, jx_eq0 14 7), (7, jx_ldR 0 8), (8, jx_push (vi (-8)) 10), (10, jx_vI D 111 30 2 13), (13, jx_rI), (14, jx_push (vi 0) 15), (15, jx_stI 1 5 16), (16, jx_push (vi 0) 17), (17, jx_stI 2 5 18), (18, jx_ldI 2 19), (19, jx_ldR 0 20), (20, jx_vI D 135 30 1 23), (23, jx_cgt 74 26), (26, jx_ldI 2 27), (27, jx_cI D 140 1 30), (30, jx_push (vi 1) 31), (31, jx_i2 (fun x y => x - y) 32), (32, jx_stI 3 5 33), (33, jx_ldI 3 34), (34, jx_push (vi 1) 35), (35, jx_cge 42 38), (38, jx_push (vi 0) 39), (39, jx_go 53), (42, jx_ldR 0 43), (43, jx_ldI 2 44), (44, jx_vI D 160 30 2 47), (47, jx_ldI 3 48), (48, jx_i2 (fun x y => x + y) 49), (49, jx_push (vi 1) 50), (50, jx_i2 (fun x y => x - y) 51), (51, jx_ldI 3 52), (52, jx_dv (fun x y => x / y) 53), (53, jx_stI 4 5 55), (55, jx_ldI 4 57), (57, jx_ldI 1 58), (58, jx_cle 66 61), (61, jx_ldI 4 63), (63, jx_go 67), (66, jx_ldI 1 67), (67, jx_stI 1 5 68), (68, jx_incI 2 5 1 71), (71, jx_go 18), (74, jx_ldI 1 75), (75, jx_rI)]
set_option maxRecDepth 100000 in
theorem tl_m159 (D : jx_D) : ∀ pc, jx_tl (jx_look (tb_159 D) pc) := jx_tlm <| by
  unfold tb_159
  exact jx_all1 (tl_ldR) <|
  jx_all1 (tl_gI) <|
  jx_all1 (tl_eq0) <|
  jx_all1 (tl_ldR) <|
  jx_all1 (tl_push) <|
  jx_all1 (tl_vI) <|
  jx_all1 (tl_rI) <|
  jx_all1 (tl_push) <|
  jx_all1 (tl_stI) <|
  jx_all1 (tl_push) <|
  jx_all1 (tl_stI) <|
  jx_all1 (tl_ldI) <|
  jx_all1 (tl_ldR) <|
  jx_all1 (tl_vI) <|
  jx_all1 (tl_cgt) <|
  jx_all1 (tl_ldI) <|
  jx_all1 (tl_cI) <|
  jx_all1 (tl_push) <|
  jx_all1 (tl_i2) <|
  jx_all1 (tl_stI) <|
  jx_all1 (tl_ldI) <|
  jx_all1 (tl_push) <|
  jx_all1 (tl_cge) <|
  jx_all1 (tl_push) <|
  jx_all1 (tl_go) <|
  jx_all1 (tl_ldR) <|
  jx_all1 (tl_ldI) <|
  jx_all1 (tl_vI) <|
  jx_all1 (tl_ldI) <|
  jx_all1 (tl_i2) <|
  jx_all1 (tl_push) <|
  jx_all1 (tl_i2) <|
  jx_all1 (tl_ldI) <|
  jx_all1 (tl_dv) <|
  jx_all1 (tl_stI) <|
  jx_all1 (tl_ldI) <|
  jx_all1 (tl_ldI) <|
  jx_all1 (tl_cle) <|
  jx_all1 (tl_ldI) <|
  jx_all1 (tl_go) <|
  jx_all1 (tl_ldI) <|
  jx_all1 (tl_stI) <|
  jx_all1 (tl_incI) <|
  jx_all1 (tl_go) <|
  jx_all1 (tl_ldI) <|
  jx_all1 (tl_rI) <|
  jx_all0
def mk_159 : List (Nat × List Bool) := [(18, [true, true, true, false, false]), (33, [true, true, true, true, false]), (53, [true, true, true, false, false]), (55, [true, true, true, false, true]), (67, [true, false, true, false, false])]
/-- RoadBenchModel.within(I)I -/
noncomputable def tb_160 (D : jx_D) : List (Nat × jx_A) := [(0, jx_push (vi 0) 1), (1, jx_stI 2 4 2), (2, jx_push (vi 0) 3), (3, jx_stI 3 4 4), (4, jx_ldI 3 5), (5, jx_ldR 0 6), (6, jx_gI 30 1 9), (9, jx_cge 52 12), (12, jx_ldI 2 13), (13, jx_ldI 1 14), (14, jx_ldR 0 15), (15, jx_gR 30 33 (fun _ => 0) 18), (18, jx_ldI 3 19), (19, jx_iald 20), (20, jx_cI D 136 2 23), (23, jx_eq0 43 26), (26, jx_ldI 1 27), (27, jx_ldR 0 28), (28, jx_gR 30 34 (fun _ => 0) 31), (31, jx_ldI 3 32), (32, jx_iald 33), (33, jx_cI D 136 2 36), (36, jx_eq0 43 39), (39, jx_push (vi 1) 40), (40, jx_go 44), (43, jx_push (vi 0) 44), (44, jx_i2 (fun x y => x + y) 45), (45, jx_stI 2 4 46), (46, jx_incI 3 4 1 49), (49, jx_go 4), (52, jx_ldI 2 53), (53, jx_rI)]
set_option maxRecDepth 100000 in
theorem tl_m160 (D : jx_D) : ∀ pc, jx_tl (jx_look (tb_160 D) pc) := jx_tlm <| by
  unfold tb_160
  exact jx_all1 (tl_push) <|
  jx_all1 (tl_stI) <|
  jx_all1 (tl_push) <|
  jx_all1 (tl_stI) <|
  jx_all1 (tl_ldI) <|
  jx_all1 (tl_ldR) <|
  jx_all1 (tl_gI) <|
  jx_all1 (tl_cge) <|
  jx_all1 (tl_ldI) <|
  jx_all1 (tl_ldI) <|
  jx_all1 (tl_ldR) <|
  jx_all1 (tl_gR) <|
  jx_all1 (tl_ldI) <|
  jx_all1 (tl_iald) <|
  jx_all1 (tl_cI) <|
  jx_all1 (tl_eq0) <|
  jx_all1 (tl_ldI) <|
  jx_all1 (tl_ldR) <|
  jx_all1 (tl_gR) <|
  jx_all1 (tl_ldI) <|
  jx_all1 (tl_iald) <|
  jx_all1 (tl_cI) <|
  jx_all1 (tl_eq0) <|
  jx_all1 (tl_push) <|
  jx_all1 (tl_go) <|
  jx_all1 (tl_push) <|
  jx_all1 (tl_i2) <|
  jx_all1 (tl_stI) <|
  jx_all1 (tl_incI) <|
  jx_all1 (tl_go) <|
  jx_all1 (tl_ldI) <|
  jx_all1 (tl_rI) <|
  jx_all0
def mk_160 : List (Nat × List Bool) := [(4, [true, true, true, true]), (43, [true, true, false, true]), (44, [true, true, false, true]), (46, [true, true, true, true])]
/-- RoadBenchModel.trees()J -/
noncomputable def tb_161 (D : jx_D) : List (Nat × jx_A) := [(0, jx_ldR 0 1), (1, jx_gI 30 2 4), (4, jx_eq0 15 7), (7, jx_ldR 0 8), (8, jx_push (vi (-8)) 10), (10, jx_vI D 111 30 2 13), (13, jx_i2l 14), (14, jx_rL), (15, jx_ldR 0 16), (16, jx_gI 30 0 19), (19, jx_push (vi 2) 20), (20, jx_cge 29 23), (23, jx_ldR 0 24), (24, jx_gI 30 0 27), (27, jx_i2l 28), (28, jx_rL), (29, jx_ldR 0 30), (30, jx_ldR 0 31), (31, jx_gI 30 0 34), (34, jx_push (vi 1) 35), (35, jx_i2 (fun x y => x - y) 36), (36, jx_vL D 162 30 2 39), (39, jx_rL)]
set_option maxRecDepth 100000 in
theorem tl_m161 (D : jx_D) : ∀ pc, jx_tl (jx_look (tb_161 D) pc) := jx_tlm <| by
  unfold tb_161
  exact jx_all1 (tl_ldR) <|
  jx_all1 (tl_gI) <|
  jx_all1 (tl_eq0) <|
  jx_all1 (tl_ldR) <|
  jx_all1 (tl_push) <|
  jx_all1 (tl_vI) <|
  jx_all1 (tl_i2l) <|
  jx_all1 (tl_rL) <|
  jx_all1 (tl_ldR) <|
  jx_all1 (tl_gI) <|
  jx_all1 (tl_push) <|
  jx_all1 (tl_cge) <|
  jx_all1 (tl_ldR) <|
  jx_all1 (tl_gI) <|
  jx_all1 (tl_i2l) <|
  jx_all1 (tl_rL) <|
  jx_all1 (tl_ldR) <|
  jx_all1 (tl_ldR) <|
  jx_all1 (tl_gI) <|
  jx_all1 (tl_push) <|
  jx_all1 (tl_i2) <|
  jx_all1 (tl_vL) <|
  jx_all1 (tl_rL) <|
  jx_all0
def mk_161 : List (Nat × List Bool) := []
/-- RoadBenchModel.treesOf(I)J -/
noncomputable def tb_162 (D : jx_D) : List (Nat × jx_A) := [(0, jx_push (vl 0) 1), (1, jx_stL 2 7 2), (2, jx_ldR 0 3), (3, jx_gR 30 50 (fun _ => 0) 6), (6, jx_stR 4 7 8), (8, jx_push (vi 0) 9), (9, jx_stI 5 7 11), (11, jx_push (vi 0) 12), (12, jx_stI 6 7 14), (14, jx_ldR 4 16), (16, jx_push (vi 0) 17), (17, jx_push (vi 0) 18), (18, jx_iast 19), (19, jx_ldI 5 21), (21, jx_lt0 165 24), (24, jx_ldI 5 26), (26, jx_ldI 1 27), (27, jx_cne 87 30), (30, jx_ldL 2 31), (31, jx_ldR 0 32), (32, jx_push (vi 0) 33), (33, jx_push (vi 0) 34), (34, jx_ldI 6 36), (36, jx_vI D 145 30 4 39), (39, jx_ldR 0 40), (40, jx_vI D 135 30 1 43), (43, jx_cne 50 46), (46, jx_push (vl 1) 47), (47, jx_go 51), (50, jx_push (vl 0) 51), (51, jx_l2 (fun x y => x + y) 52), (52, jx_stL 2 7 53), (53, jx_incI 5 7 (-1) 56), (56, jx_ldI 5 58), (58, jx_lt0 19 61), (61, jx_ldI 6 63), (63, jx_push (vi 1) 64), (64, jx_ldR 4 66), (66, jx_ldI 5 68), (68, jx_iald 69), (69, jx_i2 (fun x y => x <<< (y &&& 31)) 70), (70, jx_push (vi (-1)) 71), (71, jx_i2 (fun x y => x ^^^ y) 72), (72, jx_i2 (fun x y => x &&& y) 73), (73, jx_stI 6 7 75), (75, jx_ldR 4 77), (77, jx_ldI 5 79), (79, jx_dup2 80), (80, jx_iald 81), (81, jx_push (vi 1) 82), (82, jx_i2 (fun x y => x + y) 83), (83, jx_iast 84), (84, jx_go 19), (87, jx_ldR 4 89), (89, jx_ldI 5 91), (91, jx_iald 92), (92, jx_ldR 0 93), (93, jx_gI 30 1 96), (96, jx_clt 133 99), (99, jx_incI 5 7 (-1) 102), (102, jx_ldI 5 104), (104, jx_lt0 19 107), (107, jx_ldI 6 109), (109, jx_push (vi 1) 110), (110, jx_ldR 4 112), (112, jx_ldI 5 114), (114, jx_iald 115), (115, jx_i2 (fun x y => x <<< (y &&& 31)) 116), (116, jx_push (vi (-1)) 117), (117, jx_i2 (fun x y => x ^^^ y) 118), (118, jx_i2 (fun x y => x &&& y) 119), (119, jx_stI 6 7 121), (121, jx_ldR 4 123), (123, jx_ldI 5 125), (125, jx_dup2 126), (126, jx_iald 127), (127, jx_push (vi 1) 128), (128, jx_i2 (fun x y => x + y) 129), (129, jx_iast 130), (130, jx_go 19), (133, jx_ldI 6 135), (135, jx_push (vi 1) 136), (136, jx_ldR 4 138), (138, jx_ldI 5 140), (140, jx_iald 141), (141, jx_i2 (fun x y => x <<< (y &&& 31)) 142), (142, jx_i2 (fun x y => x ||| y) 143), (143, jx_stI 6 7 145), (145, jx_ldR 4 147), (147, jx_ldI 5 149), (149, jx_push (vi 1) 150), (150, jx_i2 (fun x y => x + y) 151), (151, jx_ldR 4 153), (153, jx_ldI 5 155), (155, jx_iald 156), (156, jx_push (vi 1) 157), (157, jx_i2 (fun x y => x + y) 158), (158, jx_iast 159), (159, jx_incI 5 7 1 162), (162, jx_go 19), (165, jx_ldL 2 166), (166, jx_rL)]
set_option maxRecDepth 100000 in
theorem tl_m162 (D : jx_D) : ∀ pc, jx_tl (jx_look (tb_162 D) pc) := jx_tlm <| by
  unfold tb_162
  exact jx_all1 (tl_push) <|
  jx_all1 (tl_stL) <|
  jx_all1 (tl_ldR) <|
  jx_all1 (tl_gR) <|
  jx_all1 (tl_stR) <|
  jx_all1 (tl_push) <|
  jx_all1 (tl_stI) <|
  jx_all1 (tl_push) <|
  jx_all1 (tl_stI) <|
  jx_all1 (tl_ldR) <|
  jx_all1 (tl_push) <|
  jx_all1 (tl_push) <|
  jx_all1 (tl_iast) <|
  jx_all1 (tl_ldI) <|
  jx_all1 (tl_lt0) <|
  jx_all1 (tl_ldI) <|
  jx_all1 (tl_ldI) <|
  jx_all1 (tl_cne) <|
  jx_all1 (tl_ldL) <|
  jx_all1 (tl_ldR) <|
  jx_all1 (tl_push) <|
  jx_all1 (tl_push) <|
  jx_all1 (tl_ldI) <|
  jx_all1 (tl_vI) <|
  jx_all1 (tl_ldR) <|
  jx_all1 (tl_vI) <|
  jx_all1 (tl_cne) <|
  jx_all1 (tl_push) <|
  jx_all1 (tl_go) <|
  jx_all1 (tl_push) <|
  jx_all1 (tl_l2) <|
  jx_all1 (tl_stL) <|
  jx_all1 (tl_incI) <|
  jx_all1 (tl_ldI) <|
  jx_all1 (tl_lt0) <|
  jx_all1 (tl_ldI) <|
  jx_all1 (tl_push) <|
  jx_all1 (tl_ldR) <|
  jx_all1 (tl_ldI) <|
  jx_all1 (tl_iald) <|
  jx_all1 (tl_i2) <|
  jx_all1 (tl_push) <|
  jx_all1 (tl_i2) <|
  jx_all1 (tl_i2) <|
  jx_all1 (tl_stI) <|
  jx_all1 (tl_ldR) <|
  jx_all1 (tl_ldI) <|
  jx_all1 (tl_dup2) <|
  jx_all1 (tl_iald) <|
  jx_all1 (tl_push) <|
  jx_all1 (tl_i2) <|
  jx_all1 (tl_iast) <|
  jx_all1 (tl_go) <|
  jx_all1 (tl_ldR) <|
  jx_all1 (tl_ldI) <|
  jx_all1 (tl_iald) <|
  jx_all1 (tl_ldR) <|
  jx_all1 (tl_gI) <|
  jx_all1 (tl_clt) <|
  jx_all1 (tl_incI) <|
  jx_all1 (tl_ldI) <|
  jx_all1 (tl_lt0) <|
  jx_all1 (tl_ldI) <|
  jx_all1 (tl_push) <|
  jx_all1 (tl_ldR) <|
  jx_all1 (tl_ldI) <|
  jx_all1 (tl_iald) <|
  jx_all1 (tl_i2) <|
  jx_all1 (tl_push) <|
  jx_all1 (tl_i2) <|
  jx_all1 (tl_i2) <|
  jx_all1 (tl_stI) <|
  jx_all1 (tl_ldR) <|
  jx_all1 (tl_ldI) <|
  jx_all1 (tl_dup2) <|
  jx_all1 (tl_iald) <|
  jx_all1 (tl_push) <|
  jx_all1 (tl_i2) <|
  jx_all1 (tl_iast) <|
  jx_all1 (tl_go) <|
  jx_all1 (tl_ldI) <|
  jx_all1 (tl_push) <|
  jx_all1 (tl_ldR) <|
  jx_all1 (tl_ldI) <|
  jx_all1 (tl_iald) <|
  jx_all1 (tl_i2) <|
  jx_all1 (tl_i2) <|
  jx_all1 (tl_stI) <|
  jx_all1 (tl_ldR) <|
  jx_all1 (tl_ldI) <|
  jx_all1 (tl_push) <|
  jx_all1 (tl_i2) <|
  jx_all1 (tl_ldR) <|
  jx_all1 (tl_ldI) <|
  jx_all1 (tl_iald) <|
  jx_all1 (tl_push) <|
  jx_all1 (tl_i2) <|
  jx_all1 (tl_iast) <|
  jx_all1 (tl_incI) <|
  jx_all1 (tl_go) <|
  jx_all1 (tl_ldL) <|
  jx_all1 (tl_rL) <|
  jx_all0
def mk_162 : List (Nat × List Bool) := [(19, [true, true, true, false, true, true, true]), (51, [true, true, false, false, true, true, true]), (53, [true, true, true, false, true, true, true]), (75, [true, true, true, false, true, true, true]), (121, [true, true, true, false, true, true, true]), (145, [true, true, true, false, true, true, true])]
/-- RoadBenchModel.arms(I)I -/
noncomputable def tb_163 (D : jx_D) : List (Nat × jx_A) := [(0, jx_ldR 0 1), (1, jx_ldI 1 2), (2, jx_vI D 118 30 2 5), (5, jx_ne0 14 8), (8, jx_ldR 0 9), (9, jx_push (vi (-1)) 10), (10, jx_vI D 111 30 2 13), (13, jx_rI), (14, jx_ldR 0 15), (15, jx_gI 30 2 18), (18, jx_ne0 28 21), (21, jx_ldR 0 22), (22, jx_push (vi (-4)) 24), (24, jx_vI D 111 30 2 27), (27, jx_rI), (28, jx_ldR 0 29), (29, jx_gI 30 0 32), (32, jx_push (vi 1) 33), (33, jx_cne 43 36), (36, jx_ldR 0 37), (37, jx_push (vi (-3)) 39), (39, jx_vI D 111 30 2 42), (42, jx_rI), (43, jx_push (vi 20) 45), (45, jx_stI 2 5 46), (46, jx_push (vi 0) 47), (47, jx_stI 3 5 48), (48, jx_ldI 3 49), (49, jx_ldR 0 50), (50, jx_gI 30 0 53), (53, jx_cge 92 56), (56, jx_ldI 3 57), (57, jx_ldI 1 58), (58, jx_cne 65 61), (61, jx_ldI 2 62), (62, jx_go 71), (65, jx_ldR 0 66), (66, jx_ldI 1 67), (67, jx_ldI 3 68), (68, jx_vI D 134 30 3 71), (71, jx_stI 4 5 73), (73, jx_ldI 4 75), (75, jx_ldI 2 76), (76, jx_cge 84 79), (79, jx_ldI 4 81), (81, jx_go 85), (84, jx_ldI 2 85), (85, jx_stI 2 5 86), (86, jx_incI 3 5 1 89), (89, jx_go 48), (92, jx_ldI 2 93), (93, jx_rI)]
set_option maxRecDepth 100000 in
theorem tl_m163 (D : jx_D) : ∀ pc, jx_tl (jx_look (tb_163 D) pc) := jx_tlm <| by
  unfold tb_163
  exact jx_all1 (tl_ldR) <|
  jx_all1 (tl_ldI) <|
  jx_all1 (tl_vI) <|
  jx_all1 (tl_ne0) <|
  jx_all1 (tl_ldR) <|
  jx_all1 (tl_push) <|
  jx_all1 (tl_vI) <|
  jx_all1 (tl_rI) <|
  jx_all1 (tl_ldR) <|
  jx_all1 (tl_gI) <|
  jx_all1 (tl_ne0) <|
  jx_all1 (tl_ldR) <|
  jx_all1 (tl_push) <|
  jx_all1 (tl_vI) <|
  jx_all1 (tl_rI) <|
  jx_all1 (tl_ldR) <|
  jx_all1 (tl_gI) <|
  jx_all1 (tl_push) <|
  jx_all1 (tl_cne) <|
  jx_all1 (tl_ldR) <|
  jx_all1 (tl_push) <|
  jx_all1 (tl_vI) <|
  jx_all1 (tl_rI) <|
  jx_all1 (tl_push) <|
  jx_all1 (tl_stI) <|
  jx_all1 (tl_push) <|
  jx_all1 (tl_stI) <|
  jx_all1 (tl_ldI) <|
  jx_all1 (tl_ldR) <|
  jx_all1 (tl_gI) <|
  jx_all1 (tl_cge) <|
  jx_all1 (tl_ldI) <|
  jx_all1 (tl_ldI) <|
  jx_all1 (tl_cne) <|
  jx_all1 (tl_ldI) <|
  jx_all1 (tl_go) <|
  jx_all1 (tl_ldR) <|
  jx_all1 (tl_ldI) <|
  jx_all1 (tl_ldI) <|
  jx_all1 (tl_vI) <|
  jx_all1 (tl_stI) <|
  jx_all1 (tl_ldI) <|
  jx_all1 (tl_ldI) <|
  jx_all1 (tl_cge) <|
  jx_all1 (tl_ldI) <|
  jx_all1 (tl_go) <|
  jx_all1 (tl_ldI) <|
  jx_all1 (tl_stI) <|
  jx_all1 (tl_incI) <|
  jx_all1 (tl_go) <|
  jx_all1 (tl_ldI) <|
  jx_all1 (tl_rI) <|
  jx_all0
def mk_163 : List (Nat × List Bool) := [(48, [true, true, true, true, false]), (71, [true, true, true, true, false]), (85, [true, true, false, true, false])]
/-- RoadBenchModel.turns()I -/
noncomputable def tb_164 (D : jx_D) : List (Nat × jx_A) := [(0, jx_ldR 0 1), (1, jx_gI 30 2 4), (4, jx_eq0 14 7), (7, jx_ldR 0 8), (8, jx_push (vi (-8)) 10), (10, jx_vI D 111 30 2 13), (13, jx_rI), (14, jx_ldR 0 15), (15, jx_gI 30 1 18), (18, jx_ne0 30 21), (21, jx_ldR 0 22), (22, jx_push (vi (-6)) 24), (24, jx_vI D 111 30 2 27), (27, jx_go 34), (30, jx_ldR 0 31), (31, jx_vI D 165 30 1 34), (34, jx_rI)]
set_option maxRecDepth 100000 in
theorem tl_m164 (D : jx_D) : ∀ pc, jx_tl (jx_look (tb_164 D) pc) := jx_tlm <| by
  unfold tb_164
  exact jx_all1 (tl_ldR) <|
  jx_all1 (tl_gI) <|
  jx_all1 (tl_eq0) <|
  jx_all1 (tl_ldR) <|
  jx_all1 (tl_push) <|
  jx_all1 (tl_vI) <|
  jx_all1 (tl_rI) <|
  jx_all1 (tl_ldR) <|
  jx_all1 (tl_gI) <|
  jx_all1 (tl_ne0) <|
  jx_all1 (tl_ldR) <|
  jx_all1 (tl_push) <|
  jx_all1 (tl_vI) <|
  jx_all1 (tl_go) <|
  jx_all1 (tl_ldR) <|
  jx_all1 (tl_vI) <|
  jx_all1 (tl_rI) <|
  jx_all0
def mk_164 : List (Nat × List Bool) := [(34, [false])]
/-- RoadBenchModel.turnAll()I -/
noncomputable def tb_165 (D : jx_D) : List (Nat × jx_A) := [(0, jx_push (vi 0) 1), (1, jx_stI 1 8 2), (2, jx_push (vi 0) 3), (3, jx_stI 2 8 4), (4, jx_push (vi 0) 5), (5, jx_stI 3 8 6), (6, jx_ldI 3 7), (7, jx_ldR 0 8), (8, jx_gI 30 0 11), (11, jx_cge 27 14), (14, jx_ldR 0 15), (15, jx_gR 30 51 (fun _ => 0) 18), (18, jx_ldI 3 19), (19, jx_push (vi 1) 20), (20, jx_bast 21), (21, jx_incI 3 8 1 24), (24, jx_go 6), (27, jx_push (vi 0) 28), (28, jx_stI 3 8 29), (29, jx_ldI 3 30), (30, jx_ldR 0 31), (31, jx_gI 30 0 34), (34, jx_cge 258 37), (37, jx_ldR 0 38), (38, jx_gR 30 51 (fun _ => 0) 41), (41, jx_ldI 3 42), (42, jx_bald 43), (43, jx_eq0 50 46), (46, jx_push (vi 1) 47), (47, jx_go 51), (50, jx_push (vi 0) 51), (51, jx_stI 4 8 53), (53, jx_ldR 0 54), (54, jx_gR 30 52 (fun _ => 0) 57), (57, jx_push (vi 0) 58), (58, jx_ldI 3 59), (59, jx_iast 60), (60, jx_ldR 0 61), (61, jx_gR 30 51 (fun _ => 0) 64), (64, jx_ldI 3 65), (65, jx_push (vi 0) 66), (66, jx_bast 67), (67, jx_ldI 4 69), (69, jx_le0 252 72), (72, jx_ldR 0 73), (73, jx_gR 30 52 (fun _ => 0) 76), (76, jx_ldI 4 78), (78, jx_push (vi 1) 79), (79, jx_i2 (fun x y => x - y) 80), (80, jx_iald 81), (81, jx_stI 5 8 83), (83, jx_push (vi (-1)) 84), (84, jx_stI 6 8 86), (86, jx_ldR 0 87), (87, jx_gI 30 1 90), (90, jx_push (vi 1) 91), (91, jx_i2 (fun x y => x - y) 92), (92, jx_stI 7 8 94), (94, jx_ldI 7 96), (96, jx_lt0 147 99), (99, jx_ldI 2 100), (100, jx_ldI 7 102), (102, jx_cI D 136 2 105), (105, jx_ne0 137 108), (108, jx_ldR 0 109), (109, jx_gR 30 33 (fun _ => 0) 112), (112, jx_ldI 7 114), (114, jx_iald 115), (115, jx_ldI 5 117), (117, jx_ceq 132 120), (120, jx_ldR 0 121), (121, jx_gR 30 34 (fun _ => 0) 124), (124, jx_ldI 7 126), (126, jx_iald 127), (127, jx_ldI 5 129), (129, jx_cne 137 132), (132, jx_ldI 7 134), (134, jx_go 139), (137, jx_ldI 6 139), (139, jx_stI 6 8 141), (141, jx_incI 7 8 (-1) 144), (144, jx_go 94), (147, jx_ldI 6 149), (149, jx_ge0 158 152), (152, jx_incI 4 8 (-1) 155), (155, jx_go 249), (158, jx_ldI 2 159), (159, jx_push (vi 1) 160), (160, jx_ldI 6 162), (162, jx_i2 (fun x y => x <<< (y &&& 31)) 163), (163, jx_i2 (fun x y => x ||| y) 164), (164, jx_stI 2 8 165), (165, jx_ldI 1 166), (166, jx_ldR 0 167), (167, jx_gR 30 34 (fun _ => 0) 170), (170, jx_ldI 6 172), (172, jx_iald 173), (173, jx_ldI 5 175), (175, jx_cne 185 178), (178, jx_push (vi 1) 179), (179, jx_ldI 6 181), (181, jx_i2 (fun x y => x <<< (y &&& 31)) 182), (182, jx_go 186), (185, jx_push (vi 0) 186), (186, jx_i2 (fun x y => x ||| y) 187), (187, jx_stI 1 8 188), (188, jx_ldR 0 189), (189, jx_gR 30 33 (fun _ => 0) 192), (192, jx_ldI 6 194), (194, jx_iald 195), (195, jx_ldI 5 197), (197, jx_cne 210 200), (200, jx_ldR 0 201), (201, jx_gR 30 34 (fun _ => 0) 204), (204, jx_ldI 6 206), (206, jx_iald 207), (207, jx_go 217), (210, jx_ldR 0 211), (211, jx_gR 30 33 (fun _ => 0) 214), (214, jx_ldI 6 216), (216, jx_iald 217), (217, jx_stI 7 8 219), (219, jx_ldR 0 220), (220, jx_gR 30 51 (fun _ => 0) 223), (223, jx_ldI 7 225), (225, jx_bald 226), (226, jx_eq0 249 229), (229, jx_ldR 0 230), (230, jx_gR 30 51 (fun _ => 0) 233), (233, jx_ldI 7 235), (235, jx_push (vi 0) 236), (236, jx_bast 237), (237, jx_ldR 0 238), (238, jx_gR 30 52 (fun _ => 0) 241), (241, jx_ldI 4 243), (243, jx_ldI 7 245), (245, jx_iast 246), (246, jx_incI 4 8 1 249), (249, jx_go 67), (252, jx_incI 3 8 1 255), (255, jx_go 29), (258, jx_ldI 1 259), (259, jx_rI)]
set_option maxRecDepth 100000 in
theorem tl_m165 (D : jx_D) : ∀ pc, jx_tl (jx_look (tb_165 D) pc) := jx_tlm <| by
  unfold tb_165
  exact jx_all1 (tl_push) <|
  jx_all1 (tl_stI) <|
  jx_all1 (tl_push) <|
  jx_all1 (tl_stI) <|
  jx_all1 (tl_push) <|
  jx_all1 (tl_stI) <|
  jx_all1 (tl_ldI) <|
  jx_all1 (tl_ldR) <|
  jx_all1 (tl_gI) <|
  jx_all1 (tl_cge) <|
  jx_all1 (tl_ldR) <|
  jx_all1 (tl_gR) <|
  jx_all1 (tl_ldI) <|
  jx_all1 (tl_push) <|
  jx_all1 (tl_bast) <|
  jx_all1 (tl_incI) <|
  jx_all1 (tl_go) <|
  jx_all1 (tl_push) <|
  jx_all1 (tl_stI) <|
  jx_all1 (tl_ldI) <|
  jx_all1 (tl_ldR) <|
  jx_all1 (tl_gI) <|
  jx_all1 (tl_cge) <|
  jx_all1 (tl_ldR) <|
  jx_all1 (tl_gR) <|
  jx_all1 (tl_ldI) <|
  jx_all1 (tl_bald) <|
  jx_all1 (tl_eq0) <|
  jx_all1 (tl_push) <|
  jx_all1 (tl_go) <|
  jx_all1 (tl_push) <|
  jx_all1 (tl_stI) <|
  jx_all1 (tl_ldR) <|
  jx_all1 (tl_gR) <|
  jx_all1 (tl_push) <|
  jx_all1 (tl_ldI) <|
  jx_all1 (tl_iast) <|
  jx_all1 (tl_ldR) <|
  jx_all1 (tl_gR) <|
  jx_all1 (tl_ldI) <|
  jx_all1 (tl_push) <|
  jx_all1 (tl_bast) <|
  jx_all1 (tl_ldI) <|
  jx_all1 (tl_le0) <|
  jx_all1 (tl_ldR) <|
  jx_all1 (tl_gR) <|
  jx_all1 (tl_ldI) <|
  jx_all1 (tl_push) <|
  jx_all1 (tl_i2) <|
  jx_all1 (tl_iald) <|
  jx_all1 (tl_stI) <|
  jx_all1 (tl_push) <|
  jx_all1 (tl_stI) <|
  jx_all1 (tl_ldR) <|
  jx_all1 (tl_gI) <|
  jx_all1 (tl_push) <|
  jx_all1 (tl_i2) <|
  jx_all1 (tl_stI) <|
  jx_all1 (tl_ldI) <|
  jx_all1 (tl_lt0) <|
  jx_all1 (tl_ldI) <|
  jx_all1 (tl_ldI) <|
  jx_all1 (tl_cI) <|
  jx_all1 (tl_ne0) <|
  jx_all1 (tl_ldR) <|
  jx_all1 (tl_gR) <|
  jx_all1 (tl_ldI) <|
  jx_all1 (tl_iald) <|
  jx_all1 (tl_ldI) <|
  jx_all1 (tl_ceq) <|
  jx_all1 (tl_ldR) <|
  jx_all1 (tl_gR) <|
  jx_all1 (tl_ldI) <|
  jx_all1 (tl_iald) <|
  jx_all1 (tl_ldI) <|
  jx_all1 (tl_cne) <|
  jx_all1 (tl_ldI) <|
  jx_all1 (tl_go) <|
  jx_all1 (tl_ldI) <|
  jx_all1 (tl_stI) <|
  jx_all1 (tl_incI) <|
  jx_all1 (tl_go) <|
  jx_all1 (tl_ldI) <|
  jx_all1 (tl_ge0) <|
  jx_all1 (tl_incI) <|
  jx_all1 (tl_go) <|
  jx_all1 (tl_ldI) <|
  jx_all1 (tl_push) <|
  jx_all1 (tl_ldI) <|
  jx_all1 (tl_i2) <|
  jx_all1 (tl_i2) <|
  jx_all1 (tl_stI) <|
  jx_all1 (tl_ldI) <|
  jx_all1 (tl_ldR) <|
  jx_all1 (tl_gR) <|
  jx_all1 (tl_ldI) <|
  jx_all1 (tl_iald) <|
  jx_all1 (tl_ldI) <|
  jx_all1 (tl_cne) <|
  jx_all1 (tl_push) <|
  jx_all1 (tl_ldI) <|
  jx_all1 (tl_i2) <|
  jx_all1 (tl_go) <|
  jx_all1 (tl_push) <|
  jx_all1 (tl_i2) <|
  jx_all1 (tl_stI) <|
  jx_all1 (tl_ldR) <|
  jx_all1 (tl_gR) <|
  jx_all1 (tl_ldI) <|
  jx_all1 (tl_iald) <|
  jx_all1 (tl_ldI) <|
  jx_all1 (tl_cne) <|
  jx_all1 (tl_ldR) <|
  jx_all1 (tl_gR) <|
  jx_all1 (tl_ldI) <|
  jx_all1 (tl_iald) <|
  jx_all1 (tl_go) <|
  jx_all1 (tl_ldR) <|
  jx_all1 (tl_gR) <|
  jx_all1 (tl_ldI) <|
  jx_all1 (tl_iald) <|
  jx_all1 (tl_stI) <|
  jx_all1 (tl_ldR) <|
  jx_all1 (tl_gR) <|
  jx_all1 (tl_ldI) <|
  jx_all1 (tl_bald) <|
  jx_all1 (tl_eq0) <|
  jx_all1 (tl_ldR) <|
  jx_all1 (tl_gR) <|
  jx_all1 (tl_ldI) <|
  jx_all1 (tl_push) <|
  jx_all1 (tl_bast) <|
  jx_all1 (tl_ldR) <|
  jx_all1 (tl_gR) <|
  jx_all1 (tl_ldI) <|
  jx_all1 (tl_ldI) <|
  jx_all1 (tl_iast) <|
  jx_all1 (tl_incI) <|
  jx_all1 (tl_go) <|
  jx_all1 (tl_incI) <|
  jx_all1 (tl_go) <|
  jx_all1 (tl_ldI) <|
  jx_all1 (tl_rI) <|
  jx_all0
def mk_165 : List (Nat × List Bool) := [(6, [true, true, true, true, false, false, false, false]), (29, [true, true, true, true, false, false, false, false]), (51, [true, true, true, true, false, false, false, false]), (67, [true, true, true, true, true, false, false, false]), (83, [true, true, true, true, true, true, false, false]), (94, [true, true, true, true, true, true, true, true]), (132, [true, true, true, true, true, true, false, true]), (137, [true, true, true, true, true, true, true, true]), (139, [true, true, true, true, true, true, false, true]), (165, [true, true, true, true, true, true, true, false]), (186, [true, false, true, true, true, true, true, false]), (188, [true, true, true, true, true, true, true, false]), (217, [true, true, true, true, true, false, false, false]), (219, [true, true, true, true, true, false, false, true]), (249, [true, true, true, true, true, false, false, false])]
/-- RoadBenchModel.strong()I -/
noncomputable def tb_166 (D : jx_D) : List (Nat × jx_A) := [(0, jx_ldR 0 1), (1, jx_gI 30 2 4), (4, jx_eq0 14 7), (7, jx_ldR 0 8), (8, jx_push (vi (-8)) 10), (10, jx_vI D 111 30 2 13), (13, jx_rI), (14, jx_ldR 0 15), (15, jx_vI D 165 30 1 18), (18, jx_stI 1 3 19), (19, jx_ldR 0 20), (20, jx_ldI 1 21), (21, jx_vV D 167 30 2 24), (24, jx_ldR 0 25), (25, jx_push (vi 1) 26), (26, jx_pZ 30 2 29), (29, jx_ldR 0 30), (30, jx_push (vi 0) 31), (31, jx_ldR 0 32), (32, jx_vI D 137 30 1 35), (35, jx_vI D 148 30 3 38), (38, jx_stI 2 3 39), (39, jx_ldR 0 40), (40, jx_push (vi 0) 41), (41, jx_pZ 30 2 44), (44, jx_ldR 0 45), (45, jx_ldI 1 46), (46, jx_vV D 167 30 2 49), (49, jx_ldI 2 50), (50, jx_eq0 57 53), (53, jx_push (vi 1) 54), (54, jx_go 58), (57, jx_push (vi 0) 58), (58, jx_rI)]
set_option maxRecDepth 100000 in
theorem tl_m166 (D : jx_D) : ∀ pc, jx_tl (jx_look (tb_166 D) pc) := jx_tlm <| by
  unfold tb_166
  exact jx_all1 (tl_ldR) <|
  jx_all1 (tl_gI) <|
  jx_all1 (tl_eq0) <|
  jx_all1 (tl_ldR) <|
  jx_all1 (tl_push) <|
  jx_all1 (tl_vI) <|
  jx_all1 (tl_rI) <|
  jx_all1 (tl_ldR) <|
  jx_all1 (tl_vI) <|
  jx_all1 (tl_stI) <|
  jx_all1 (tl_ldR) <|
  jx_all1 (tl_ldI) <|
  jx_all1 (tl_vV) <|
  jx_all1 (tl_ldR) <|
  jx_all1 (tl_push) <|
  jx_all1 (tl_pZ) <|
  jx_all1 (tl_ldR) <|
  jx_all1 (tl_push) <|
  jx_all1 (tl_ldR) <|
  jx_all1 (tl_vI) <|
  jx_all1 (tl_vI) <|
  jx_all1 (tl_stI) <|
  jx_all1 (tl_ldR) <|
  jx_all1 (tl_push) <|
  jx_all1 (tl_pZ) <|
  jx_all1 (tl_ldR) <|
  jx_all1 (tl_ldI) <|
  jx_all1 (tl_vV) <|
  jx_all1 (tl_ldI) <|
  jx_all1 (tl_eq0) <|
  jx_all1 (tl_push) <|
  jx_all1 (tl_go) <|
  jx_all1 (tl_push) <|
  jx_all1 (tl_rI) <|
  jx_all0
def mk_166 : List (Nat × List Bool) := [(58, [false, false, false])]
/-- RoadBenchModel.swapEnds(I)V -/
noncomputable def tb_167 (D : jx_D) : List (Nat × jx_A) := [(0, jx_push (vi 0) 1), (1, jx_stI 2 4 2), (2, jx_ldI 2 3), (3, jx_ldR 0 4), (4, jx_gI 30 1 7), (7, jx_cge 50 10), (10, jx_ldI 1 11), (11, jx_ldI 2 12), (12, jx_cI D 136 2 15), (15, jx_eq0 44 18), (18, jx_ldR 0 19), (19, jx_gR 30 33 (fun _ => 0) 22), (22, jx_ldI 2 23), (23, jx_iald 24), (24, jx_stI 3 4 25), (25, jx_ldR 0 26), (26, jx_gR 30 33 (fun _ => 0) 29), (29, jx_ldI 2 30), (30, jx_ldR 0 31), (31, jx_gR 30 34 (fun _ => 0) 34), (34, jx_ldI 2 35), (35, jx_iald 36), (36, jx_iast 37), (37, jx_ldR 0 38), (38, jx_gR 30 34 (fun _ => 0) 41), (41, jx_ldI 2 42), (42, jx_ldI 3 43), (43, jx_iast 44), (44, jx_incI 2 4 1 47), (47, jx_go 2), (50, jx_rV)]
set_option maxRecDepth 100000 in
theorem tl_m167 (D : jx_D) : ∀ pc, jx_tl (jx_look (tb_167 D) pc) := jx_tlm <| by
  unfold tb_167
  exact jx_all1 (tl_push) <|
  jx_all1 (tl_stI) <|
  jx_all1 (tl_ldI) <|
  jx_all1 (tl_ldR) <|
  jx_all1 (tl_gI) <|
  jx_all1 (tl_cge) <|
  jx_all1 (tl_ldI) <|
  jx_all1 (tl_ldI) <|
  jx_all1 (tl_cI) <|
  jx_all1 (tl_eq0) <|
  jx_all1 (tl_ldR) <|
  jx_all1 (tl_gR) <|
  jx_all1 (tl_ldI) <|
  jx_all1 (tl_iald) <|
  jx_all1 (tl_stI) <|
  jx_all1 (tl_ldR) <|
  jx_all1 (tl_gR) <|
  jx_all1 (tl_ldI) <|
  jx_all1 (tl_ldR) <|
  jx_all1 (tl_gR) <|
  jx_all1 (tl_ldI) <|
  jx_all1 (tl_iald) <|
  jx_all1 (tl_iast) <|
  jx_all1 (tl_ldR) <|
  jx_all1 (tl_gR) <|
  jx_all1 (tl_ldI) <|
  jx_all1 (tl_ldI) <|
  jx_all1 (tl_iast) <|
  jx_all1 (tl_incI) <|
  jx_all1 (tl_go) <|
  jx_all1 (tl_rV) <|
  jx_all0
def mk_167 : List (Nat × List Bool) := [(2, [true, true, true, false]), (37, [true, true, true, true]), (44, [true, true, true, false])]
/-- RoadBenchModel.chance()J -/
noncomputable def tb_168 (D : jx_D) : List (Nat × jx_A) := [(0, jx_ldR 0 1), (1, jx_gI 30 2 4), (4, jx_eq0 24 7), (7, jx_ldR 0 8), (8, jx_gI 30 1 11), (11, jx_push (vi 12) 13), (13, jx_cle 24 16), (16, jx_ldR 0 17), (17, jx_push (vi (-7)) 19), (19, jx_vI D 111 30 2 22), (22, jx_i2l 23), (23, jx_rL), (24, jx_ldR 0 25), (25, jx_gI 30 0 28), (28, jx_ne0 35 31), (31, jx_push (vl 0) 32), (32, jx_go 53), (35, jx_ldR 0 36), (36, jx_gI 30 2 39), (39, jx_eq0 49 42), (42, jx_ldR 0 43), (43, jx_vL D 169 30 1 46), (46, jx_go 53), (49, jx_ldR 0 50), (50, jx_vL D 170 30 1 53), (53, jx_rL)]
set_option maxRecDepth 100000 in
theorem tl_m168 (D : jx_D) : ∀ pc, jx_tl (jx_look (tb_168 D) pc) := jx_tlm <| by
  unfold tb_168
  exact jx_all1 (tl_ldR) <|
  jx_all1 (tl_gI) <|
  jx_all1 (tl_eq0) <|
  jx_all1 (tl_ldR) <|
  jx_all1 (tl_gI) <|
  jx_all1 (tl_push) <|
  jx_all1 (tl_cle) <|
  jx_all1 (tl_ldR) <|
  jx_all1 (tl_push) <|
  jx_all1 (tl_vI) <|
  jx_all1 (tl_i2l) <|
  jx_all1 (tl_rL) <|
  jx_all1 (tl_ldR) <|
  jx_all1 (tl_gI) <|
  jx_all1 (tl_ne0) <|
  jx_all1 (tl_push) <|
  jx_all1 (tl_go) <|
  jx_all1 (tl_ldR) <|
  jx_all1 (tl_gI) <|
  jx_all1 (tl_eq0) <|
  jx_all1 (tl_ldR) <|
  jx_all1 (tl_vL) <|
  jx_all1 (tl_go) <|
  jx_all1 (tl_ldR) <|
  jx_all1 (tl_vL) <|
  jx_all1 (tl_rL) <|
  jx_all0
def mk_168 : List (Nat × List Bool) := [(24, [true]), (53, [false])]
/-- RoadBenchModel.turnedChance()J -/
noncomputable def tb_169 (D : jx_D) : List (Nat × jx_A) := [(0, jx_push (vl 0) 1), (1, jx_stL 1 7 2), (2, jx_push (vi 0) 3), (3, jx_stI 3 7 4), (4, jx_ldI 3 5), (5, jx_ldR 0 6), (6, jx_vI D 137 30 1 9), (9, jx_cgt 100 12), (12, jx_ldR 0 13), (13, jx_push (vi 0) 14), (14, jx_ldI 3 15), (15, jx_vI D 148 30 3 18), (18, jx_eq0 25 21), (21, jx_push (vl 1) 22), (22, jx_go 26), (25, jx_push (vl 0) 26), (26, jx_stL 4 7 28), (28, jx_push (vi 0) 29), (29, jx_stI 6 7 31), (31, jx_ldI 6 33), (33, jx_ldR 0 34), (34, jx_gI 30 1 37), (37, jx_cge 89 40), (40, jx_ldL 4 42), (42, jx_push (vl 0) 43), (43, jx_lcm 44), (44, jx_le0 89 47), (47, jx_ldL 4 49), (49, jx_ldI 3 50), (50, jx_ldI 6 52), (52, jx_cI D 136 2 55), (55, jx_eq0 69 58), (58, jx_ldR 0 59), (59, jx_gR 30 36 (fun _ => 0) 62), (62, jx_ldI 6 64), (64, jx_iald 65), (65, jx_i2l 66), (66, jx_go 80), (69, jx_push (vi 8) 71), (71, jx_ldR 0 72), (72, jx_gR 30 36 (fun _ => 0) 75), (75, jx_ldI 6 77), (77, jx_iald 78), (78, jx_i2 (fun x y => x - y) 79), (79, jx_i2l 80), (80, jx_l2 (fun x y => x * y) 81), (81, jx_stL 4 7 83), (83, jx_incI 6 7 1 86), (86, jx_go 31), (89, jx_ldL 1 90), (90, jx_ldL 4 92), (92, jx_l2 (fun x y => x + y) 93), (93, jx_stL 1 7 94), (94, jx_incI 3 7 1 97), (97, jx_go 4), (100, jx_ldL 1 101), (101, jx_rL)]
set_option maxRecDepth 100000 in
theorem tl_m169 (D : jx_D) : ∀ pc, jx_tl (jx_look (tb_169 D) pc) := jx_tlm <| by
  unfold tb_169
  exact jx_all1 (tl_push) <|
  jx_all1 (tl_stL) <|
  jx_all1 (tl_push) <|
  jx_all1 (tl_stI) <|
  jx_all1 (tl_ldI) <|
  jx_all1 (tl_ldR) <|
  jx_all1 (tl_vI) <|
  jx_all1 (tl_cgt) <|
  jx_all1 (tl_ldR) <|
  jx_all1 (tl_push) <|
  jx_all1 (tl_ldI) <|
  jx_all1 (tl_vI) <|
  jx_all1 (tl_eq0) <|
  jx_all1 (tl_push) <|
  jx_all1 (tl_go) <|
  jx_all1 (tl_push) <|
  jx_all1 (tl_stL) <|
  jx_all1 (tl_push) <|
  jx_all1 (tl_stI) <|
  jx_all1 (tl_ldI) <|
  jx_all1 (tl_ldR) <|
  jx_all1 (tl_gI) <|
  jx_all1 (tl_cge) <|
  jx_all1 (tl_ldL) <|
  jx_all1 (tl_push) <|
  jx_all1 (tl_lcm) <|
  jx_all1 (tl_le0) <|
  jx_all1 (tl_ldL) <|
  jx_all1 (tl_ldI) <|
  jx_all1 (tl_ldI) <|
  jx_all1 (tl_cI) <|
  jx_all1 (tl_eq0) <|
  jx_all1 (tl_ldR) <|
  jx_all1 (tl_gR) <|
  jx_all1 (tl_ldI) <|
  jx_all1 (tl_iald) <|
  jx_all1 (tl_i2l) <|
  jx_all1 (tl_go) <|
  jx_all1 (tl_push) <|
  jx_all1 (tl_ldR) <|
  jx_all1 (tl_gR) <|
  jx_all1 (tl_ldI) <|
  jx_all1 (tl_iald) <|
  jx_all1 (tl_i2) <|
  jx_all1 (tl_i2l) <|
  jx_all1 (tl_l2) <|
  jx_all1 (tl_stL) <|
  jx_all1 (tl_incI) <|
  jx_all1 (tl_go) <|
  jx_all1 (tl_ldL) <|
  jx_all1 (tl_ldL) <|
  jx_all1 (tl_l2) <|
  jx_all1 (tl_stL) <|
  jx_all1 (tl_incI) <|
  jx_all1 (tl_go) <|
  jx_all1 (tl_ldL) <|
  jx_all1 (tl_rL) <|
  jx_all0
def mk_169 : List (Nat × List Bool) := [(4, [true, true, false, true, false, false, false]), (26, [true, true, false, true, false, false, false]), (31, [true, true, false, true, true, false, true]), (80, [true, true, false, true, false, false, true]), (83, [true, true, false, true, true, false, true]), (89, [true, true, false, true, true, false, false]), (94, [true, true, false, true, false, false, false])]
/-- RoadBenchModel.plainChance()J -/
noncomputable def tb_170 (D : jx_D) : List (Nat × jx_A) := [(0, jx_push (vi 1) 1), (1, jx_stI 1 6 2), (2, jx_ldI 1 3), (3, jx_ldR 0 4), (4, jx_vI D 135 30 1 7), (7, jx_cgt 107 10), (10, jx_ldI 1 11), (11, jx_ldI 1 12), (12, jx_i1 (fun x => -x) 13), (13, jx_i2 (fun x y => x &&& y) 14), (14, jx_stI 2 6 15), (15, jx_ldR 0 16), (16, jx_ldR 0 17), (17, jx_ldI 1 18), (18, jx_vI D 160 30 2 21), (21, jx_vL D 171 30 2 24), (24, jx_stL 3 6 25), (25, jx_push (vi 1) 26), (26, jx_stI 5 6 28), (28, jx_ldI 5 30), (30, jx_ldI 1 31), (31, jx_cge 94 34), (34, jx_ldI 5 36), (36, jx_ldI 1 37), (37, jx_push (vi (-1)) 38), (38, jx_i2 (fun x y => x ^^^ y) 39), (39, jx_i2 (fun x y => x &&& y) 40), (40, jx_ne0 88 43), (43, jx_ldI 5 45), (45, jx_ldI 2 46), (46, jx_i2 (fun x y => x &&& y) 47), (47, jx_eq0 88 50), (50, jx_ldL 3 51), (51, jx_ldR 0 52), (52, jx_gR 30 53 (fun _ => 0) 55), (55, jx_ldI 5 57), (57, jx_lald 58), (58, jx_ldR 0 59), (59, jx_ldI 5 61), (61, jx_ldI 1 62), (62, jx_ldI 5 64), (64, jx_push (vi (-1)) 65), (65, jx_i2 (fun x y => x ^^^ y) 66), (66, jx_i2 (fun x y => x &&& y) 67), (67, jx_vL D 172 30 3 70), (70, jx_l2 (fun x y => x * y) 71), (71, jx_ldR 0 72), (72, jx_ldR 0 73), (73, jx_ldI 1 74), (74, jx_ldI 5 76), (76, jx_push (vi (-1)) 77), (77, jx_i2 (fun x y => x ^^^ y) 78), (78, jx_i2 (fun x y => x &&& y) 79), (79, jx_vI D 160 30 2 82), (82, jx_vL D 171 30 2 85), (85, jx_l2 (fun x y => x * y) 86), (86, jx_l2 (fun x y => x - y) 87), (87, jx_stL 3 6 88), (88, jx_incI 5 6 1 91), (91, jx_go 28), (94, jx_ldR 0 95), (95, jx_gR 30 53 (fun _ => 0) 98), (98, jx_ldI 1 99), (99, jx_ldL 3 100), (100, jx_last 101), (101, jx_incI 1 6 1 104), (104, jx_go 2), (107, jx_ldR 0 108), (108, jx_gR 30 53 (fun _ => 0) 111), (111, jx_ldR 0 112), (112, jx_vI D 135 30 1 115), (115, jx_lald 116), (116, jx_rL)]
set_option maxRecDepth 100000 in
theorem tl_m170 (D : jx_D) : ∀ pc, jx_tl (jx_look (tb_170 D) pc) := jx_tlm <| by
  unfold tb_170
  exact jx_all1 (tl_push) <|
  jx_all1 (tl_stI) <|
  jx_all1 (tl_ldI) <|
  jx_all1 (tl_ldR) <|
  jx_all1 (tl_vI) <|
  jx_all1 (tl_cgt) <|
  jx_all1 (tl_ldI) <|
  jx_all1 (tl_ldI) <|
  jx_all1 (tl_i1) <|
  jx_all1 (tl_i2) <|
  jx_all1 (tl_stI) <|
  jx_all1 (tl_ldR) <|
  jx_all1 (tl_ldR) <|
  jx_all1 (tl_ldI) <|
  jx_all1 (tl_vI) <|
  jx_all1 (tl_vL) <|
  jx_all1 (tl_stL) <|
  jx_all1 (tl_push) <|
  jx_all1 (tl_stI) <|
  jx_all1 (tl_ldI) <|
  jx_all1 (tl_ldI) <|
  jx_all1 (tl_cge) <|
  jx_all1 (tl_ldI) <|
  jx_all1 (tl_ldI) <|
  jx_all1 (tl_push) <|
  jx_all1 (tl_i2) <|
  jx_all1 (tl_i2) <|
  jx_all1 (tl_ne0) <|
  jx_all1 (tl_ldI) <|
  jx_all1 (tl_ldI) <|
  jx_all1 (tl_i2) <|
  jx_all1 (tl_eq0) <|
  jx_all1 (tl_ldL) <|
  jx_all1 (tl_ldR) <|
  jx_all1 (tl_gR) <|
  jx_all1 (tl_ldI) <|
  jx_all1 (tl_lald) <|
  jx_all1 (tl_ldR) <|
  jx_all1 (tl_ldI) <|
  jx_all1 (tl_ldI) <|
  jx_all1 (tl_ldI) <|
  jx_all1 (tl_push) <|
  jx_all1 (tl_i2) <|
  jx_all1 (tl_i2) <|
  jx_all1 (tl_vL) <|
  jx_all1 (tl_l2) <|
  jx_all1 (tl_ldR) <|
  jx_all1 (tl_ldR) <|
  jx_all1 (tl_ldI) <|
  jx_all1 (tl_ldI) <|
  jx_all1 (tl_push) <|
  jx_all1 (tl_i2) <|
  jx_all1 (tl_i2) <|
  jx_all1 (tl_vI) <|
  jx_all1 (tl_vL) <|
  jx_all1 (tl_l2) <|
  jx_all1 (tl_l2) <|
  jx_all1 (tl_stL) <|
  jx_all1 (tl_incI) <|
  jx_all1 (tl_go) <|
  jx_all1 (tl_ldR) <|
  jx_all1 (tl_gR) <|
  jx_all1 (tl_ldI) <|
  jx_all1 (tl_ldL) <|
  jx_all1 (tl_last) <|
  jx_all1 (tl_incI) <|
  jx_all1 (tl_go) <|
  jx_all1 (tl_ldR) <|
  jx_all1 (tl_gR) <|
  jx_all1 (tl_ldR) <|
  jx_all1 (tl_vI) <|
  jx_all1 (tl_lald) <|
  jx_all1 (tl_rL) <|
  jx_all0
def mk_170 : List (Nat × List Bool) := [(2, [true, true, false, false, false, false]), (28, [true, true, true, true, false, true]), (88, [true, true, true, true, false, true])]
/-- RoadBenchModel.power(I)J -/
noncomputable def tb_171 (D : jx_D) : List (Nat × jx_A) := [(0, jx_push (vl 1) 1), (1, jx_push (vi 3) 2), (2, jx_ldI 1 3), (3, jx_i2 (fun x y => x * y) 4), (4, jx_lsh 5), (5, jx_rL)]
set_option maxRecDepth 100000 in
theorem tl_m171 (D : jx_D) : ∀ pc, jx_tl (jx_look (tb_171 D) pc) := jx_tlm <| by
  unfold tb_171
  exact jx_all1 (tl_push) <|
  jx_all1 (tl_push) <|
  jx_all1 (tl_ldI) <|
  jx_all1 (tl_i2) <|
  jx_all1 (tl_lsh) <|
  jx_all1 (tl_rL) <|
  jx_all0
def mk_171 : List (Nat × List Bool) := []
/-- RoadBenchModel.between(II)J -/
noncomputable def tb_172 (D : jx_D) : List (Nat × jx_A) := [(0, jx_push (vl 1) 1), (1, jx_stL 3 7 2), (2, jx_push (vi 0) 3), (3, jx_stI 5 7 5), (5, jx_ldI 5 7), (7, jx_ldR 0 8), (8, jx_gI 30 1 11), (11, jx_cge 107 14), (14, jx_ldI 1 15), (15, jx_ldR 0 16), (16, jx_gR 30 33 (fun _ => 0) 19), (19, jx_ldI 5 21), (21, jx_iald 22), (22, jx_cI D 136 2 25), (25, jx_eq0 42 28), (28, jx_ldI 2 29), (29, jx_ldR 0 30), (30, jx_gR 30 34 (fun _ => 0) 33), (33, jx_ldI 5 35), (35, jx_iald 36), (36, jx_cI D 136 2 39), (39, jx_ne0 70 42), (42, jx_ldI 2 43), (43, jx_ldR 0 44), (44, jx_gR 30 33 (fun _ => 0) 47), (47, jx_ldI 5 49), (49, jx_iald 50), (50, jx_cI D 136 2 53), (53, jx_eq0 74 56), (56, jx_ldI 1 57), (57, jx_ldR 0 58), (58, jx_gR 30 34 (fun _ => 0) 61), (61, jx_ldI 5 63), (63, jx_iald 64), (64, jx_cI D 136 2 67), (67, jx_eq0 74 70), (70, jx_push (vi 1) 71), (71, jx_go 75), (74, jx_push (vi 0) 75), (75, jx_stI 6 7 77), (77, jx_ldL 3 78), (78, jx_ldI 6 80), (80, jx_eq0 98 83), (83, jx_push (vl 8) 86), (86, jx_ldR 0 87), (87, jx_gR 30 36 (fun _ => 0) 90), (90, jx_ldI 5 92), (92, jx_iald 93), (93, jx_i2l 94), (94, jx_l2 (fun x y => x - y) 95), (95, jx_go 99), (98, jx_push (vl 1) 99), (99, jx_l2 (fun x y => x * y) 100), (100, jx_stL 3 7 101), (101, jx_incI 5 7 1 104), (104, jx_go 5), (107, jx_ldL 3 108), (108, jx_rL)]
set_option maxRecDepth 100000 in
theorem tl_m172 (D : jx_D) : ∀ pc, jx_tl (jx_look (tb_172 D) pc) := jx_tlm <| by
  unfold tb_172
  exact jx_all1 (tl_push) <|
  jx_all1 (tl_stL) <|
  jx_all1 (tl_push) <|
  jx_all1 (tl_stI) <|
  jx_all1 (tl_ldI) <|
  jx_all1 (tl_ldR) <|
  jx_all1 (tl_gI) <|
  jx_all1 (tl_cge) <|
  jx_all1 (tl_ldI) <|
  jx_all1 (tl_ldR) <|
  jx_all1 (tl_gR) <|
  jx_all1 (tl_ldI) <|
  jx_all1 (tl_iald) <|
  jx_all1 (tl_cI) <|
  jx_all1 (tl_eq0) <|
  jx_all1 (tl_ldI) <|
  jx_all1 (tl_ldR) <|
  jx_all1 (tl_gR) <|
  jx_all1 (tl_ldI) <|
  jx_all1 (tl_iald) <|
  jx_all1 (tl_cI) <|
  jx_all1 (tl_ne0) <|
  jx_all1 (tl_ldI) <|
  jx_all1 (tl_ldR) <|
  jx_all1 (tl_gR) <|
  jx_all1 (tl_ldI) <|
  jx_all1 (tl_iald) <|
  jx_all1 (tl_cI) <|
  jx_all1 (tl_eq0) <|
  jx_all1 (tl_ldI) <|
  jx_all1 (tl_ldR) <|
  jx_all1 (tl_gR) <|
  jx_all1 (tl_ldI) <|
  jx_all1 (tl_iald) <|
  jx_all1 (tl_cI) <|
  jx_all1 (tl_eq0) <|
  jx_all1 (tl_push) <|
  jx_all1 (tl_go) <|
  jx_all1 (tl_push) <|
  jx_all1 (tl_stI) <|
  jx_all1 (tl_ldL) <|
  jx_all1 (tl_ldI) <|
  jx_all1 (tl_eq0) <|
  jx_all1 (tl_push) <|
  jx_all1 (tl_ldR) <|
  jx_all1 (tl_gR) <|
  jx_all1 (tl_ldI) <|
  jx_all1 (tl_iald) <|
  jx_all1 (tl_i2l) <|
  jx_all1 (tl_l2) <|
  jx_all1 (tl_go) <|
  jx_all1 (tl_push) <|
  jx_all1 (tl_l2) <|
  jx_all1 (tl_stL) <|
  jx_all1 (tl_incI) <|
  jx_all1 (tl_go) <|
  jx_all1 (tl_ldL) <|
  jx_all1 (tl_rL) <|
  jx_all0
def mk_172 : List (Nat × List Bool) := [(5, [true, true, true, true, false, true, false]), (42, [true, true, true, true, false, true, false]), (70, [true, true, true, true, false, true, false]), (74, [true, true, true, true, false, true, false]), (75, [true, true, true, true, false, true, false]), (99, [true, true, true, false, false, true, false]), (101, [true, true, true, true, false, true, false])]
/-- RoadBenchModel.tell(I)I -/
noncomputable def tb_173 (D : jx_D) : List (Nat × jx_A) := [(0, jx_ldR 0 1), (1, jx_gI 30 14 4), (4, jx_push (vi 60) 6), (6, jx_cne 16 9), (9, jx_ldR 0 10), (10, jx_push (vi (-5)) 12), (12, jx_vI D 111 30 2 15), (15, jx_rI), (16, jx_ldR 0 17), (17, jx_gR 30 45 (fun _ => 0) 20), (20, jx_ldR 0 21), (21, jx_gI 30 14 24), (24, jx_ldI 1 25), (25, jx_iast 26), (26, jx_ldR 0 27), (27, jx_dup 28), (28, jx_gI 30 14 31), (31, jx_push (vi 1) 32), (32, jx_i2 (fun x y => x + y) 33), (33, jx_pI 30 14 36), (36, jx_ldR 0 37), (37, jx_gI 30 14 40), (40, jx_rI)]
set_option maxRecDepth 100000 in
theorem tl_m173 (D : jx_D) : ∀ pc, jx_tl (jx_look (tb_173 D) pc) := jx_tlm <| by
  unfold tb_173
  exact jx_all1 (tl_ldR) <|
  jx_all1 (tl_gI) <|
  jx_all1 (tl_push) <|
  jx_all1 (tl_cne) <|
  jx_all1 (tl_ldR) <|
  jx_all1 (tl_push) <|
  jx_all1 (tl_vI) <|
  jx_all1 (tl_rI) <|
  jx_all1 (tl_ldR) <|
  jx_all1 (tl_gR) <|
  jx_all1 (tl_ldR) <|
  jx_all1 (tl_gI) <|
  jx_all1 (tl_ldI) <|
  jx_all1 (tl_iast) <|
  jx_all1 (tl_ldR) <|
  jx_all1 (tl_dup) <|
  jx_all1 (tl_gI) <|
  jx_all1 (tl_push) <|
  jx_all1 (tl_i2) <|
  jx_all1 (tl_pI) <|
  jx_all1 (tl_ldR) <|
  jx_all1 (tl_gI) <|
  jx_all1 (tl_rI) <|
  jx_all0
def mk_173 : List (Nat × List Bool) := []
/-- RoadBenchModel.would()I -/
noncomputable def tb_174 (D : jx_D) : List (Nat × jx_A) := [(0, jx_ldR 0 1), (1, jx_gI 30 14 4), (4, jx_stI 1 3 5), (5, jx_ldR 0 6), (6, jx_push (vi 0) 7), (7, jx_pI 30 14 10), (10, jx_ldI 1 11), (11, jx_push (vi 2) 12), (12, jx_dv (fun x y => x - x / y * y) 13), (13, jx_eq0 23 16), (16, jx_ldR 0 17), (17, jx_push (vi (-3)) 19), (19, jx_vI D 111 30 2 22), (22, jx_rI), (23, jx_push (vi 0) 24), (24, jx_stI 2 3 25), (25, jx_ldI 2 26), (26, jx_ldI 1 27), (27, jx_cge 87 30), (30, jx_ldR 0 31), (31, jx_ldR 0 32), (32, jx_gR 30 45 (fun _ => 0) 35), (35, jx_ldI 2 36), (36, jx_iald 37), (37, jx_vI D 118 30 2 40), (40, jx_eq0 75 43), (43, jx_ldR 0 44), (44, jx_ldR 0 45), (45, jx_gR 30 45 (fun _ => 0) 48), (48, jx_ldI 2 49), (49, jx_push (vi 1) 50), (50, jx_i2 (fun x y => x + y) 51), (51, jx_iald 52), (52, jx_vI D 118 30 2 55), (55, jx_eq0 75 58), (58, jx_ldR 0 59), (59, jx_gR 30 45 (fun _ => 0) 62), (62, jx_ldI 2 63), (63, jx_iald 64), (64, jx_ldR 0 65), (65, jx_gR 30 45 (fun _ => 0) 68), (68, jx_ldI 2 69), (69, jx_push (vi 1) 70), (70, jx_i2 (fun x y => x + y) 71), (71, jx_iald 72), (72, jx_cne 81 75), (75, jx_ldR 0 76), (76, jx_push (vi (-1)) 77), (77, jx_vI D 111 30 2 80), (80, jx_rI), (81, jx_incI 2 3 2 84), (84, jx_go 25), (87, jx_push (vi 0) 88), (88, jx_stI 2 3 89), (89, jx_ldI 2 90), (90, jx_ldI 1 91), (91, jx_cge 136 94), (94, jx_ldR 0 95), (95, jx_gR 30 33 (fun _ => 0) 98), (98, jx_push (vi 20) 100), (100, jx_ldI 2 101), (101, jx_push (vi 2) 102), (102, jx_dv (fun x y => x / y) 103), (103, jx_i2 (fun x y => x + y) 104), (104, jx_ldR 0 105), (105, jx_gR 30 45 (fun _ => 0) 108), (108, jx_ldI 2 109), (109, jx_iald 110), (110, jx_iast 111), (111, jx_ldR 0 112), (112, jx_gR 30 34 (fun _ => 0) 115), (115, jx_push (vi 20) 117), (117, jx_ldI 2 118), (118, jx_push (vi 2) 119), (119, jx_dv (fun x y => x / y) 120), (120, jx_i2 (fun x y => x + y) 121), (121, jx_ldR 0 122), (122, jx_gR 30 45 (fun _ => 0) 125), (125, jx_ldI 2 126), (126, jx_push (vi 1) 127), (127, jx_i2 (fun x y => x + y) 128), (128, jx_iald 129), (129, jx_iast 130), (130, jx_incI 2 3 2 133), (133, jx_go 89), (136, jx_ldR 0 137), (137, jx_push (vi 20) 139), (139, jx_ldI 1 140), (140, jx_push (vi 2) 141), (141, jx_dv (fun x y => x / y) 142), (142, jx_i2 (fun x y => x + y) 143), (143, jx_ldR 0 144), (144, jx_vI D 137 30 1 147), (147, jx_vI D 142 30 3 150), (150, jx_rI)]
set_option maxRecDepth 100000 in
theorem tl_m174 (D : jx_D) : ∀ pc, jx_tl (jx_look (tb_174 D) pc) := jx_tlm <| by
  unfold tb_174
  exact jx_all1 (tl_ldR) <|
  jx_all1 (tl_gI) <|
  jx_all1 (tl_stI) <|
  jx_all1 (tl_ldR) <|
  jx_all1 (tl_push) <|
  jx_all1 (tl_pI) <|
  jx_all1 (tl_ldI) <|
  jx_all1 (tl_push) <|
  jx_all1 (tl_dv) <|
  jx_all1 (tl_eq0) <|
  jx_all1 (tl_ldR) <|
  jx_all1 (tl_push) <|
  jx_all1 (tl_vI) <|
  jx_all1 (tl_rI) <|
  jx_all1 (tl_push) <|
  jx_all1 (tl_stI) <|
  jx_all1 (tl_ldI) <|
  jx_all1 (tl_ldI) <|
  jx_all1 (tl_cge) <|
  jx_all1 (tl_ldR) <|
  jx_all1 (tl_ldR) <|
  jx_all1 (tl_gR) <|
  jx_all1 (tl_ldI) <|
  jx_all1 (tl_iald) <|
  jx_all1 (tl_vI) <|
  jx_all1 (tl_eq0) <|
  jx_all1 (tl_ldR) <|
  jx_all1 (tl_ldR) <|
  jx_all1 (tl_gR) <|
  jx_all1 (tl_ldI) <|
  jx_all1 (tl_push) <|
  jx_all1 (tl_i2) <|
  jx_all1 (tl_iald) <|
  jx_all1 (tl_vI) <|
  jx_all1 (tl_eq0) <|
  jx_all1 (tl_ldR) <|
  jx_all1 (tl_gR) <|
  jx_all1 (tl_ldI) <|
  jx_all1 (tl_iald) <|
  jx_all1 (tl_ldR) <|
  jx_all1 (tl_gR) <|
  jx_all1 (tl_ldI) <|
  jx_all1 (tl_push) <|
  jx_all1 (tl_i2) <|
  jx_all1 (tl_iald) <|
  jx_all1 (tl_cne) <|
  jx_all1 (tl_ldR) <|
  jx_all1 (tl_push) <|
  jx_all1 (tl_vI) <|
  jx_all1 (tl_rI) <|
  jx_all1 (tl_incI) <|
  jx_all1 (tl_go) <|
  jx_all1 (tl_push) <|
  jx_all1 (tl_stI) <|
  jx_all1 (tl_ldI) <|
  jx_all1 (tl_ldI) <|
  jx_all1 (tl_cge) <|
  jx_all1 (tl_ldR) <|
  jx_all1 (tl_gR) <|
  jx_all1 (tl_push) <|
  jx_all1 (tl_ldI) <|
  jx_all1 (tl_push) <|
  jx_all1 (tl_dv) <|
  jx_all1 (tl_i2) <|
  jx_all1 (tl_ldR) <|
  jx_all1 (tl_gR) <|
  jx_all1 (tl_ldI) <|
  jx_all1 (tl_iald) <|
  jx_all1 (tl_iast) <|
  jx_all1 (tl_ldR) <|
  jx_all1 (tl_gR) <|
  jx_all1 (tl_push) <|
  jx_all1 (tl_ldI) <|
  jx_all1 (tl_push) <|
  jx_all1 (tl_dv) <|
  jx_all1 (tl_i2) <|
  jx_all1 (tl_ldR) <|
  jx_all1 (tl_gR) <|
  jx_all1 (tl_ldI) <|
  jx_all1 (tl_push) <|
  jx_all1 (tl_i2) <|
  jx_all1 (tl_iald) <|
  jx_all1 (tl_iast) <|
  jx_all1 (tl_incI) <|
  jx_all1 (tl_go) <|
  jx_all1 (tl_ldR) <|
  jx_all1 (tl_push) <|
  jx_all1 (tl_ldI) <|
  jx_all1 (tl_push) <|
  jx_all1 (tl_dv) <|
  jx_all1 (tl_i2) <|
  jx_all1 (tl_ldR) <|
  jx_all1 (tl_vI) <|
  jx_all1 (tl_vI) <|
  jx_all1 (tl_rI) <|
  jx_all0
def mk_174 : List (Nat × List Bool) := [(25, [true, true, true]), (75, [true, false, false]), (89, [true, true, true])]
/-- RoadBenchModel.way(II)I -/
noncomputable def tb_175 (D : jx_D) : List (Nat × jx_A) := [(0, jx_ldR 0 1), (1, jx_gI 30 14 4), (4, jx_stI 3 8 5), (5, jx_ldR 0 6), (6, jx_push (vi 0) 7), (7, jx_pI 30 14 10), (10, jx_ldR 0 11), (11, jx_ldI 1 12), (12, jx_vI D 118 30 2 15), (15, jx_eq0 26 18), (18, jx_ldR 0 19), (19, jx_ldI 2 20), (20, jx_vI D 118 30 2 23), (23, jx_ne0 32 26), (26, jx_ldR 0 27), (27, jx_push (vi (-1)) 28), (28, jx_vI D 111 30 2 31), (31, jx_rI), (32, jx_ldI 1 33), (33, jx_ldI 2 34), (34, jx_cne 44 37), (37, jx_ldR 0 38), (38, jx_push (vi (-3)) 40), (40, jx_vI D 111 30 2 43), (43, jx_rI), (44, jx_ldI 1 45), (45, jx_stI 4 8 47), (47, jx_push (vi 1) 48), (48, jx_ldI 1 49), (49, jx_i2 (fun x y => x <<< (y &&& 31)) 50), (50, jx_stI 5 8 52), (52, jx_push (vi 0) 53), (53, jx_stI 6 8 55), (55, jx_ldI 6 57), (57, jx_ldI 3 58), (58, jx_cge 170 61), (61, jx_ldR 0 62), (62, jx_gR 30 45 (fun _ => 0) 65), (65, jx_ldI 6 67), (67, jx_iald 68), (68, jx_stI 7 8 70), (70, jx_ldR 0 71), (71, jx_ldI 7 73), (73, jx_vI D 121 30 2 76), (76, jx_eq0 110 79), (79, jx_ldR 0 80), (80, jx_gR 30 33 (fun _ => 0) 83), (83, jx_ldI 7 85), (85, jx_iald 86), (86, jx_ldI 4 88), (88, jx_ceq 112 91), (91, jx_ldR 0 92), (92, jx_gI 30 2 95), (95, jx_ne0 110 98), (98, jx_ldR 0 99), (99, jx_gR 30 34 (fun _ => 0) 102), (102, jx_ldI 7 104), (104, jx_iald 105), (105, jx_ldI 4 107), (107, jx_ceq 112 110), (110, jx_push (vi 0) 111), (111, jx_rI), (112, jx_ldR 0 113), (113, jx_gR 30 33 (fun _ => 0) 116), (116, jx_ldI 7 118), (118, jx_iald 119), (119, jx_ldI 4 121), (121, jx_cne 134 124), (124, jx_ldR 0 125), (125, jx_gR 30 34 (fun _ => 0) 128), (128, jx_ldI 7 130), (130, jx_iald 131), (131, jx_go 141), (134, jx_ldR 0 135), (135, jx_gR 30 33 (fun _ => 0) 138), (138, jx_ldI 7 140), (140, jx_iald 141), (141, jx_stI 4 8 143), (143, jx_ldI 5 145), (145, jx_ldI 4 147), (147, jx_cI D 136 2 150), (150, jx_eq0 155 153), (153, jx_push (vi 0) 154), (154, jx_rI), (155, jx_ldI 5 157), (157, jx_push (vi 1) 158), (158, jx_ldI 4 160), (160, jx_i2 (fun x y => x <<< (y &&& 31)) 161), (161, jx_i2 (fun x y => x ||| y) 162), (162, jx_stI 5 8 164), (164, jx_incI 6 8 1 167), (167, jx_go 55), (170, jx_ldI 4 172), (172, jx_ldI 2 173), (173, jx_cne 180 176), (176, jx_push (vi 1) 177), (177, jx_go 181), (180, jx_push (vi 0) 181), (181, jx_rI)]
set_option maxRecDepth 100000 in
theorem tl_m175 (D : jx_D) : ∀ pc, jx_tl (jx_look (tb_175 D) pc) := jx_tlm <| by
  unfold tb_175
  exact jx_all1 (tl_ldR) <|
  jx_all1 (tl_gI) <|
  jx_all1 (tl_stI) <|
  jx_all1 (tl_ldR) <|
  jx_all1 (tl_push) <|
  jx_all1 (tl_pI) <|
  jx_all1 (tl_ldR) <|
  jx_all1 (tl_ldI) <|
  jx_all1 (tl_vI) <|
  jx_all1 (tl_eq0) <|
  jx_all1 (tl_ldR) <|
  jx_all1 (tl_ldI) <|
  jx_all1 (tl_vI) <|
  jx_all1 (tl_ne0) <|
  jx_all1 (tl_ldR) <|
  jx_all1 (tl_push) <|
  jx_all1 (tl_vI) <|
  jx_all1 (tl_rI) <|
  jx_all1 (tl_ldI) <|
  jx_all1 (tl_ldI) <|
  jx_all1 (tl_cne) <|
  jx_all1 (tl_ldR) <|
  jx_all1 (tl_push) <|
  jx_all1 (tl_vI) <|
  jx_all1 (tl_rI) <|
  jx_all1 (tl_ldI) <|
  jx_all1 (tl_stI) <|
  jx_all1 (tl_push) <|
  jx_all1 (tl_ldI) <|
  jx_all1 (tl_i2) <|
  jx_all1 (tl_stI) <|
  jx_all1 (tl_push) <|
  jx_all1 (tl_stI) <|
  jx_all1 (tl_ldI) <|
  jx_all1 (tl_ldI) <|
  jx_all1 (tl_cge) <|
  jx_all1 (tl_ldR) <|
  jx_all1 (tl_gR) <|
  jx_all1 (tl_ldI) <|
  jx_all1 (tl_iald) <|
  jx_all1 (tl_stI) <|
  jx_all1 (tl_ldR) <|
  jx_all1 (tl_ldI) <|
  jx_all1 (tl_vI) <|
  jx_all1 (tl_eq0) <|
  jx_all1 (tl_ldR) <|
  jx_all1 (tl_gR) <|
  jx_all1 (tl_ldI) <|
  jx_all1 (tl_iald) <|
  jx_all1 (tl_ldI) <|
  jx_all1 (tl_ceq) <|
  jx_all1 (tl_ldR) <|
  jx_all1 (tl_gI) <|
  jx_all1 (tl_ne0) <|
  jx_all1 (tl_ldR) <|
  jx_all1 (tl_gR) <|
  jx_all1 (tl_ldI) <|
  jx_all1 (tl_iald) <|
  jx_all1 (tl_ldI) <|
  jx_all1 (tl_ceq) <|
  jx_all1 (tl_push) <|
  jx_all1 (tl_rI) <|
  jx_all1 (tl_ldR) <|
  jx_all1 (tl_gR) <|
  jx_all1 (tl_ldI) <|
  jx_all1 (tl_iald) <|
  jx_all1 (tl_ldI) <|
  jx_all1 (tl_cne) <|
  jx_all1 (tl_ldR) <|
  jx_all1 (tl_gR) <|
  jx_all1 (tl_ldI) <|
  jx_all1 (tl_iald) <|
  jx_all1 (tl_go) <|
  jx_all1 (tl_ldR) <|
  jx_all1 (tl_gR) <|
  jx_all1 (tl_ldI) <|
  jx_all1 (tl_iald) <|
  jx_all1 (tl_stI) <|
  jx_all1 (tl_ldI) <|
  jx_all1 (tl_ldI) <|
  jx_all1 (tl_cI) <|
  jx_all1 (tl_eq0) <|
  jx_all1 (tl_push) <|
  jx_all1 (tl_rI) <|
  jx_all1 (tl_ldI) <|
  jx_all1 (tl_push) <|
  jx_all1 (tl_ldI) <|
  jx_all1 (tl_i2) <|
  jx_all1 (tl_i2) <|
  jx_all1 (tl_stI) <|
  jx_all1 (tl_incI) <|
  jx_all1 (tl_go) <|
  jx_all1 (tl_ldI) <|
  jx_all1 (tl_ldI) <|
  jx_all1 (tl_cne) <|
  jx_all1 (tl_push) <|
  jx_all1 (tl_go) <|
  jx_all1 (tl_push) <|
  jx_all1 (tl_rI) <|
  jx_all0
def mk_175 : List (Nat × List Bool) := [(26, [true, false, false, false, false, false, false, false]), (52, [true, false, true, true, true, true, false, false]), (55, [true, false, true, true, true, true, true, false]), (70, [true, false, true, true, true, true, true, true]), (110, [false, false, false, false, false, false, false, false]), (112, [true, false, true, true, true, true, true, true]), (141, [true, false, true, true, false, true, true, false]), (143, [true, false, true, true, true, true, true, false]), (164, [true, false, true, true, true, true, true, false]), (181, [false, false, false, false, false, false, false, false])]
/-- RoadBenchModel.keep(I)I -/
noncomputable def tb_176 (D : jx_D) : List (Nat × jx_A) := [(0, jx_ldI 1 1), (1, jx_cI D 177 1 4), (4, jx_ne0 13 7), (7, jx_ldR 0 8), (8, jx_push (vi (-1)) 9), (9, jx_vI D 111 30 2 12), (12, jx_rI), (13, jx_ldR 0 14), (14, jx_ldR 0 15), (15, jx_gR 30 39 (fun _ => 0) 18), (18, jx_push (vi 84) 20), (20, jx_ldI 1 21), (21, jx_i2 (fun x y => x * y) 22), (22, jx_vV D 115 30 3 25), (25, jx_ldR 0 26), (26, jx_gI 30 2 29), (29, jx_ne0 48 32), (32, jx_ldR 0 33), (33, jx_push (vi 0) 34), (34, jx_ldR 0 35), (35, jx_vI D 137 30 1 38), (38, jx_vI D 148 30 3 41), (41, jx_eq0 48 44), (44, jx_push (vi 1) 45), (45, jx_go 49), (48, jx_push (vi 0) 49), (49, jx_stI 2 3 50), (50, jx_ldR 0 51), (51, jx_gR 30 40 (fun _ => 0) 54), (54, jx_ldI 1 55), (55, jx_ldR 0 56), (56, jx_gI 30 2 59), (59, jx_eq0 66 62), (62, jx_push (vi 3) 63), (63, jx_go 102), (66, jx_ldR 0 67), (67, jx_gI 30 2 70), (70, jx_ne0 93 73), (73, jx_ldR 0 74), (74, jx_gI 30 0 77), (77, jx_push (vi 1) 78), (78, jx_cle 93 81), (81, jx_ldR 0 82), (82, jx_vI D 141 30 1 85), (85, jx_push (vi 2) 86), (86, jx_clt 93 89), (89, jx_push (vi 2) 90), (90, jx_go 102), (93, jx_ldI 2 94), (94, jx_eq0 101 97), (97, jx_push (vi 1) 98), (98, jx_go 102), (101, jx_push (vi 0) 102), (102, jx_iast 103), (103, jx_ldR 0 104), (104, jx_gR 30 40 (fun _ => 0) 107), (107, jx_ldI 1 108), (108, jx_iald 109), (109, jx_rI)]
set_option maxRecDepth 100000 in
theorem tl_m176 (D : jx_D) : ∀ pc, jx_tl (jx_look (tb_176 D) pc) := jx_tlm <| by
  unfold tb_176
  exact jx_all1 (tl_ldI) <|
  jx_all1 (tl_cI) <|
  jx_all1 (tl_ne0) <|
  jx_all1 (tl_ldR) <|
  jx_all1 (tl_push) <|
  jx_all1 (tl_vI) <|
  jx_all1 (tl_rI) <|
  jx_all1 (tl_ldR) <|
  jx_all1 (tl_ldR) <|
  jx_all1 (tl_gR) <|
  jx_all1 (tl_push) <|
  jx_all1 (tl_ldI) <|
  jx_all1 (tl_i2) <|
  jx_all1 (tl_vV) <|
  jx_all1 (tl_ldR) <|
  jx_all1 (tl_gI) <|
  jx_all1 (tl_ne0) <|
  jx_all1 (tl_ldR) <|
  jx_all1 (tl_push) <|
  jx_all1 (tl_ldR) <|
  jx_all1 (tl_vI) <|
  jx_all1 (tl_vI) <|
  jx_all1 (tl_eq0) <|
  jx_all1 (tl_push) <|
  jx_all1 (tl_go) <|
  jx_all1 (tl_push) <|
  jx_all1 (tl_stI) <|
  jx_all1 (tl_ldR) <|
  jx_all1 (tl_gR) <|
  jx_all1 (tl_ldI) <|
  jx_all1 (tl_ldR) <|
  jx_all1 (tl_gI) <|
  jx_all1 (tl_eq0) <|
  jx_all1 (tl_push) <|
  jx_all1 (tl_go) <|
  jx_all1 (tl_ldR) <|
  jx_all1 (tl_gI) <|
  jx_all1 (tl_ne0) <|
  jx_all1 (tl_ldR) <|
  jx_all1 (tl_gI) <|
  jx_all1 (tl_push) <|
  jx_all1 (tl_cle) <|
  jx_all1 (tl_ldR) <|
  jx_all1 (tl_vI) <|
  jx_all1 (tl_push) <|
  jx_all1 (tl_clt) <|
  jx_all1 (tl_push) <|
  jx_all1 (tl_go) <|
  jx_all1 (tl_ldI) <|
  jx_all1 (tl_eq0) <|
  jx_all1 (tl_push) <|
  jx_all1 (tl_go) <|
  jx_all1 (tl_push) <|
  jx_all1 (tl_iast) <|
  jx_all1 (tl_ldR) <|
  jx_all1 (tl_gR) <|
  jx_all1 (tl_ldI) <|
  jx_all1 (tl_iald) <|
  jx_all1 (tl_rI) <|
  jx_all0
def mk_176 : List (Nat × List Bool) := [(48, [true, true, false]), (49, [true, true, false]), (93, [true, true, true]), (102, [true, true, false])]
/-- RoadBenchModel.isSlot(I)Z -/
noncomputable def tb_177 (D : jx_D) : List (Nat × jx_A) := [(0, jx_ldI 0 1), (1, jx_lt0 13 4), (4, jx_ldI 0 5), (5, jx_push (vi 4) 6), (6, jx_cge 13 9), (9, jx_push (vi 1) 10), (10, jx_go 14), (13, jx_push (vi 0) 14), (14, jx_rZ)]
set_option maxRecDepth 100000 in
theorem tl_m177 (D : jx_D) : ∀ pc, jx_tl (jx_look (tb_177 D) pc) := jx_tlm <| by
  unfold tb_177
  exact jx_all1 (tl_ldI) <|
  jx_all1 (tl_lt0) <|
  jx_all1 (tl_ldI) <|
  jx_all1 (tl_push) <|
  jx_all1 (tl_cge) <|
  jx_all1 (tl_push) <|
  jx_all1 (tl_go) <|
  jx_all1 (tl_push) <|
  jx_all1 (tl_rZ) <|
  jx_all0
def mk_177 : List (Nat × List Bool) := [(13, [false]), (14, [false])]
/-- RoadBenchModel.bring(I)I -/
noncomputable def tb_178 (D : jx_D) : List (Nat × jx_A) := [(0, jx_ldI 1 1), (1, jx_cI D 177 1 4), (4, jx_ne0 13 7), (7, jx_ldR 0 8), (8, jx_push (vi (-1)) 9), (9, jx_vI D 111 30 2 12), (12, jx_rI), (13, jx_ldR 0 14), (14, jx_gR 30 40 (fun _ => 0) 17), (17, jx_ldI 1 18), (18, jx_iald 19), (19, jx_ge0 29 22), (22, jx_ldR 0 23), (23, jx_push (vi (-6)) 25), (25, jx_vI D 111 30 2 28), (28, jx_rI), (29, jx_ldR 0 30), (30, jx_vV D 114 30 1 33), (33, jx_ldR 0 34), (34, jx_ldR 0 35), (35, jx_gR 30 39 (fun _ => 0) 38), (38, jx_push (vi 84) 40), (40, jx_ldI 1 41), (41, jx_i2 (fun x y => x * y) 42), (42, jx_vV D 112 30 3 45), (45, jx_ldR 0 46), (46, jx_gI 30 0 49), (49, jx_rI)]
set_option maxRecDepth 100000 in
theorem tl_m178 (D : jx_D) : ∀ pc, jx_tl (jx_look (tb_178 D) pc) := jx_tlm <| by
  unfold tb_178
  exact jx_all1 (tl_ldI) <|
  jx_all1 (tl_cI) <|
  jx_all1 (tl_ne0) <|
  jx_all1 (tl_ldR) <|
  jx_all1 (tl_push) <|
  jx_all1 (tl_vI) <|
  jx_all1 (tl_rI) <|
  jx_all1 (tl_ldR) <|
  jx_all1 (tl_gR) <|
  jx_all1 (tl_ldI) <|
  jx_all1 (tl_iald) <|
  jx_all1 (tl_ge0) <|
  jx_all1 (tl_ldR) <|
  jx_all1 (tl_push) <|
  jx_all1 (tl_vI) <|
  jx_all1 (tl_rI) <|
  jx_all1 (tl_ldR) <|
  jx_all1 (tl_vV) <|
  jx_all1 (tl_ldR) <|
  jx_all1 (tl_ldR) <|
  jx_all1 (tl_gR) <|
  jx_all1 (tl_push) <|
  jx_all1 (tl_ldI) <|
  jx_all1 (tl_i2) <|
  jx_all1 (tl_vV) <|
  jx_all1 (tl_ldR) <|
  jx_all1 (tl_gI) <|
  jx_all1 (tl_rI) <|
  jx_all0
def mk_178 : List (Nat × List Bool) := []
/-- RoadBenchModel.as(II)I -/
noncomputable def tb_179 (D : jx_D) : List (Nat × jx_A) := [(0, jx_ldI 1 1), (1, jx_cI D 177 1 4), (4, jx_eq0 16 7), (7, jx_ldI 2 8), (8, jx_lt0 16 11), (11, jx_ldI 2 12), (12, jx_push (vi 3) 13), (13, jx_cle 22 16), (16, jx_ldR 0 17), (17, jx_push (vi (-1)) 18), (18, jx_vI D 111 30 2 21), (21, jx_rI), (22, jx_ldR 0 23), (23, jx_gR 30 40 (fun _ => 0) 26), (26, jx_ldI 1 27), (27, jx_iald 28), (28, jx_ge0 38 31), (31, jx_ldR 0 32), (32, jx_push (vi (-6)) 34), (34, jx_vI D 111 30 2 37), (37, jx_rI), (38, jx_ldR 0 39), (39, jx_gR 30 40 (fun _ => 0) 42), (42, jx_ldI 1 43), (43, jx_iald 44), (44, jx_stI 3 5 45), (45, jx_ldI 3 46), (46, jx_ldI 2 47), (47, jx_ceq 64 50), (50, jx_ldI 2 51), (51, jx_eq0 64 54), (54, jx_ldI 2 55), (55, jx_push (vi 1) 56), (56, jx_cne 68 59), (59, jx_ldI 3 60), (60, jx_push (vi 2) 61), (61, jx_cne 68 64), (64, jx_push (vi 1) 65), (65, jx_go 69), (68, jx_push (vi 0) 69), (69, jx_stI 4 5 71), (71, jx_ldI 4 73), (73, jx_eq0 90 76), (76, jx_ldR 0 77), (77, jx_gR 30 39 (fun _ => 0) 80), (80, jx_push (vi 84) 82), (82, jx_ldI 1 83), (83, jx_i2 (fun x y => x * y) 84), (84, jx_push (vi 1) 85), (85, jx_i2 (fun x y => x + y) 86), (86, jx_iald 87), (87, jx_go 96), (90, jx_ldR 0 91), (91, jx_push (vi (-4)) 93), (93, jx_vI D 111 30 2 96), (96, jx_rI)]
set_option maxRecDepth 100000 in
theorem tl_m179 (D : jx_D) : ∀ pc, jx_tl (jx_look (tb_179 D) pc) := jx_tlm <| by
  unfold tb_179
  exact jx_all1 (tl_ldI) <|
  jx_all1 (tl_cI) <|
  jx_all1 (tl_eq0) <|
  jx_all1 (tl_ldI) <|
  jx_all1 (tl_lt0) <|
  jx_all1 (tl_ldI) <|
  jx_all1 (tl_push) <|
  jx_all1 (tl_cle) <|
  jx_all1 (tl_ldR) <|
  jx_all1 (tl_push) <|
  jx_all1 (tl_vI) <|
  jx_all1 (tl_rI) <|
  jx_all1 (tl_ldR) <|
  jx_all1 (tl_gR) <|
  jx_all1 (tl_ldI) <|
  jx_all1 (tl_iald) <|
  jx_all1 (tl_ge0) <|
  jx_all1 (tl_ldR) <|
  jx_all1 (tl_push) <|
  jx_all1 (tl_vI) <|
  jx_all1 (tl_rI) <|
  jx_all1 (tl_ldR) <|
  jx_all1 (tl_gR) <|
  jx_all1 (tl_ldI) <|
  jx_all1 (tl_iald) <|
  jx_all1 (tl_stI) <|
  jx_all1 (tl_ldI) <|
  jx_all1 (tl_ldI) <|
  jx_all1 (tl_ceq) <|
  jx_all1 (tl_ldI) <|
  jx_all1 (tl_eq0) <|
  jx_all1 (tl_ldI) <|
  jx_all1 (tl_push) <|
  jx_all1 (tl_cne) <|
  jx_all1 (tl_ldI) <|
  jx_all1 (tl_push) <|
  jx_all1 (tl_cne) <|
  jx_all1 (tl_push) <|
  jx_all1 (tl_go) <|
  jx_all1 (tl_push) <|
  jx_all1 (tl_stI) <|
  jx_all1 (tl_ldI) <|
  jx_all1 (tl_eq0) <|
  jx_all1 (tl_ldR) <|
  jx_all1 (tl_gR) <|
  jx_all1 (tl_push) <|
  jx_all1 (tl_ldI) <|
  jx_all1 (tl_i2) <|
  jx_all1 (tl_push) <|
  jx_all1 (tl_i2) <|
  jx_all1 (tl_iald) <|
  jx_all1 (tl_go) <|
  jx_all1 (tl_ldR) <|
  jx_all1 (tl_push) <|
  jx_all1 (tl_vI) <|
  jx_all1 (tl_rI) <|
  jx_all0
def mk_179 : List (Nat × List Bool) := [(16, [true, false, false, false, false]), (45, [true, true, true, true, false]), (64, [true, true, false, false, false]), (68, [true, true, false, false, false]), (69, [true, true, false, false, false]), (96, [false, false, false, false, false])]
/-- RoadBenchModel.told(I)I -/
noncomputable def tb_180 (D : jx_D) : List (Nat × jx_A) := [(0, jx_ldI 1 1), (1, jx_lt0 10 4), (4, jx_ldI 1 5), (5, jx_push (vi 6) 7), (7, jx_cle 16 10), (10, jx_ldR 0 11), (11, jx_push (vi (-1)) 12), (12, jx_vI D 111 30 2 15), (15, jx_rI), (16, jx_ldI 1 17), (17, jx_sw [(0, 56), (1, 61), (2, 66), (3, 79), (4, 97), (5, 102)] 111), (56, jx_ldR 0 57), (57, jx_gI 30 0 60), (60, jx_rI), (61, jx_ldR 0 62), (62, jx_gI 30 1 65), (65, jx_rI), (66, jx_ldR 0 67), (67, jx_gI 30 2 70), (70, jx_eq0 77 73), (73, jx_push (vi 1) 74), (74, jx_go 78), (77, jx_push (vi 0) 78), (78, jx_rI), (79, jx_ldR 0 80), (80, jx_push (vi 0) 81), (81, jx_ldR 0 82), (82, jx_vI D 137 30 1 85), (85, jx_vI D 148 30 3 88), (88, jx_eq0 95 91), (91, jx_push (vi 1) 92), (92, jx_go 96), (95, jx_push (vi 0) 96), (96, jx_rI), (97, jx_ldR 0 98), (98, jx_gI 30 14 101), (101, jx_rI), (102, jx_ldR 0 103), (103, jx_ldR 0 104), (104, jx_vI D 137 30 1 107), (107, jx_vI D 155 30 2 110), (110, jx_rI), (111, jx_ldR 0 112), (112, jx_gI 30 16 115), (115, jx_rI)]
set_option maxRecDepth 100000 in
theorem tl_m180 (D : jx_D) : ∀ pc, jx_tl (jx_look (tb_180 D) pc) := jx_tlm <| by
  unfold tb_180
  exact jx_all1 (tl_ldI) <|
  jx_all1 (tl_lt0) <|
  jx_all1 (tl_ldI) <|
  jx_all1 (tl_push) <|
  jx_all1 (tl_cle) <|
  jx_all1 (tl_ldR) <|
  jx_all1 (tl_push) <|
  jx_all1 (tl_vI) <|
  jx_all1 (tl_rI) <|
  jx_all1 (tl_ldI) <|
  jx_all1 (tl_sw) <|
  jx_all1 (tl_ldR) <|
  jx_all1 (tl_gI) <|
  jx_all1 (tl_rI) <|
  jx_all1 (tl_ldR) <|
  jx_all1 (tl_gI) <|
  jx_all1 (tl_rI) <|
  jx_all1 (tl_ldR) <|
  jx_all1 (tl_gI) <|
  jx_all1 (tl_eq0) <|
  jx_all1 (tl_push) <|
  jx_all1 (tl_go) <|
  jx_all1 (tl_push) <|
  jx_all1 (tl_rI) <|
  jx_all1 (tl_ldR) <|
  jx_all1 (tl_push) <|
  jx_all1 (tl_ldR) <|
  jx_all1 (tl_vI) <|
  jx_all1 (tl_vI) <|
  jx_all1 (tl_eq0) <|
  jx_all1 (tl_push) <|
  jx_all1 (tl_go) <|
  jx_all1 (tl_push) <|
  jx_all1 (tl_rI) <|
  jx_all1 (tl_ldR) <|
  jx_all1 (tl_gI) <|
  jx_all1 (tl_rI) <|
  jx_all1 (tl_ldR) <|
  jx_all1 (tl_ldR) <|
  jx_all1 (tl_vI) <|
  jx_all1 (tl_vI) <|
  jx_all1 (tl_rI) <|
  jx_all1 (tl_ldR) <|
  jx_all1 (tl_gI) <|
  jx_all1 (tl_rI) <|
  jx_all0
def mk_180 : List (Nat × List Bool) := [(10, [true, false]), (78, [false, false]), (96, [false, false])]
