noncomputable def jx_tabs_0 (D : jx_D) : List (List (Nat × jx_A) × List (Nat × List Bool)) := [([], []), (tb_1 D, mk_1), ([], []), (tb_3 D, mk_3), (tb_4 D, mk_4), (tb_5 D, mk_5), (tb_6 D, mk_6), (tb_7 D, mk_7), (tb_8 D, mk_8), (tb_9 D, mk_9), (tb_10 D, mk_10), (tb_11 D, mk_11), (tb_12 D, mk_12), (tb_13 D, mk_13), (tb_14 D, mk_14), (tb_15 D, mk_15), (tb_16 D, mk_16), (tb_17 D, mk_17), (tb_18 D, mk_18), (tb_19 D, mk_19), (tb_20 D, mk_20), (tb_21 D, mk_21), (tb_22 D, mk_22), (tb_23 D, mk_23), (tb_24 D, mk_24), (tb_25 D, mk_25), (tb_26 D, mk_26), (tb_27 D, mk_27), (tb_28 D, mk_28), (tb_29 D, mk_29)]
noncomputable def jx_tabs_1 (D : jx_D) : List (List (Nat × jx_A) × List (Nat × List Bool)) := [(tb_30 D, mk_30), (tb_31 D, mk_31), (tb_32 D, mk_32), (tb_33 D, mk_33), (tb_34 D, mk_34), (tb_35 D, mk_35), (tb_36 D, mk_36), (tb_37 D, mk_37), (tb_38 D, mk_38), (tb_39 D, mk_39), (tb_40 D, mk_40), (tb_41 D, mk_41), (tb_42 D, mk_42), (tb_43 D, mk_43), (tb_44 D, mk_44), (tb_45 D, mk_45), (tb_46 D, mk_46), (tb_47 D, mk_47), (tb_48 D, mk_48), (tb_49 D, mk_49), (tb_50 D, mk_50), (tb_51 D, mk_51), (tb_52 D, mk_52), (tb_53 D, mk_53), (tb_54 D, mk_54), (tb_55 D, mk_55), (tb_56 D, mk_56), (tb_57 D, mk_57), (tb_58 D, mk_58), (tb_59 D, mk_59)]
noncomputable def jx_tabs_2 (D : jx_D) : List (List (Nat × jx_A) × List (Nat × List Bool)) := [(tb_60 D, mk_60), (tb_61 D, mk_61), (tb_62 D, mk_62), (tb_63 D, mk_63), (tb_64 D, mk_64), (tb_65 D, mk_65), (tb_66 D, mk_66), (tb_67 D, mk_67), (tb_68 D, mk_68), (tb_69 D, mk_69), (tb_70 D, mk_70), (tb_71 D, mk_71), (tb_72 D, mk_72), (tb_73 D, mk_73), (tb_74 D, mk_74), (tb_75 D, mk_75), (tb_76 D, mk_76), (tb_77 D, mk_77), (tb_78 D, mk_78), (tb_79 D, mk_79), (tb_80 D, mk_80), (tb_81 D, mk_81), (tb_82 D, mk_82), (tb_83 D, mk_83), (tb_84 D, mk_84), (tb_85 D, mk_85), (tb_86 D, mk_86), (tb_87 D, mk_87), (tb_88 D, mk_88), (tb_89 D, mk_89)]
noncomputable def jx_tabs_3 (D : jx_D) : List (List (Nat × jx_A) × List (Nat × List Bool)) := [(tb_90 D, mk_90), (tb_91 D, mk_91), (tb_92 D, mk_92), (tb_93 D, mk_93), (tb_94 D, mk_94), (tb_95 D, mk_95), (tb_96 D, mk_96), (tb_97 D, mk_97), (tb_98 D, mk_98), (tb_99 D, mk_99), (tb_100 D, mk_100), (tb_101 D, mk_101), (tb_102 D, mk_102), (tb_103 D, mk_103), (tb_104 D, mk_104), (tb_105 D, mk_105), (tb_106 D, mk_106), (tb_107 D, mk_107), (tb_108 D, mk_108), (tb_109 D, mk_109), (tb_110 D, mk_110), (tb_111 D, mk_111), (tb_112 D, mk_112), (tb_113 D, mk_113), (tb_114 D, mk_114), (tb_115 D, mk_115), (tb_116 D, mk_116), (tb_117 D, mk_117), (tb_118 D, mk_118), (tb_119 D, mk_119)]
noncomputable def jx_tabs_4 (D : jx_D) : List (List (Nat × jx_A) × List (Nat × List Bool)) := [(tb_120 D, mk_120), (tb_121 D, mk_121), (tb_122 D, mk_122), (tb_123 D, mk_123), (tb_124 D, mk_124), (tb_125 D, mk_125), (tb_126 D, mk_126), (tb_127 D, mk_127), (tb_128 D, mk_128), (tb_129 D, mk_129), (tb_130 D, mk_130), (tb_131 D, mk_131), (tb_132 D, mk_132), (tb_133 D, mk_133), (tb_134 D, mk_134), (tb_135 D, mk_135), (tb_136 D, mk_136), (tb_137 D, mk_137), (tb_138 D, mk_138), (tb_139 D, mk_139), (tb_140 D, mk_140), (tb_141 D, mk_141), (tb_142 D, mk_142), (tb_143 D, mk_143), (tb_144 D, mk_144), (tb_145 D, mk_145), (tb_146 D, mk_146), (tb_147 D, mk_147), (tb_148 D, mk_148), (tb_149 D, mk_149)]
noncomputable def jx_tabs_5 (D : jx_D) : List (List (Nat × jx_A) × List (Nat × List Bool)) := [(tb_150 D, mk_150), (tb_151 D, mk_151), (tb_152 D, mk_152), (tb_153 D, mk_153), (tb_154 D, mk_154), (tb_155 D, mk_155), (tb_156 D, mk_156), (tb_157 D, mk_157), (tb_158 D, mk_158), (tb_159 D, mk_159), (tb_160 D, mk_160), (tb_161 D, mk_161), (tb_162 D, mk_162), (tb_163 D, mk_163), (tb_164 D, mk_164), (tb_165 D, mk_165), (tb_166 D, mk_166), (tb_167 D, mk_167), (tb_168 D, mk_168), (tb_169 D, mk_169), (tb_170 D, mk_170), (tb_171 D, mk_171), (tb_172 D, mk_172), (tb_173 D, mk_173), (tb_174 D, mk_174), (tb_175 D, mk_175), (tb_176 D, mk_176), (tb_177 D, mk_177), (tb_178 D, mk_178), (tb_179 D, mk_179)]
noncomputable def jx_tabs_6 (D : jx_D) : List (List (Nat × jx_A) × List (Nat × List Bool)) := [(tb_180 D, mk_180)]
noncomputable def jx_tabs (D : jx_D) : List (List (Nat × jx_A) × List (Nat × List Bool)) := jx_tabs_0 D ++ (jx_tabs_1 D ++ (jx_tabs_2 D ++ (jx_tabs_3 D ++ (jx_tabs_4 D ++ (jx_tabs_5 D ++ (jx_tabs_6 D))))))
def jx_pk : List (List (Nat × jx_A) × List (Nat × List Bool)) → Nat → List (Nat × jx_A) × List (Nat × List Bool)
  | [], _ => ([], [])
  | a :: _, 0 => a
  | _ :: t, n + 1 => jx_pk t n
noncomputable def jx_tb (D : jx_D) (y : Nat) : List (Nat × jx_A) × List (Nat × List Bool) := jx_pk (jx_tabs D) y
/-- what a method answers, with so many calls one in another -/
noncomputable def DM : Nat → jx_D
  | 0 => fun _ _ _ => none
  | d + 1 => fun y a h => bif jx_c1 a && Nat.ble a.length (jx_m y).2.2.1 then jx_den (jx_look (jx_tb (DM d) y).1) (jx_nms (jx_tb (DM d) y).2) 0 (jx_nms (jx_tb (DM d) y).2 0 (jx_pad (jx_m y).2.2.1 a)) [] h else none
def jx_TS (D : jx_D) (y : Nat) (q : List (Nat × jx_A) × List (Nat × List Bool)) : Prop := (q.1 = [] ∨ plainName (jx_m y).1.cls = true) ∧ jx_all (fun q => jx_Snd (jx_m y).2.1 (jx_m y).2.2.1 (jx_m y).1.cls (jx_m y).2.2.2 D q.1 q.2) q.1
def jx_ali (P : Nat → List (Nat × jx_A) × List (Nat × List Bool) → Prop) : Nat → List (List (Nat × jx_A) × List (Nat × List Bool)) → Prop
  | _, [] => True
  | i, q :: r => P i q ∧ jx_ali P (i + 1) r
theorem jx_ali_0 {P : Nat → List (Nat × jx_A) × List (Nat × List Bool) → Prop} {i : Nat} : jx_ali P i [] := trivial
theorem jx_ali_1 {P : Nat → List (Nat × jx_A) × List (Nat × List Bool) → Prop} {i : Nat} {q : List (Nat × jx_A) × List (Nat × List Bool)} {r : List (List (Nat × jx_A) × List (Nat × List Bool))} (h : P i q) (h2 : jx_ali P (i + 1) r) : jx_ali P i (q :: r) := ⟨h, h2⟩
theorem jx_ali_app {P : Nat → List (Nat × jx_A) × List (Nat × List Bool) → Prop} : ∀ {a b : List (List (Nat × jx_A) × List (Nat × List Bool))} {i j : Nat}, jx_ali P i a → j = i + a.length → jx_ali P j b → jx_ali P i (a ++ b) := by
  intro a
  induction a with
  | nil => intro b i j _ hj h; subst hj; exact h
  | cons q r ih =>
    intro b i j h hj h2
    exact ⟨h.1, ih h.2 (by rw [hj]; simp only [List.length_cons]; omega) h2⟩
theorem jx_ali_pk {D : jx_D} : ∀ {t : List (List (Nat × jx_A) × List (Nat × List Bool))} {i : Nat}, jx_ali (jx_TS D) i t → ∀ y, i + y < i + t.length → jx_TS D (i + y) (jx_pk t y) := by
  intro t
  induction t with
  | nil => intro i _ y hy; simp at hy; omega
  | cons q r ih =>
    intro i h y hy
    cases y with
    | zero => exact h.1
    | succ y =>
      have := ih h.2 y (by simp only [List.length_cons] at hy; omega)
      rw [show i + (y + 1) = i + 1 + y by omega]
      exact this
theorem jx_pk_out : ∀ {t : List (List (Nat × jx_A) × List (Nat × List Bool))} {y : Nat}, t.length ≤ y → jx_pk t y = ([], []) := by
  intro t
  induction t with
  | nil => intro y _; cases y <;> rfl
  | cons q r ih =>
    intro y hy
    cases y with
    | zero => simp at hy
    | succ y => exact ih (by simpa using hy)
set_option maxRecDepth 100000 in
theorem jx_als_0 (D : jx_D) : jx_ali (jx_TS D) 0 (jx_tabs_0 D) := by
  unfold jx_tabs_0
  exact jx_ali_1 (show jx_TS D 0 ([], []) from ⟨Or.inl rfl, trivial⟩) <|
    jx_ali_1 (show jx_TS D 1 (tb_1 D, mk_1) from ⟨Or.inr (by decide +kernel), sn_1 D⟩) <|
    jx_ali_1 (show jx_TS D 2 ([], []) from ⟨Or.inl rfl, trivial⟩) <|
    jx_ali_1 (show jx_TS D 3 (tb_3 D, mk_3) from ⟨Or.inr (by decide +kernel), sn_3 D⟩) <|
    jx_ali_1 (show jx_TS D 4 (tb_4 D, mk_4) from ⟨Or.inr (by decide +kernel), sn_4 D⟩) <|
    jx_ali_1 (show jx_TS D 5 (tb_5 D, mk_5) from ⟨Or.inr (by decide +kernel), sn_5 D⟩) <|
    jx_ali_1 (show jx_TS D 6 (tb_6 D, mk_6) from ⟨Or.inr (by decide +kernel), sn_6 D⟩) <|
    jx_ali_1 (show jx_TS D 7 (tb_7 D, mk_7) from ⟨Or.inr (by decide +kernel), sn_7 D⟩) <|
    jx_ali_1 (show jx_TS D 8 (tb_8 D, mk_8) from ⟨Or.inr (by decide +kernel), sn_8 D⟩) <|
    jx_ali_1 (show jx_TS D 9 (tb_9 D, mk_9) from ⟨Or.inr (by decide +kernel), sn_9 D⟩) <|
    jx_ali_1 (show jx_TS D 10 (tb_10 D, mk_10) from ⟨Or.inr (by decide +kernel), sn_10 D⟩) <|
    jx_ali_1 (show jx_TS D 11 (tb_11 D, mk_11) from ⟨Or.inr (by decide +kernel), sn_11 D⟩) <|
    jx_ali_1 (show jx_TS D 12 (tb_12 D, mk_12) from ⟨Or.inr (by decide +kernel), sn_12 D⟩) <|
    jx_ali_1 (show jx_TS D 13 (tb_13 D, mk_13) from ⟨Or.inr (by decide +kernel), sn_13 D⟩) <|
    jx_ali_1 (show jx_TS D 14 (tb_14 D, mk_14) from ⟨Or.inr (by decide +kernel), sn_14 D⟩) <|
    jx_ali_1 (show jx_TS D 15 (tb_15 D, mk_15) from ⟨Or.inr (by decide +kernel), sn_15 D⟩) <|
    jx_ali_1 (show jx_TS D 16 (tb_16 D, mk_16) from ⟨Or.inr (by decide +kernel), sn_16 D⟩) <|
    jx_ali_1 (show jx_TS D 17 (tb_17 D, mk_17) from ⟨Or.inr (by decide +kernel), sn_17 D⟩) <|
    jx_ali_1 (show jx_TS D 18 (tb_18 D, mk_18) from ⟨Or.inr (by decide +kernel), sn_18 D⟩) <|
    jx_ali_1 (show jx_TS D 19 (tb_19 D, mk_19) from ⟨Or.inr (by decide +kernel), sn_19 D⟩) <|
    jx_ali_1 (show jx_TS D 20 (tb_20 D, mk_20) from ⟨Or.inr (by decide +kernel), sn_20 D⟩) <|
    jx_ali_1 (show jx_TS D 21 (tb_21 D, mk_21) from ⟨Or.inr (by decide +kernel), sn_21 D⟩) <|
    jx_ali_1 (show jx_TS D 22 (tb_22 D, mk_22) from ⟨Or.inr (by decide +kernel), sn_22 D⟩) <|
    jx_ali_1 (show jx_TS D 23 (tb_23 D, mk_23) from ⟨Or.inr (by decide +kernel), sn_23 D⟩) <|
    jx_ali_1 (show jx_TS D 24 (tb_24 D, mk_24) from ⟨Or.inr (by decide +kernel), sn_24 D⟩) <|
    jx_ali_1 (show jx_TS D 25 (tb_25 D, mk_25) from ⟨Or.inr (by decide +kernel), sn_25 D⟩) <|
    jx_ali_1 (show jx_TS D 26 (tb_26 D, mk_26) from ⟨Or.inr (by decide +kernel), sn_26 D⟩) <|
    jx_ali_1 (show jx_TS D 27 (tb_27 D, mk_27) from ⟨Or.inr (by decide +kernel), sn_27 D⟩) <|
    jx_ali_1 (show jx_TS D 28 (tb_28 D, mk_28) from ⟨Or.inr (by decide +kernel), sn_28 D⟩) <|
    jx_ali_1 (show jx_TS D 29 (tb_29 D, mk_29) from ⟨Or.inr (by decide +kernel), sn_29 D⟩) <|
    jx_ali_0
set_option maxRecDepth 100000 in
theorem jx_als_1 (D : jx_D) : jx_ali (jx_TS D) 30 (jx_tabs_1 D) := by
  unfold jx_tabs_1
  exact jx_ali_1 (show jx_TS D 30 (tb_30 D, mk_30) from ⟨Or.inr (by decide +kernel), sn_30 D⟩) <|
    jx_ali_1 (show jx_TS D 31 (tb_31 D, mk_31) from ⟨Or.inr (by decide +kernel), sn_31 D⟩) <|
    jx_ali_1 (show jx_TS D 32 (tb_32 D, mk_32) from ⟨Or.inr (by decide +kernel), sn_32 D⟩) <|
    jx_ali_1 (show jx_TS D 33 (tb_33 D, mk_33) from ⟨Or.inr (by decide +kernel), sn_33 D⟩) <|
    jx_ali_1 (show jx_TS D 34 (tb_34 D, mk_34) from ⟨Or.inr (by decide +kernel), sn_34 D⟩) <|
    jx_ali_1 (show jx_TS D 35 (tb_35 D, mk_35) from ⟨Or.inr (by decide +kernel), sn_35 D⟩) <|
    jx_ali_1 (show jx_TS D 36 (tb_36 D, mk_36) from ⟨Or.inr (by decide +kernel), sn_36 D⟩) <|
    jx_ali_1 (show jx_TS D 37 (tb_37 D, mk_37) from ⟨Or.inr (by decide +kernel), sn_37 D⟩) <|
    jx_ali_1 (show jx_TS D 38 (tb_38 D, mk_38) from ⟨Or.inr (by decide +kernel), sn_38 D⟩) <|
    jx_ali_1 (show jx_TS D 39 (tb_39 D, mk_39) from ⟨Or.inr (by decide +kernel), sn_39 D⟩) <|
    jx_ali_1 (show jx_TS D 40 (tb_40 D, mk_40) from ⟨Or.inr (by decide +kernel), sn_40 D⟩) <|
    jx_ali_1 (show jx_TS D 41 (tb_41 D, mk_41) from ⟨Or.inr (by decide +kernel), sn_41 D⟩) <|
    jx_ali_1 (show jx_TS D 42 (tb_42 D, mk_42) from ⟨Or.inr (by decide +kernel), sn_42 D⟩) <|
    jx_ali_1 (show jx_TS D 43 (tb_43 D, mk_43) from ⟨Or.inr (by decide +kernel), sn_43 D⟩) <|
    jx_ali_1 (show jx_TS D 44 (tb_44 D, mk_44) from ⟨Or.inr (by decide +kernel), sn_44 D⟩) <|
    jx_ali_1 (show jx_TS D 45 (tb_45 D, mk_45) from ⟨Or.inr (by decide +kernel), sn_45 D⟩) <|
    jx_ali_1 (show jx_TS D 46 (tb_46 D, mk_46) from ⟨Or.inr (by decide +kernel), sn_46 D⟩) <|
    jx_ali_1 (show jx_TS D 47 (tb_47 D, mk_47) from ⟨Or.inr (by decide +kernel), sn_47 D⟩) <|
    jx_ali_1 (show jx_TS D 48 (tb_48 D, mk_48) from ⟨Or.inr (by decide +kernel), sn_48 D⟩) <|
    jx_ali_1 (show jx_TS D 49 (tb_49 D, mk_49) from ⟨Or.inr (by decide +kernel), sn_49 D⟩) <|
    jx_ali_1 (show jx_TS D 50 (tb_50 D, mk_50) from ⟨Or.inr (by decide +kernel), sn_50 D⟩) <|
    jx_ali_1 (show jx_TS D 51 (tb_51 D, mk_51) from ⟨Or.inr (by decide +kernel), sn_51 D⟩) <|
    jx_ali_1 (show jx_TS D 52 (tb_52 D, mk_52) from ⟨Or.inr (by decide +kernel), sn_52 D⟩) <|
    jx_ali_1 (show jx_TS D 53 (tb_53 D, mk_53) from ⟨Or.inr (by decide +kernel), sn_53 D⟩) <|
    jx_ali_1 (show jx_TS D 54 (tb_54 D, mk_54) from ⟨Or.inr (by decide +kernel), sn_54 D⟩) <|
    jx_ali_1 (show jx_TS D 55 (tb_55 D, mk_55) from ⟨Or.inr (by decide +kernel), sn_55 D⟩) <|
    jx_ali_1 (show jx_TS D 56 (tb_56 D, mk_56) from ⟨Or.inr (by decide +kernel), sn_56 D⟩) <|
    jx_ali_1 (show jx_TS D 57 (tb_57 D, mk_57) from ⟨Or.inr (by decide +kernel), sn_57 D⟩) <|
    jx_ali_1 (show jx_TS D 58 (tb_58 D, mk_58) from ⟨Or.inr (by decide +kernel), sn_58 D⟩) <|
    jx_ali_1 (show jx_TS D 59 (tb_59 D, mk_59) from ⟨Or.inr (by decide +kernel), sn_59 D⟩) <|
    jx_ali_0
set_option maxRecDepth 100000 in
theorem jx_als_2 (D : jx_D) : jx_ali (jx_TS D) 60 (jx_tabs_2 D) := by
  unfold jx_tabs_2
  exact jx_ali_1 (show jx_TS D 60 (tb_60 D, mk_60) from ⟨Or.inr (by decide +kernel), sn_60 D⟩) <|
    jx_ali_1 (show jx_TS D 61 (tb_61 D, mk_61) from ⟨Or.inr (by decide +kernel), sn_61 D⟩) <|
    jx_ali_1 (show jx_TS D 62 (tb_62 D, mk_62) from ⟨Or.inr (by decide +kernel), sn_62 D⟩) <|
    jx_ali_1 (show jx_TS D 63 (tb_63 D, mk_63) from ⟨Or.inr (by decide +kernel), sn_63 D⟩) <|
    jx_ali_1 (show jx_TS D 64 (tb_64 D, mk_64) from ⟨Or.inr (by decide +kernel), sn_64 D⟩) <|
    jx_ali_1 (show jx_TS D 65 (tb_65 D, mk_65) from ⟨Or.inr (by decide +kernel), sn_65 D⟩) <|
    jx_ali_1 (show jx_TS D 66 (tb_66 D, mk_66) from ⟨Or.inr (by decide +kernel), sn_66 D⟩) <|
    jx_ali_1 (show jx_TS D 67 (tb_67 D, mk_67) from ⟨Or.inr (by decide +kernel), sn_67 D⟩) <|
    jx_ali_1 (show jx_TS D 68 (tb_68 D, mk_68) from ⟨Or.inr (by decide +kernel), sn_68 D⟩) <|
    jx_ali_1 (show jx_TS D 69 (tb_69 D, mk_69) from ⟨Or.inr (by decide +kernel), sn_69 D⟩) <|
    jx_ali_1 (show jx_TS D 70 (tb_70 D, mk_70) from ⟨Or.inr (by decide +kernel), sn_70 D⟩) <|
    jx_ali_1 (show jx_TS D 71 (tb_71 D, mk_71) from ⟨Or.inr (by decide +kernel), sn_71 D⟩) <|
    jx_ali_1 (show jx_TS D 72 (tb_72 D, mk_72) from ⟨Or.inr (by decide +kernel), sn_72 D⟩) <|
    jx_ali_1 (show jx_TS D 73 (tb_73 D, mk_73) from ⟨Or.inr (by decide +kernel), sn_73 D⟩) <|
    jx_ali_1 (show jx_TS D 74 (tb_74 D, mk_74) from ⟨Or.inr (by decide +kernel), sn_74 D⟩) <|
    jx_ali_1 (show jx_TS D 75 (tb_75 D, mk_75) from ⟨Or.inr (by decide +kernel), sn_75 D⟩) <|
    jx_ali_1 (show jx_TS D 76 (tb_76 D, mk_76) from ⟨Or.inr (by decide +kernel), sn_76 D⟩) <|
    jx_ali_1 (show jx_TS D 77 (tb_77 D, mk_77) from ⟨Or.inr (by decide +kernel), sn_77 D⟩) <|
    jx_ali_1 (show jx_TS D 78 (tb_78 D, mk_78) from ⟨Or.inr (by decide +kernel), sn_78 D⟩) <|
    jx_ali_1 (show jx_TS D 79 (tb_79 D, mk_79) from ⟨Or.inr (by decide +kernel), sn_79 D⟩) <|
    jx_ali_1 (show jx_TS D 80 (tb_80 D, mk_80) from ⟨Or.inr (by decide +kernel), sn_80 D⟩) <|
    jx_ali_1 (show jx_TS D 81 (tb_81 D, mk_81) from ⟨Or.inr (by decide +kernel), sn_81 D⟩) <|
    jx_ali_1 (show jx_TS D 82 (tb_82 D, mk_82) from ⟨Or.inr (by decide +kernel), sn_82 D⟩) <|
    jx_ali_1 (show jx_TS D 83 (tb_83 D, mk_83) from ⟨Or.inr (by decide +kernel), sn_83 D⟩) <|
    jx_ali_1 (show jx_TS D 84 (tb_84 D, mk_84) from ⟨Or.inr (by decide +kernel), sn_84 D⟩) <|
    jx_ali_1 (show jx_TS D 85 (tb_85 D, mk_85) from ⟨Or.inr (by decide +kernel), sn_85 D⟩) <|
    jx_ali_1 (show jx_TS D 86 (tb_86 D, mk_86) from ⟨Or.inr (by decide +kernel), sn_86 D⟩) <|
    jx_ali_1 (show jx_TS D 87 (tb_87 D, mk_87) from ⟨Or.inr (by decide +kernel), sn_87 D⟩) <|
    jx_ali_1 (show jx_TS D 88 (tb_88 D, mk_88) from ⟨Or.inr (by decide +kernel), sn_88 D⟩) <|
    jx_ali_1 (show jx_TS D 89 (tb_89 D, mk_89) from ⟨Or.inr (by decide +kernel), sn_89 D⟩) <|
    jx_ali_0
set_option maxRecDepth 100000 in
theorem jx_als_3 (D : jx_D) : jx_ali (jx_TS D) 90 (jx_tabs_3 D) := by
  unfold jx_tabs_3
  exact jx_ali_1 (show jx_TS D 90 (tb_90 D, mk_90) from ⟨Or.inr (by decide +kernel), sn_90 D⟩) <|
    jx_ali_1 (show jx_TS D 91 (tb_91 D, mk_91) from ⟨Or.inr (by decide +kernel), sn_91 D⟩) <|
    jx_ali_1 (show jx_TS D 92 (tb_92 D, mk_92) from ⟨Or.inr (by decide +kernel), sn_92 D⟩) <|
    jx_ali_1 (show jx_TS D 93 (tb_93 D, mk_93) from ⟨Or.inr (by decide +kernel), sn_93 D⟩) <|
    jx_ali_1 (show jx_TS D 94 (tb_94 D, mk_94) from ⟨Or.inr (by decide +kernel), sn_94 D⟩) <|
    jx_ali_1 (show jx_TS D 95 (tb_95 D, mk_95) from ⟨Or.inr (by decide +kernel), sn_95 D⟩) <|
    jx_ali_1 (show jx_TS D 96 (tb_96 D, mk_96) from ⟨Or.inr (by decide +kernel), sn_96 D⟩) <|
    jx_ali_1 (show jx_TS D 97 (tb_97 D, mk_97) from ⟨Or.inr (by decide +kernel), sn_97 D⟩) <|
    jx_ali_1 (show jx_TS D 98 (tb_98 D, mk_98) from ⟨Or.inr (by decide +kernel), sn_98 D⟩) <|
    jx_ali_1 (show jx_TS D 99 (tb_99 D, mk_99) from ⟨Or.inr (by decide +kernel), sn_99 D⟩) <|
    jx_ali_1 (show jx_TS D 100 (tb_100 D, mk_100) from ⟨Or.inr (by decide +kernel), sn_100 D⟩) <|
    jx_ali_1 (show jx_TS D 101 (tb_101 D, mk_101) from ⟨Or.inr (by decide +kernel), sn_101 D⟩) <|
    jx_ali_1 (show jx_TS D 102 (tb_102 D, mk_102) from ⟨Or.inr (by decide +kernel), sn_102 D⟩) <|
    jx_ali_1 (show jx_TS D 103 (tb_103 D, mk_103) from ⟨Or.inr (by decide +kernel), sn_103 D⟩) <|
    jx_ali_1 (show jx_TS D 104 (tb_104 D, mk_104) from ⟨Or.inr (by decide +kernel), sn_104 D⟩) <|
    jx_ali_1 (show jx_TS D 105 (tb_105 D, mk_105) from ⟨Or.inr (by decide +kernel), sn_105 D⟩) <|
    jx_ali_1 (show jx_TS D 106 (tb_106 D, mk_106) from ⟨Or.inr (by decide +kernel), sn_106 D⟩) <|
    jx_ali_1 (show jx_TS D 107 (tb_107 D, mk_107) from ⟨Or.inr (by decide +kernel), sn_107 D⟩) <|
    jx_ali_1 (show jx_TS D 108 (tb_108 D, mk_108) from ⟨Or.inr (by decide +kernel), sn_108 D⟩) <|
    jx_ali_1 (show jx_TS D 109 (tb_109 D, mk_109) from ⟨Or.inr (by decide +kernel), sn_109 D⟩) <|
    jx_ali_1 (show jx_TS D 110 (tb_110 D, mk_110) from ⟨Or.inr (by decide +kernel), sn_110 D⟩) <|
    jx_ali_1 (show jx_TS D 111 (tb_111 D, mk_111) from ⟨Or.inr (by decide +kernel), sn_111 D⟩) <|
    jx_ali_1 (show jx_TS D 112 (tb_112 D, mk_112) from ⟨Or.inr (by decide +kernel), sn_112 D⟩) <|
    jx_ali_1 (show jx_TS D 113 (tb_113 D, mk_113) from ⟨Or.inr (by decide +kernel), sn_113 D⟩) <|
    jx_ali_1 (show jx_TS D 114 (tb_114 D, mk_114) from ⟨Or.inr (by decide +kernel), sn_114 D⟩) <|
    jx_ali_1 (show jx_TS D 115 (tb_115 D, mk_115) from ⟨Or.inr (by decide +kernel), sn_115 D⟩) <|
    jx_ali_1 (show jx_TS D 116 (tb_116 D, mk_116) from ⟨Or.inr (by decide +kernel), sn_116 D⟩) <|
    jx_ali_1 (show jx_TS D 117 (tb_117 D, mk_117) from ⟨Or.inr (by decide +kernel), sn_117 D⟩) <|
    jx_ali_1 (show jx_TS D 118 (tb_118 D, mk_118) from ⟨Or.inr (by decide +kernel), sn_118 D⟩) <|
    jx_ali_1 (show jx_TS D 119 (tb_119 D, mk_119) from ⟨Or.inr (by decide +kernel), sn_119 D⟩) <|
    jx_ali_0
set_option maxRecDepth 100000 in
theorem jx_als_4 (D : jx_D) : jx_ali (jx_TS D) 120 (jx_tabs_4 D) := by
  unfold jx_tabs_4
  exact jx_ali_1 (show jx_TS D 120 (tb_120 D, mk_120) from ⟨Or.inr (by decide +kernel), sn_120 D⟩) <|
    jx_ali_1 (show jx_TS D 121 (tb_121 D, mk_121) from ⟨Or.inr (by decide +kernel), sn_121 D⟩) <|
    jx_ali_1 (show jx_TS D 122 (tb_122 D, mk_122) from ⟨Or.inr (by decide +kernel), sn_122 D⟩) <|
    jx_ali_1 (show jx_TS D 123 (tb_123 D, mk_123) from ⟨Or.inr (by decide +kernel), sn_123 D⟩) <|
    jx_ali_1 (show jx_TS D 124 (tb_124 D, mk_124) from ⟨Or.inr (by decide +kernel), sn_124 D⟩) <|
    jx_ali_1 (show jx_TS D 125 (tb_125 D, mk_125) from ⟨Or.inr (by decide +kernel), sn_125 D⟩) <|
    jx_ali_1 (show jx_TS D 126 (tb_126 D, mk_126) from ⟨Or.inr (by decide +kernel), sn_126 D⟩) <|
    jx_ali_1 (show jx_TS D 127 (tb_127 D, mk_127) from ⟨Or.inr (by decide +kernel), sn_127 D⟩) <|
    jx_ali_1 (show jx_TS D 128 (tb_128 D, mk_128) from ⟨Or.inr (by decide +kernel), sn_128 D⟩) <|
    jx_ali_1 (show jx_TS D 129 (tb_129 D, mk_129) from ⟨Or.inr (by decide +kernel), sn_129 D⟩) <|
    jx_ali_1 (show jx_TS D 130 (tb_130 D, mk_130) from ⟨Or.inr (by decide +kernel), sn_130 D⟩) <|
    jx_ali_1 (show jx_TS D 131 (tb_131 D, mk_131) from ⟨Or.inr (by decide +kernel), sn_131 D⟩) <|
    jx_ali_1 (show jx_TS D 132 (tb_132 D, mk_132) from ⟨Or.inr (by decide +kernel), sn_132 D⟩) <|
    jx_ali_1 (show jx_TS D 133 (tb_133 D, mk_133) from ⟨Or.inr (by decide +kernel), sn_133 D⟩) <|
    jx_ali_1 (show jx_TS D 134 (tb_134 D, mk_134) from ⟨Or.inr (by decide +kernel), sn_134 D⟩) <|
    jx_ali_1 (show jx_TS D 135 (tb_135 D, mk_135) from ⟨Or.inr (by decide +kernel), sn_135 D⟩) <|
    jx_ali_1 (show jx_TS D 136 (tb_136 D, mk_136) from ⟨Or.inr (by decide +kernel), sn_136 D⟩) <|
    jx_ali_1 (show jx_TS D 137 (tb_137 D, mk_137) from ⟨Or.inr (by decide +kernel), sn_137 D⟩) <|
    jx_ali_1 (show jx_TS D 138 (tb_138 D, mk_138) from ⟨Or.inr (by decide +kernel), sn_138 D⟩) <|
    jx_ali_1 (show jx_TS D 139 (tb_139 D, mk_139) from ⟨Or.inr (by decide +kernel), sn_139 D⟩) <|
    jx_ali_1 (show jx_TS D 140 (tb_140 D, mk_140) from ⟨Or.inr (by decide +kernel), sn_140 D⟩) <|
    jx_ali_1 (show jx_TS D 141 (tb_141 D, mk_141) from ⟨Or.inr (by decide +kernel), sn_141 D⟩) <|
    jx_ali_1 (show jx_TS D 142 (tb_142 D, mk_142) from ⟨Or.inr (by decide +kernel), sn_142 D⟩) <|
    jx_ali_1 (show jx_TS D 143 (tb_143 D, mk_143) from ⟨Or.inr (by decide +kernel), sn_143 D⟩) <|
    jx_ali_1 (show jx_TS D 144 (tb_144 D, mk_144) from ⟨Or.inr (by decide +kernel), sn_144 D⟩) <|
    jx_ali_1 (show jx_TS D 145 (tb_145 D, mk_145) from ⟨Or.inr (by decide +kernel), sn_145 D⟩) <|
    jx_ali_1 (show jx_TS D 146 (tb_146 D, mk_146) from ⟨Or.inr (by decide +kernel), sn_146 D⟩) <|
    jx_ali_1 (show jx_TS D 147 (tb_147 D, mk_147) from ⟨Or.inr (by decide +kernel), sn_147 D⟩) <|
    jx_ali_1 (show jx_TS D 148 (tb_148 D, mk_148) from ⟨Or.inr (by decide +kernel), sn_148 D⟩) <|
    jx_ali_1 (show jx_TS D 149 (tb_149 D, mk_149) from ⟨Or.inr (by decide +kernel), sn_149 D⟩) <|
    jx_ali_0
set_option maxRecDepth 100000 in
theorem jx_als_5 (D : jx_D) : jx_ali (jx_TS D) 150 (jx_tabs_5 D) := by
  unfold jx_tabs_5
  exact jx_ali_1 (show jx_TS D 150 (tb_150 D, mk_150) from ⟨Or.inr (by decide +kernel), sn_150 D⟩) <|
    jx_ali_1 (show jx_TS D 151 (tb_151 D, mk_151) from ⟨Or.inr (by decide +kernel), sn_151 D⟩) <|
    jx_ali_1 (show jx_TS D 152 (tb_152 D, mk_152) from ⟨Or.inr (by decide +kernel), sn_152 D⟩) <|
    jx_ali_1 (show jx_TS D 153 (tb_153 D, mk_153) from ⟨Or.inr (by decide +kernel), sn_153 D⟩) <|
    jx_ali_1 (show jx_TS D 154 (tb_154 D, mk_154) from ⟨Or.inr (by decide +kernel), sn_154 D⟩) <|
    jx_ali_1 (show jx_TS D 155 (tb_155 D, mk_155) from ⟨Or.inr (by decide +kernel), sn_155 D⟩) <|
    jx_ali_1 (show jx_TS D 156 (tb_156 D, mk_156) from ⟨Or.inr (by decide +kernel), sn_156 D⟩) <|
    jx_ali_1 (show jx_TS D 157 (tb_157 D, mk_157) from ⟨Or.inr (by decide +kernel), sn_157 D⟩) <|
    jx_ali_1 (show jx_TS D 158 (tb_158 D, mk_158) from ⟨Or.inr (by decide +kernel), sn_158 D⟩) <|
    jx_ali_1 (show jx_TS D 159 (tb_159 D, mk_159) from ⟨Or.inr (by decide +kernel), sn_159 D⟩) <|
    jx_ali_1 (show jx_TS D 160 (tb_160 D, mk_160) from ⟨Or.inr (by decide +kernel), sn_160 D⟩) <|
    jx_ali_1 (show jx_TS D 161 (tb_161 D, mk_161) from ⟨Or.inr (by decide +kernel), sn_161 D⟩) <|
    jx_ali_1 (show jx_TS D 162 (tb_162 D, mk_162) from ⟨Or.inr (by decide +kernel), sn_162 D⟩) <|
    jx_ali_1 (show jx_TS D 163 (tb_163 D, mk_163) from ⟨Or.inr (by decide +kernel), sn_163 D⟩) <|
    jx_ali_1 (show jx_TS D 164 (tb_164 D, mk_164) from ⟨Or.inr (by decide +kernel), sn_164 D⟩) <|
    jx_ali_1 (show jx_TS D 165 (tb_165 D, mk_165) from ⟨Or.inr (by decide +kernel), sn_165 D⟩) <|
    jx_ali_1 (show jx_TS D 166 (tb_166 D, mk_166) from ⟨Or.inr (by decide +kernel), sn_166 D⟩) <|
    jx_ali_1 (show jx_TS D 167 (tb_167 D, mk_167) from ⟨Or.inr (by decide +kernel), sn_167 D⟩) <|
    jx_ali_1 (show jx_TS D 168 (tb_168 D, mk_168) from ⟨Or.inr (by decide +kernel), sn_168 D⟩) <|
    jx_ali_1 (show jx_TS D 169 (tb_169 D, mk_169) from ⟨Or.inr (by decide +kernel), sn_169 D⟩) <|
    jx_ali_1 (show jx_TS D 170 (tb_170 D, mk_170) from ⟨Or.inr (by decide +kernel), sn_170 D⟩) <|
    jx_ali_1 (show jx_TS D 171 (tb_171 D, mk_171) from ⟨Or.inr (by decide +kernel), sn_171 D⟩) <|
    jx_ali_1 (show jx_TS D 172 (tb_172 D, mk_172) from ⟨Or.inr (by decide +kernel), sn_172 D⟩) <|
    jx_ali_1 (show jx_TS D 173 (tb_173 D, mk_173) from ⟨Or.inr (by decide +kernel), sn_173 D⟩) <|
    jx_ali_1 (show jx_TS D 174 (tb_174 D, mk_174) from ⟨Or.inr (by decide +kernel), sn_174 D⟩) <|
    jx_ali_1 (show jx_TS D 175 (tb_175 D, mk_175) from ⟨Or.inr (by decide +kernel), sn_175 D⟩) <|
    jx_ali_1 (show jx_TS D 176 (tb_176 D, mk_176) from ⟨Or.inr (by decide +kernel), sn_176 D⟩) <|
    jx_ali_1 (show jx_TS D 177 (tb_177 D, mk_177) from ⟨Or.inr (by decide +kernel), sn_177 D⟩) <|
    jx_ali_1 (show jx_TS D 178 (tb_178 D, mk_178) from ⟨Or.inr (by decide +kernel), sn_178 D⟩) <|
    jx_ali_1 (show jx_TS D 179 (tb_179 D, mk_179) from ⟨Or.inr (by decide +kernel), sn_179 D⟩) <|
    jx_ali_0
set_option maxRecDepth 100000 in
theorem jx_als_6 (D : jx_D) : jx_ali (jx_TS D) 180 (jx_tabs_6 D) := by
  unfold jx_tabs_6
  exact jx_ali_1 (show jx_TS D 180 (tb_180 D, mk_180) from ⟨Or.inr (by decide +kernel), sn_180 D⟩) <|
    jx_ali_0
theorem jx_als (D : jx_D) : jx_ali (jx_TS D) 0 (jx_tabs D) := by
  unfold jx_tabs
  exact jx_ali_app (jx_als_0 D) (j := 30) rfl (jx_ali_app (jx_als_1 D) (j := 60) rfl (jx_ali_app (jx_als_2 D) (j := 90) rfl (jx_ali_app (jx_als_3 D) (j := 120) rfl (jx_ali_app (jx_als_4 D) (j := 150) rfl (jx_ali_app (jx_als_5 D) (j := 180) rfl (jx_als_6 D))))))
theorem jx_ts (D : jx_D) (y : Nat) : jx_all (fun q => jx_Snd (jx_m y).2.1 (jx_m y).2.2.1 (jx_m y).1.cls (jx_m y).2.2.2 D q.1 q.2) (jx_tb D y).1 ∧ ((jx_tb D y).1 = [] ∨ plainName (jx_m y).1.cls = true) := by
  rcases Nat.lt_or_ge y (jx_tabs D).length with h | h
  · have := jx_ali_pk (jx_als D) y (by omega)
    rw [Nat.zero_add] at this
    exact ⟨this.2, this.1⟩
  · unfold jx_tb
    rw [jx_pk_out h]
    exact ⟨trivial, Or.inl rfl⟩
theorem jx_den0 {nm : Nat → List jx_V → List jx_V} {pc : Nat} {l s : List jx_V} {h : jx_H} : jx_den (jx_look []) nm pc l s h = none := jx_den_none fun n => by cases n <;> rfl
/-- every method is what DM says -/
theorem jx_dm (l : Launch) {w : jx_Wd} (hw : jx_wf w) : ∀ (d y : Nat) (a : List jx_V) (h : jx_H) (r : jx_R), DM d y a h = some r → (∀ v ∈ a, jx_ok w v) → jx_MT l w d y a h r := by
  intro d
  induction d with
  | zero => intro y a h r hr; cases hr
  | succ d ih =>
    intro y a h r hr ha
    have hr' : (bif jx_c1 a && Nat.ble a.length (jx_m y).2.2.1 then jx_den (jx_look (jx_tb (DM d) y).1) (jx_nms (jx_tb (DM d) y).2) 0 (jx_nms (jx_tb (DM d) y).2 0 (jx_pad (jx_m y).2.2.1 a)) [] h else none) = some r := hr
    cases hb : jx_c1 a && Nat.ble a.length (jx_m y).2.2.1 with
    | false => rw [hb] at hr'; cases hr'
    | true =>
      rw [hb, cond_true] at hr'
      obtain ⟨h1, h2⟩ := Bool.and_eq_true_iff.mp hb
      obtain ⟨hs, hp⟩ := jx_ts (DM d) y
      rcases hp with hp | hp
      · rw [hp, jx_den0] at hr'
        cases hr'
      · exact jx_met hp hs (jx_nms_ok _) hw (ih) hr' ha h1 (Nat.le_of_ble_eq_true h2)
theorem d1 (d : Nat) (x0 : Int32) (h : jx_H) : DM (d + 1) 1 [vi x0] h = F1_0 (DM d) x0 h := rfl
theorem d3 (d : Nat) (x1 : Int32) (h : jx_H) : DM (d + 1) 3 [vr 0 0, vi x1] h = F3_0 (DM d) x1 h := rfl
theorem d4 (d : Nat) (h : jx_H) : DM (d + 1) 4 [vr 6 0, vr 1 0] h = F4_0 (DM d) h := rfl
theorem d5 (d : Nat) (i0 : Nat) (i1 : Nat) (h : jx_H) : DM (d + 1) 5 [vr 1 i0, vr 1 i1] h = F5_0 (DM d) i0 i1 h := rfl
theorem d6 (d : Nat) (i0 : Nat) (x1 : Int32) (h : jx_H) : DM (d + 1) 6 [vr 1 i0, vi x1] h = F6_0 (DM d) i0 x1 h := rfl
theorem d7 (d : Nat) (h : jx_H) : DM (d + 1) 7 [vr 0 0] h = F7_0 (DM d) h := rfl
theorem d8 (d : Nat) (x1 : Int32) (h : jx_H) : DM (d + 1) 8 [vr 0 0, vi x1] h = F8_0 (DM d) x1 h := rfl
theorem d9 (d : Nat) (i0 : Nat) (h : jx_H) : DM (d + 1) 9 [vr 1 i0] h = F9_0 (DM d) i0 h := rfl
theorem d10 (d : Nat) (x1 : Int32) (x2 : Int32) (h : jx_H) : DM (d + 1) 10 [vr 0 0, vi x1, vi x2] h = F10_0 (DM d) x1 x2 h := rfl
theorem d11 (d : Nat) (x1 : Int32) (x2 : Int32) (h : jx_H) : DM (d + 1) 11 [vr 0 0, vi x1, vi x2] h = F11_0 (DM d) x1 x2 h := rfl
theorem d12 (d : Nat) (x1 : Int32) (h : jx_H) : DM (d + 1) 12 [vr 0 0, vi x1] h = F12_0 (DM d) x1 h := rfl
theorem d13 (d : Nat) (i0 : Nat) (x1 : Int32) (x2 : Int32) (h : jx_H) : DM (d + 1) 13 [vr 1 i0, vi x1, vi x2] h = F13_0 (DM d) i0 x1 x2 h := rfl
theorem d14 (d : Nat) (x1 : Int32) (x2 : Int32) (x3 : Int32) (h : jx_H) : DM (d + 1) 14 [vr 0 0, vi x1, vi x2, vi x3] h = F14_0 (DM d) x1 x2 x3 h := rfl
theorem d15 (d : Nat) (x1 : Int32) (h : jx_H) : DM (d + 1) 15 [vr 0 0, vi x1] h = F15_0 (DM d) x1 h := rfl
theorem d16 (d : Nat) (x1 : Int32) (h : jx_H) : DM (d + 1) 16 [vr 0 0, vi x1] h = F16_0 (DM d) x1 h := rfl
theorem d17 (d : Nat) (x0 : Int32) (h : jx_H) : DM (d + 1) 17 [vi x0] h = F17_0 (DM d) x0 h := rfl
theorem d18 (d : Nat) (i0 : Nat) (x1 : Int32) (h : jx_H) : DM (d + 1) 18 [vr 1 i0, vi x1] h = F18_0 (DM d) i0 x1 h := rfl
theorem d19 (d : Nat) (x0 : Int32) (x1 : Int32) (h : jx_H) : DM (d + 1) 19 [vi x0, vi x1] h = F19_0 (DM d) x0 x1 h := rfl
theorem d20 (d : Nat) (x1 : Int32) (x2 : Int32) (h : jx_H) : DM (d + 1) 20 [vr 0 0, vi x1, vi x2] h = F20_0 (DM d) x1 x2 h := rfl
theorem d21 (d : Nat) (i0 : Nat) (x1 : Int32) (x2 : Int32) (h : jx_H) : DM (d + 1) 21 [vr 1 i0, vi x1, vi x2] h = F21_0 (DM d) i0 x1 x2 h := rfl
theorem d22 (d : Nat) (x0 : Int32) (x1 : Int32) (x2 : Int32) (h : jx_H) : DM (d + 1) 22 [vi x0, vi x1, vi x2] h = F22_0 (DM d) x0 x1 x2 h := rfl
theorem d23 (d : Nat) (x1 : Int32) (x2 : Int32) (h : jx_H) : DM (d + 1) 23 [vr 0 0, vi x1, vi x2] h = F23_0 (DM d) x1 x2 h := rfl
theorem d24 (d : Nat) (h : jx_H) : DM (d + 1) 24 [vr 0 0] h = F24_0 (DM d) h := rfl
theorem d25 (d : Nat) (h : jx_H) : DM (d + 1) 25 [vr 6 0, vr 1 0] h = F25_0 (DM d) h := rfl
theorem d26 (d : Nat) (x1 : Int32) (x2 : Int32) (x3 : Int32) (h : jx_H) : DM (d + 1) 26 [vr 0 0, vi x1, vi x2, vi x3] h = F26_0 (DM d) x1 x2 x3 h := rfl
theorem d27 (d : Nat) (x0 : Int32) (h : jx_H) : DM (d + 1) 27 [vi x0] h = F27_0 (DM d) x0 h := rfl
theorem d28 (d : Nat) (i0 : Nat) (x1 : Int32) (x2 : Int32) (h : jx_H) : DM (d + 1) 28 [vr 11 i0, vi x1, vi x2] h = F28_0 (DM d) i0 x1 x2 h := rfl
theorem d29 (d : Nat) (x1 : Int32) (x2 : Int32) (x3 : Int32) (h : jx_H) : DM (d + 1) 29 [vr 0 0, vi x1, vi x2, vi x3] h = F29_0 (DM d) x1 x2 x3 h := rfl
theorem d30 (d : Nat) (i0 : Nat) (h : jx_H) : DM (d + 1) 30 [vr 11 i0] h = F30_0 (DM d) i0 h := rfl
theorem d31 (d : Nat) (i0 : Nat) (x1 : Int32) (x2 : Int32) (h : jx_H) : DM (d + 1) 31 [vr 11 i0, vi x1, vi x2] h = F31_0 (DM d) i0 x1 x2 h := rfl
theorem d32 (d : Nat) (x1 : Int32) (x2 : Int32) (x3 : Int32) (x4 : Int32) (x5 : Int32) (h : jx_H) : DM (d + 1) 32 [vr 0 0, vi x1, vi x2, vi x3, vi x4, vi x5] h = F32_0 (DM d) x1 x2 x3 x4 x5 h := rfl
theorem d33 (d : Nat) (i0 : Nat) (x1 : Int32) (x2 : Int32) (h : jx_H) : DM (d + 1) 33 [vr 11 i0, vi x1, vi x2] h = F33_0 (DM d) i0 x1 x2 h := rfl
theorem d34 (d : Nat) (x1 : Int32) (h : jx_H) : DM (d + 1) 34 [vr 0 0, vi x1] h = F34_0 (DM d) x1 h := rfl
theorem d35 (d : Nat) (x1 : Int32) (h : jx_H) : DM (d + 1) 35 [vr 0 0, vi x1] h = F35_0 (DM d) x1 h := rfl
theorem d36a (d : Nat) (x2 : Int32) (h : jx_H) : DM (d + 1) 36 [vr 0 0, vr 13 0, vi x2] h = F36a_0 (DM d) x2 h := rfl
theorem d36b (d : Nat) (i1 : Nat) (x2 : Int32) (h : jx_H) : DM (d + 1) 36 [vr 0 0, vr 12 i1, vi x2] h = F36b_0 (DM d) i1 x2 h := rfl
theorem d37 (d : Nat) (x1 : Int32) (x2 : Int32) (h : jx_H) : DM (d + 1) 37 [vr 0 0, vi x1, vi x2] h = F37_0 (DM d) x1 x2 h := rfl
theorem d38 (d : Nat) (h : jx_H) : DM (d + 1) 38 [vr 14 0, vr 1 0] h = F38_0 (DM d) h := rfl
theorem d39 (d : Nat) (h : jx_H) : DM (d + 1) 39 [vr 14 0, vr 1 0] h = F39_0 (DM d) h := rfl
theorem d40 (d : Nat) (x1 : Int32) (x2 : Int32) (h : jx_H) : DM (d + 1) 40 [vr 14 0, vi x1, vi x2] h = F40_0 (DM d) x1 x2 h := rfl
theorem d41 (d : Nat) (x1 : Int32) (x2 : Int32) (h : jx_H) : DM (d + 1) 41 [vr 0 0, vi x1, vi x2] h = F41_0 (DM d) x1 x2 h := rfl
theorem d42 (d : Nat) (x1 : Int32) (x2 : Int32) (h : jx_H) : DM (d + 1) 42 [vr 14 0, vi x1, vi x2] h = F42_0 (DM d) x1 x2 h := rfl
theorem d43 (d : Nat) (h : jx_H) : DM (d + 1) 43 [vr 0 0] h = F43_0 (DM d) h := rfl
theorem d44 (d : Nat) (x1 : Int32) (h : jx_H) : DM (d + 1) 44 [vr 14 0, vi x1] h = F44_0 (DM d) x1 h := rfl
theorem d45 (d : Nat) (x1 : Int32) (h : jx_H) : DM (d + 1) 45 [vr 0 0, vi x1] h = F45_0 (DM d) x1 h := rfl
theorem d46 (d : Nat) (x1 : Int32) (h : jx_H) : DM (d + 1) 46 [vr 14 0, vi x1] h = F46_0 (DM d) x1 h := rfl
theorem d47 (d : Nat) (x1 : Int32) (x2 : Int32) (h : jx_H) : DM (d + 1) 47 [vr 14 0, vi x1, vi x2] h = F47_0 (DM d) x1 x2 h := rfl
theorem d48 (d : Nat) (x1 : Int32) (x2 : Int32) (h : jx_H) : DM (d + 1) 48 [vr 0 0, vi x1, vi x2] h = F48_0 (DM d) x1 x2 h := rfl
theorem d49 (d : Nat) (x1 : Int32) (x2 : Int32) (h : jx_H) : DM (d + 1) 49 [vr 14 0, vi x1, vi x2] h = F49_0 (DM d) x1 x2 h := rfl
theorem d50 (d : Nat) (x1 : Int32) (x2 : Int32) (h : jx_H) : DM (d + 1) 50 [vr 14 0, vi x1, vi x2] h = F50_0 (DM d) x1 x2 h := rfl
theorem d51 (d : Nat) (x1 : Int32) (x2 : Int32) (h : jx_H) : DM (d + 1) 51 [vr 0 0, vi x1, vi x2] h = F51_0 (DM d) x1 x2 h := rfl
theorem d52 (d : Nat) (x1 : Int32) (x2 : Int32) (h : jx_H) : DM (d + 1) 52 [vr 14 0, vi x1, vi x2] h = F52_0 (DM d) x1 x2 h := rfl
theorem d53 (d : Nat) (x1 : Int32) (x2 : Int32) (h : jx_H) : DM (d + 1) 53 [vr 0 0, vi x1, vi x2] h = F53_0 (DM d) x1 x2 h := rfl
theorem d54 (d : Nat) (x1 : Int32) (h : jx_H) : DM (d + 1) 54 [vr 14 0, vi x1] h = F54_0 (DM d) x1 h := rfl
theorem d55 (d : Nat) (x1 : Int32) (h : jx_H) : DM (d + 1) 55 [vr 14 0, vi x1] h = F55_0 (DM d) x1 h := rfl
theorem d56 (d : Nat) (h : jx_H) : DM (d + 1) 56 [vr 0 0] h = F56_0 (DM d) h := rfl
theorem d57 (d : Nat) (h : jx_H) : DM (d + 1) 57 [vr 14 0] h = F57_0 (DM d) h := rfl
theorem d58 (d : Nat) (h : jx_H) : DM (d + 1) 58 [vr 0 0] h = F58_0 (DM d) h := rfl
theorem d59 (d : Nat) (h : jx_H) : DM (d + 1) 59 [vr 14 0] h = F59_0 (DM d) h := rfl
theorem d60 (d : Nat) (x1 : Int32) (x2 : Int32) (h : jx_H) : DM (d + 1) 60 [vr 14 0, vi x1, vi x2] h = F60_0 (DM d) x1 x2 h := rfl
theorem d61 (d : Nat) (x1 : Int32) (h : jx_H) : DM (d + 1) 61 [vr 0 0, vi x1] h = F61_0 (DM d) x1 h := rfl
theorem d62 (d : Nat) (x1 : Int32) (h : jx_H) : DM (d + 1) 62 [vr 14 0, vi x1, vr 1 0] h = F62_0 (DM d) x1 h := rfl
theorem d63 (d : Nat) (x0 : Int32) (h : jx_H) : DM (d + 1) 63 [vi x0] h = F63_0 (DM d) x0 h := rfl
theorem d64 (d : Nat) (x1 : Int32) (x2 : Int32) (h : jx_H) : DM (d + 1) 64 [vr 14 0, vi x1, vi x2] h = F64_0 (DM d) x1 x2 h := rfl
theorem d65 (d : Nat) (x1 : Int32) (h : jx_H) : DM (d + 1) 65 [vr 0 0, vi x1] h = F65_0 (DM d) x1 h := rfl
theorem d66 (d : Nat) (x2 : Int32) (h : jx_H) : DM (d + 1) 66 [vr 19 0, vr 14 0, vi x2] h = F66_0 (DM d) x2 h := rfl
theorem d67 (d : Nat) (x2 : Int32) (x3 : Int32) (h : jx_H) : DM (d + 1) 67 [vr 19 0, vr 14 0, vi x2, vi x3] h = F67_0 (DM d) x2 x3 h := rfl
theorem d68 (d : Nat) (x1 : Int32) (x2 : Int32) (h : jx_H) : DM (d + 1) 68 [vr 14 0, vi x1, vi x2] h = F68_0 (DM d) x1 x2 h := rfl
theorem d69 (d : Nat) (x1 : Int32) (h : jx_H) : DM (d + 1) 69 [vr 0 0, vi x1] h = F69_0 (DM d) x1 h := rfl
theorem d70 (d : Nat) (x1 : Int32) (x2 : Int32) (h : jx_H) : DM (d + 1) 70 [vr 14 0, vi x1, vi x2] h = F70_0 (DM d) x1 x2 h := rfl
theorem d71 (d : Nat) (x3 : Int32) (h : jx_H) : DM (d + 1) 71 [vr 21 0, vr 14 0, vr 1 0, vi x3] h = F71_0 (DM d) x3 h := rfl
theorem d72 (d : Nat) (x1 : Int32) (x2 : Int32) (x3 : Int32) (h : jx_H) : DM (d + 1) 72 [vr 21 0, vi x1, vi x2, vi x3] h = F72_0 (DM d) x1 x2 x3 h := rfl
theorem d73 (d : Nat) (h : jx_H) : DM (d + 1) 73 [vr 0 0] h = F73_0 (DM d) h := rfl
theorem d74 (d : Nat) (h : jx_H) : DM (d + 1) 74 [vr 0 0] h = F74_0 (DM d) h := rfl
theorem d75 (d : Nat) (h : jx_H) : DM (d + 1) 75 [vr 22 0, vr 14 0] h = F75_0 (DM d) h := rfl
theorem d76 (d : Nat) (x1 : Int32) (x2 : Int32) (x3 : Int32) (h : jx_H) : DM (d + 1) 76 [vr 22 0, vi x1, vi x2, vi x3] h = F76_0 (DM d) x1 x2 x3 h := rfl
theorem d77 (d : Nat) (h : jx_H) : DM (d + 1) 77 [vr 0 0] h = F77_0 (DM d) h := rfl
theorem d78 (d : Nat) (h : jx_H) : DM (d + 1) 78 [vr 22 0, vr 14 0] h = F78_0 (DM d) h := rfl
theorem d79 (d : Nat) (h : jx_H) : DM (d + 1) 79 [vr 0 0] h = F79_0 (DM d) h := rfl
theorem d80 (d : Nat) (h : jx_H) : DM (d + 1) 80 [vr 22 0, vr 14 0] h = F80_0 (DM d) h := rfl
theorem d81 (d : Nat) (x2 : Int32) (h : jx_H) : DM (d + 1) 81 [vr 22 0, vr 14 0, vi x2] h = F81_0 (DM d) x2 h := rfl
theorem d82 (d : Nat) (x2 : Int32) (x3 : Int32) (x4 : Int32) (h : jx_H) : DM (d + 1) 82 [vr 22 0, vr 14 0, vi x2, vi x3, vi x4] h = F82_0 (DM d) x2 x3 x4 h := rfl
theorem d83 (d : Nat) (x1 : Int32) (h : jx_H) : DM (d + 1) 83 [vr 0 0, vi x1] h = F83_0 (DM d) x1 h := rfl
theorem d84 (d : Nat) (x1 : Int32) (h : jx_H) : DM (d + 1) 84 [vr 14 0, vi x1] h = F84_0 (DM d) x1 h := rfl
theorem d85 (d : Nat) (h : jx_H) : DM (d + 1) 85 [vr 0 0] h = F85_0 (DM d) h := rfl
theorem d86 (d : Nat) (h : jx_H) : DM (d + 1) 86 [vr 25 0, vr 1 0] h = F86_0 (DM d) h := rfl
theorem d87 (d : Nat) (x1 : Int32) (x2 : Int32) (h : jx_H) : DM (d + 1) 87 [vr 25 0, vi x1, vi x2] h = F87_0 (DM d) x1 x2 h := rfl
theorem d88 (d : Nat) (h : jx_H) : DM (d + 1) 88 [vr 0 0] h = F88_0 (DM d) h := rfl
theorem d89 (d : Nat) (x1 : Int32) (h : jx_H) : DM (d + 1) 89 [vr 14 0, vi x1] h = F89_0 (DM d) x1 h := rfl
theorem d90 (d : Nat) (h : jx_H) : DM (d + 1) 90 [vr 0 0] h = F90_0 (DM d) h := rfl
theorem d91 (d : Nat) (h : jx_H) : DM (d + 1) 91 [vr 26 0, vr 14 0, vr 1 0] h = F91_0 (DM d) h := rfl
theorem d92 (d : Nat) (x1 : Int32) (x2 : Int32) (h : jx_H) : DM (d + 1) 92 [vr 26 0, vi x1, vi x2] h = F92_0 (DM d) x1 x2 h := rfl
theorem d93 (d : Nat) (h : jx_H) : DM (d + 1) 93 [vr 26 0] h = F93_0 (DM d) h := rfl
theorem d94 (d : Nat) (x1 : Int32) (h : jx_H) : DM (d + 1) 94 [vr 26 0, vi x1] h = F94_0 (DM d) x1 h := rfl
theorem d95 (d : Nat) (x1 : Int32) (x2 : Int32) (h : jx_H) : DM (d + 1) 95 [vr 26 0, vi x1, vi x2] h = F95_0 (DM d) x1 x2 h := rfl
theorem d96 (d : Nat) (x1 : Int32) (h : jx_H) : DM (d + 1) 96 [vr 0 0, vi x1] h = F96_0 (DM d) x1 h := rfl
theorem d97 (d : Nat) (h : jx_H) : DM (d + 1) 97 [vr 0 0] h = F97_0 (DM d) h := rfl
theorem d98 (d : Nat) (x2 : Int32) (h : jx_H) : DM (d + 1) 98 [vr 14 0, vr 13 0, vi x2] h = F98_0 (DM d) x2 h := rfl
theorem d99 (d : Nat) (x1 : Int32) (x2 : Int32) (h : jx_H) : DM (d + 1) 99 [vr 0 0, vi x1, vi x2] h = F99_0 (DM d) x1 x2 h := rfl
theorem d100 (d : Nat) (i0 : Nat) (x1 : Int32) (x3 : Int32) (h : jx_H) : DM (d + 1) 100 [vr 1 i0, vi x1, vr 13 0, vi x3] h = F100_0 (DM d) i0 x1 x3 h := rfl
theorem d101 (d : Nat) (i0 : Nat) (x1 : Int32) (x2 : Int32) (h : jx_H) : DM (d + 1) 101 [vr 1 i0, vi x1, vi x2] h = F101_0 (DM d) i0 x1 x2 h := rfl
theorem d102 (d : Nat) (x1 : Int32) (h : jx_H) : DM (d + 1) 102 [vr 0 0, vi x1] h = F102_0 (DM d) x1 h := rfl
theorem d103 (d : Nat) (x0 : Int32) (h : jx_H) : DM (d + 1) 103 [vi x0] h = F103_0 (DM d) x0 h := rfl
theorem d104 (d : Nat) (h : jx_H) : DM (d + 1) 104 [vr 0 0] h = F104_0 (DM d) h := rfl
theorem d105 (d : Nat) (x1 : Int32) (h : jx_H) : DM (d + 1) 105 [vr 0 0, vi x1] h = F105_0 (DM d) x1 h := rfl
theorem d106 (d : Nat) (x1 : Int32) (x2 : Int32) (h : jx_H) : DM (d + 1) 106 [vr 0 0, vi x1, vi x2] h = F106_0 (DM d) x1 x2 h := rfl
theorem d107 (d : Nat) (x0 : Int32) (x1 : Int32) (h : jx_H) : DM (d + 1) 107 [vi x0, vi x1] h = F107_0 (DM d) x0 x1 h := rfl
theorem d108 (d : Nat) (x1 : Int32) (h : jx_H) : DM (d + 1) 108 [vr 0 0, vi x1] h = F108_0 (DM d) x1 h := rfl
theorem d109 (d : Nat) (i0 : Nat) (h : jx_H) : DM (d + 1) 109 [vr 1 i0] h = F109_0 (DM d) i0 h := rfl
theorem d110 (d : Nat) (h : jx_H) : DM (d + 1) 110 [vr 30 0] h = F110_0 (DM d) h := rfl
theorem d111 (d : Nat) (x1 : Int32) (h : jx_H) : DM (d + 1) 111 [vr 30 0, vi x1] h = F111_0 (DM d) x1 h := rfl
theorem d112a (d : Nat) (x2 : Int32) (h : jx_H) : DM (d + 1) 112 [vr 30 0, vr 38 0, vi x2] h = F112a_0 (DM d) x2 h := rfl
theorem d112b (d : Nat) (x2 : Int32) (h : jx_H) : DM (d + 1) 112 [vr 30 0, vr 39 0, vi x2] h = F112b_0 (DM d) x2 h := rfl
theorem d113 (d : Nat) (x1 : Int32) (h : jx_H) : DM (d + 1) 113 [vr 30 0, vi x1] h = F113_0 (DM d) x1 h := rfl
theorem d114 (d : Nat) (h : jx_H) : DM (d + 1) 114 [vr 30 0] h = F114_0 (DM d) h := rfl
theorem d115a (d : Nat) (x2 : Int32) (h : jx_H) : DM (d + 1) 115 [vr 30 0, vr 38 0, vi x2] h = F115a_0 (DM d) x2 h := rfl
theorem d115b (d : Nat) (x2 : Int32) (h : jx_H) : DM (d + 1) 115 [vr 30 0, vr 39 0, vi x2] h = F115b_0 (DM d) x2 h := rfl
theorem d116 (d : Nat) (h : jx_H) : DM (d + 1) 116 [vr 30 0] h = F116_0 (DM d) h := rfl
theorem d117 (d : Nat) (x1 : Int32) (x2 : Int32) (h : jx_H) : DM (d + 1) 117 [vr 30 0, vi x1, vi x2] h = F117_0 (DM d) x1 x2 h := rfl
theorem d118 (d : Nat) (x1 : Int32) (h : jx_H) : DM (d + 1) 118 [vr 30 0, vi x1] h = F118_0 (DM d) x1 h := rfl
theorem d119 (d : Nat) (x1 : Int32) (x2 : Int32) (h : jx_H) : DM (d + 1) 119 [vr 30 0, vi x1, vi x2] h = F119_0 (DM d) x1 x2 h := rfl
theorem d120 (d : Nat) (x1 : Int32) (x2 : Int32) (x3 : Int32) (h : jx_H) : DM (d + 1) 120 [vr 30 0, vi x1, vi x2, vi x3] h = F120_0 (DM d) x1 x2 x3 h := rfl
theorem d121 (d : Nat) (x1 : Int32) (h : jx_H) : DM (d + 1) 121 [vr 30 0, vi x1] h = F121_0 (DM d) x1 h := rfl
theorem d122 (d : Nat) (x1 : Int32) (h : jx_H) : DM (d + 1) 122 [vr 30 0, vi x1] h = F122_0 (DM d) x1 h := rfl
theorem d123 (d : Nat) (x1 : Int32) (h : jx_H) : DM (d + 1) 123 [vr 30 0, vi x1] h = F123_0 (DM d) x1 h := rfl
theorem d124 (d : Nat) (x1 : Int32) (x2 : Int32) (h : jx_H) : DM (d + 1) 124 [vr 30 0, vi x1, vi x2] h = F124_0 (DM d) x1 x2 h := rfl
theorem d125 (d : Nat) (x0 : Int32) (x1 : Int32) (x2 : Int32) (h : jx_H) : DM (d + 1) 125 [vi x0, vi x1, vi x2] h = F125_0 (DM d) x0 x1 x2 h := rfl
theorem d126 (d : Nat) (x1 : Int32) (x2 : Int32) (h : jx_H) : DM (d + 1) 126 [vr 30 0, vi x1, vi x2] h = F126_0 (DM d) x1 x2 h := rfl
theorem d127 (d : Nat) (x1 : Int32) (x2 : Int32) (x3 : Int32) (h : jx_H) : DM (d + 1) 127 [vr 30 0, vi x1, vi x2, vi x3] h = F127_0 (DM d) x1 x2 x3 h := rfl
theorem d128 (d : Nat) (x0 : Int32) (h : jx_H) : DM (d + 1) 128 [vi x0] h = F128_0 (DM d) x0 h := rfl
theorem d129 (d : Nat) (x1 : Int32) (x2 : Int32) (x3 : Int32) (h : jx_H) : DM (d + 1) 129 [vr 30 0, vi x1, vi x2, vi x3] h = F129_0 (DM d) x1 x2 x3 h := rfl
theorem d130 (d : Nat) (x1 : Int32) (x2 : Int32) (x3 : Int32) (x4 : Int32) (x5 : Int32) (h : jx_H) : DM (d + 1) 130 [vr 30 0, vi x1, vi x2, vi x3, vi x4, vi x5] h = F130_0 (DM d) x1 x2 x3 x4 x5 h := rfl
theorem d131 (d : Nat) (x1 : Int32) (x2 : Int32) (x3 : Int32) (h : jx_H) : DM (d + 1) 131 [vr 30 0, vi x1, vi x2, vi x3] h = F131_0 (DM d) x1 x2 x3 h := rfl
theorem d132 (d : Nat) (x1 : Int32) (h : jx_H) : DM (d + 1) 132 [vr 30 0, vi x1] h = F132_0 (DM d) x1 h := rfl
theorem d133 (d : Nat) (x1 : Int32) (x2 : Int32) (h : jx_H) : DM (d + 1) 133 [vr 30 0, vi x1, vi x2] h = F133_0 (DM d) x1 x2 h := rfl
theorem d134 (d : Nat) (x1 : Int32) (x2 : Int32) (h : jx_H) : DM (d + 1) 134 [vr 30 0, vi x1, vi x2] h = F134_0 (DM d) x1 x2 h := rfl
theorem d135 (d : Nat) (h : jx_H) : DM (d + 1) 135 [vr 30 0] h = F135_0 (DM d) h := rfl
theorem d136 (d : Nat) (x0 : Int32) (x1 : Int32) (h : jx_H) : DM (d + 1) 136 [vi x0, vi x1] h = F136_0 (DM d) x0 x1 h := rfl
theorem d137 (d : Nat) (h : jx_H) : DM (d + 1) 137 [vr 30 0] h = F137_0 (DM d) h := rfl
theorem d138 (d : Nat) (x1 : Int32) (x2 : Int32) (x3 : Int32) (h : jx_H) : DM (d + 1) 138 [vr 30 0, vi x1, vi x2, vi x3] h = F138_0 (DM d) x1 x2 x3 h := rfl
theorem d139 (d : Nat) (x1 : Int32) (x2 : Int32) (h : jx_H) : DM (d + 1) 139 [vr 30 0, vi x1, vi x2] h = F139_0 (DM d) x1 x2 h := rfl
theorem d140 (d : Nat) (x0 : Int32) (h : jx_H) : DM (d + 1) 140 [vi x0] h = F140_0 (DM d) x0 h := rfl
theorem d141 (d : Nat) (h : jx_H) : DM (d + 1) 141 [vr 30 0] h = F141_0 (DM d) h := rfl
theorem d142 (d : Nat) (x1 : Int32) (x2 : Int32) (h : jx_H) : DM (d + 1) 142 [vr 30 0, vi x1, vi x2] h = F142_0 (DM d) x1 x2 h := rfl
theorem d143 (d : Nat) (x1 : Int32) (h : jx_H) : DM (d + 1) 143 [vr 30 0, vi x1] h = F143_0 (DM d) x1 h := rfl
theorem d144 (d : Nat) (x1 : Int32) (x2 : Int32) (h : jx_H) : DM (d + 1) 144 [vr 30 0, vi x1, vi x2] h = F144_0 (DM d) x1 x2 h := rfl
theorem d145 (d : Nat) (x1 : Int32) (x2 : Int32) (x3 : Int32) (h : jx_H) : DM (d + 1) 145 [vr 30 0, vi x1, vi x2, vi x3] h = F145_0 (DM d) x1 x2 x3 h := rfl
theorem d146 (d : Nat) (x1 : Int32) (x2 : Int32) (h : jx_H) : DM (d + 1) 146 [vr 30 0, vi x1, vi x2] h = F146_0 (DM d) x1 x2 h := rfl
theorem d147 (d : Nat) (x1 : Int32) (x2 : Int32) (h : jx_H) : DM (d + 1) 147 [vr 30 0, vi x1, vi x2] h = F147_0 (DM d) x1 x2 h := rfl
theorem d148 (d : Nat) (x1 : Int32) (x2 : Int32) (h : jx_H) : DM (d + 1) 148 [vr 30 0, vi x1, vi x2] h = F148_0 (DM d) x1 x2 h := rfl
theorem d149 (d : Nat) (h : jx_H) : DM (d + 1) 149 [vr 30 0] h = F149_0 (DM d) h := rfl
theorem d150 (d : Nat) (h : jx_H) : DM (d + 1) 150 [vr 30 0] h = F150_0 (DM d) h := rfl
theorem d151 (d : Nat) (x1 : Int32) (h : jx_H) : DM (d + 1) 151 [vr 30 0, vi x1] h = F151_0 (DM d) x1 h := rfl
theorem d152 (d : Nat) (x1 : Int32) (x2 : Int32) (h : jx_H) : DM (d + 1) 152 [vr 30 0, vi x1, vi x2] h = F152_0 (DM d) x1 x2 h := rfl
theorem d153 (d : Nat) (x1 : Int32) (h : jx_H) : DM (d + 1) 153 [vr 30 0, vi x1] h = F153_0 (DM d) x1 h := rfl
theorem d154 (d : Nat) (x1 : Int32) (h : jx_H) : DM (d + 1) 154 [vr 30 0, vi x1] h = F154_0 (DM d) x1 h := rfl
theorem d155 (d : Nat) (x1 : Int32) (h : jx_H) : DM (d + 1) 155 [vr 30 0, vi x1] h = F155_0 (DM d) x1 h := rfl
theorem d156 (d : Nat) (h : jx_H) : DM (d + 1) 156 [vr 30 0] h = F156_0 (DM d) h := rfl
theorem d157 (d : Nat) (h : jx_H) : DM (d + 1) 157 [vr 30 0] h = F157_0 (DM d) h := rfl
theorem d158 (d : Nat) (h : jx_H) : DM (d + 1) 158 [vr 30 0] h = F158_0 (DM d) h := rfl
theorem d159 (d : Nat) (h : jx_H) : DM (d + 1) 159 [vr 30 0] h = F159_0 (DM d) h := rfl
theorem d160 (d : Nat) (x1 : Int32) (h : jx_H) : DM (d + 1) 160 [vr 30 0, vi x1] h = F160_0 (DM d) x1 h := rfl
theorem d161 (d : Nat) (h : jx_H) : DM (d + 1) 161 [vr 30 0] h = F161_0 (DM d) h := rfl
theorem d162 (d : Nat) (x1 : Int32) (h : jx_H) : DM (d + 1) 162 [vr 30 0, vi x1] h = F162_0 (DM d) x1 h := rfl
theorem d163 (d : Nat) (x1 : Int32) (h : jx_H) : DM (d + 1) 163 [vr 30 0, vi x1] h = F163_0 (DM d) x1 h := rfl
theorem d164 (d : Nat) (h : jx_H) : DM (d + 1) 164 [vr 30 0] h = F164_0 (DM d) h := rfl
theorem d165 (d : Nat) (h : jx_H) : DM (d + 1) 165 [vr 30 0] h = F165_0 (DM d) h := rfl
theorem d166 (d : Nat) (h : jx_H) : DM (d + 1) 166 [vr 30 0] h = F166_0 (DM d) h := rfl
theorem d167 (d : Nat) (x1 : Int32) (h : jx_H) : DM (d + 1) 167 [vr 30 0, vi x1] h = F167_0 (DM d) x1 h := rfl
theorem d168 (d : Nat) (h : jx_H) : DM (d + 1) 168 [vr 30 0] h = F168_0 (DM d) h := rfl
theorem d169 (d : Nat) (h : jx_H) : DM (d + 1) 169 [vr 30 0] h = F169_0 (DM d) h := rfl
theorem d170 (d : Nat) (h : jx_H) : DM (d + 1) 170 [vr 30 0] h = F170_0 (DM d) h := rfl
theorem d171 (d : Nat) (x1 : Int32) (h : jx_H) : DM (d + 1) 171 [vr 30 0, vi x1] h = F171_0 (DM d) x1 h := rfl
theorem d172 (d : Nat) (x1 : Int32) (x2 : Int32) (h : jx_H) : DM (d + 1) 172 [vr 30 0, vi x1, vi x2] h = F172_0 (DM d) x1 x2 h := rfl
theorem d173 (d : Nat) (x1 : Int32) (h : jx_H) : DM (d + 1) 173 [vr 30 0, vi x1] h = F173_0 (DM d) x1 h := rfl
theorem d174 (d : Nat) (h : jx_H) : DM (d + 1) 174 [vr 30 0] h = F174_0 (DM d) h := rfl
theorem d175 (d : Nat) (x1 : Int32) (x2 : Int32) (h : jx_H) : DM (d + 1) 175 [vr 30 0, vi x1, vi x2] h = F175_0 (DM d) x1 x2 h := rfl
theorem d176 (d : Nat) (x1 : Int32) (h : jx_H) : DM (d + 1) 176 [vr 30 0, vi x1] h = F176_0 (DM d) x1 h := rfl
theorem d177 (d : Nat) (x0 : Int32) (h : jx_H) : DM (d + 1) 177 [vi x0] h = F177_0 (DM d) x0 h := rfl
theorem d178 (d : Nat) (x1 : Int32) (h : jx_H) : DM (d + 1) 178 [vr 30 0, vi x1] h = F178_0 (DM d) x1 h := rfl
theorem d179 (d : Nat) (x1 : Int32) (x2 : Int32) (h : jx_H) : DM (d + 1) 179 [vr 30 0, vi x1, vi x2] h = F179_0 (DM d) x1 x2 h := rfl
theorem d180 (d : Nat) (x1 : Int32) (h : jx_H) : DM (d + 1) 180 [vr 30 0, vi x1] h = F180_0 (DM d) x1 h := rfl
