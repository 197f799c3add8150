/-! ===== layer 2: all steps ===== -/
theorem jb_st0 : jl_s0 jb_Inv := fun _ _ I a0 h => jt_0 (d := 24) I a0 h
theorem jb_st1 : jl_s1 jb_Inv := fun _ _ I => jt_1 (d := 24) I
theorem jb_st2 : jl_s2 jb_Inv := fun _ _ I a0 a1 => jt_2 (d := 24) I a0 a1
theorem jb_st3 : jl_s3 jb_Inv := fun _ _ I a0 a1 a2 h => jt_3 (d := 24) I a0 a1 a2 h
theorem jb_st4 : jl_s4 jb_Inv := fun _ _ I a0 => jt_4 (d := 24) I a0
theorem jb_st5 : jl_s5 jb_Inv := fun _ _ I a0 a1 => jt_5 (d := 24) I a0 a1
theorem jb_st6 : jl_s6 jb_Inv := fun _ _ I a0 a1 => jt_6 (d := 24) I a0 a1
theorem jb_st7 : jl_s7 jb_Inv := fun _ _ I => jt_7 (d := 24) I
theorem jb_st8 : jl_s8 jb_Inv := fun _ _ I a0 a1 a2 => jt_8 (d := 24) I a0 a1 a2
theorem jb_st9 : jl_s9 jb_Inv := fun _ _ I a0 a1 a2 => jt_9 (d := 24) I a0 a1 a2
theorem jb_st10 : jl_s10 jb_Inv := fun _ _ I a0 a1 a2 a3 a4 => jt_10 (d := 24) I a0 a1 a2 a3 a4
theorem jb_st11 : jl_s11 jb_Inv := fun _ _ I a0 => jt_11 (d := 24) I a0
theorem jb_st12 : jl_s12 jb_Inv := fun _ _ I a0 a1 => jt_12 (d := 24) I a0 a1
theorem jb_st13 : jl_s13 jb_Inv := fun _ _ I a0 a1 => jt_13 (d := 24) I a0 a1
theorem jb_st14 : jl_s14 jb_Inv := fun _ _ I => jt_14 (d := 24) I
theorem jb_st15 : jl_s15 jb_Inv := fun _ _ I a0 => jt_15 (d := 24) I a0
theorem jb_st16 : jl_s16 jb_Inv := fun _ _ I a0 a1 => jt_16 (d := 24) I a0 a1
theorem jb_st17 : jl_s17 jb_Inv := fun _ _ I a0 a1 => jt_17 (d := 24) I a0 a1
theorem jb_st18 : jl_s18 jb_Inv := fun _ _ I a0 a1 h => jt_18 (d := 24) I a0 a1 h
theorem jb_st19 : jl_s19 jb_Inv := fun _ _ I => jt_19 (d := 24) I
theorem jb_st20 : jl_s20 jb_Inv := fun _ _ I => jt_20 (d := 24) I
theorem jb_st21 : jl_s21 jb_Inv := fun _ _ I a0 => jt_21 (d := 24) I a0
theorem jb_st22 : jl_s22 jb_Inv := fun _ _ I a0 => jt_22 (d := 24) I a0
theorem jb_st23 : jl_s23 jb_Inv := fun _ _ I a0 => jt_23 (d := 24) I a0
theorem jb_st24 : jl_s24 jb_Inv := fun _ _ I => jt_24 (d := 24) I
theorem jb_st25 : jl_s25 jb_Inv := fun _ _ I => jt_25 (d := 24) I
theorem jb_st26 : jl_s26 jb_Inv := fun _ _ I => jt_26 (d := 24) I
theorem jb_st27 : jl_s27 jb_Inv := fun _ _ I => jt_27 (d := 24) I
theorem jb_st28 : jl_s28 jb_Inv := fun _ _ I a0 => jt_28 (d := 24) I a0
theorem jb_st29 : jl_s29 jb_Inv := fun _ _ I => jt_29 (d := 24) I
theorem jb_st30 : jl_s30 jb_Inv := fun _ _ I => jt_30 (d := 24) I
theorem jb_st31 : jl_s31 jb_Inv := fun _ _ I => jt_31 (d := 24) I
theorem jb_st32 : jl_s32 jb_Inv := fun _ _ I a0 => jt_32 (d := 24) I a0
theorem jb_st33 : jl_s33 jb_Inv := fun _ _ I => jt_33 (d := 24) I
theorem jb_st34 : jl_s34 jb_Inv := fun _ _ I a0 a1 => jt_34 (d := 24) I a0 a1
theorem jb_st35 : jl_s35 jb_Inv := fun _ _ I a0 => jt_35 (d := 24) I a0
theorem jb_st36 : jl_s36 jb_Inv := fun _ _ I a0 => jt_36 (d := 24) I a0
theorem jb_st37 : jl_s37 jb_Inv := fun _ _ I a0 a1 => jt_37 (d := 24) I a0 a1
theorem jb_st38 : jl_s38 jb_Inv := fun _ _ I a0 => jt_38 (d := 24) I a0
theorem jb_steps : jl_steps jb_Inv := ⟨jb_st0, jb_st1, jb_st2, jb_st3, jb_st4, jb_st5, jb_st6, jb_st7, jb_st8, jb_st9, jb_st10, jb_st11, jb_st12, jb_st13, jb_st14, jb_st15, jb_st16, jb_st17, jb_st18, jb_st19, jb_st20, jb_st21, jb_st22, jb_st23, jb_st24, jb_st25, jb_st26, jb_st27, jb_st28, jb_st29, jb_st30, jb_st31, jb_st32, jb_st33, jb_st34, jb_st35, jb_st36, jb_st37, jb_st38⟩
