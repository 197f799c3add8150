def jb_Inv : jx_H → jx_H → Prop := fun _ _ => True
theorem jb_inv0 : jb_Inv jl_h0 jl_h0 := trivial
theorem jb_steps : jl_steps jb_Inv := sorry
