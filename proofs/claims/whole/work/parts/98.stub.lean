theorem jb_steps : jl_steps jb_Inv := sorry
