theorem jx_swr {ts : List (Int32 × Nat)} {hi : Nat} (h : (List.range (hi + 1)).all (fun j => ts.any (fun t => t.1.toInt == (j : Int))) = true) : ∀ i : Int, 0 ≤ i → i ≤ (hi : Int) → ∃ t ∈ ts, t.1.toInt = i := by
  intro i h1 h2
  have h3 := List.all_eq_true.mp h i.toNat (List.mem_range.mpr (by omega))
  obtain ⟨t, ht, e⟩ := List.any_eq_true.mp h3
  exact ⟨t, ht, by have := eq_of_beq e; omega⟩
set_option maxRecDepth 100000 in
theorem sn_1 (D : jx_D) : jx_all (fun q => jx_Snd cJ6_bitCount_0f7a4 1 RJ6 (some .int) D q.1 q.2) (tb_1 D) := by
  unfold tb_1
  exact jx_all1 (sd_iload_n (pc := 0) (q := 0) (by decide +kernel) rfl) <|
  jx_all1 (sd_iload_n (pc := 1) (q := 0) (by decide +kernel) rfl) <|
  jx_all1 (sd_iconst (pc := 2) (n := 1) (by decide +kernel) (by decide +kernel)) <|
  jx_all1 (sd_iushr (pc := 3) (by decide +kernel)) <|
  jx_all1 (sd_ldcw (pc := 4) (i := 265) (by decide +kernel) wd_506) <|
  jx_all1 (sd_iand (pc := 7) (by decide +kernel)) <|
  jx_all1 (sd_isub (pc := 8) (by decide +kernel)) <|
  jx_all1 (sd_istore_n (pc := 9) (q := 0) (by decide +kernel) rfl) <|
  jx_all1 (sd_iload_n (pc := 10) (q := 0) (by decide +kernel) rfl) <|
  jx_all1 (sd_ldcw (pc := 11) (i := 266) (by decide +kernel) wd_507) <|
  jx_all1 (sd_iand (pc := 14) (by decide +kernel)) <|
  jx_all1 (sd_iload_n (pc := 15) (q := 0) (by decide +kernel) rfl) <|
  jx_all1 (sd_iconst (pc := 16) (n := 2) (by decide +kernel) (by decide +kernel)) <|
  jx_all1 (sd_iushr (pc := 17) (by decide +kernel)) <|
  jx_all1 (sd_ldcw (pc := 18) (i := 266) (by decide +kernel) wd_507) <|
  jx_all1 (sd_iand (pc := 21) (by decide +kernel)) <|
  jx_all1 (sd_iadd (pc := 22) (by decide +kernel)) <|
  jx_all1 (sd_istore_n (pc := 23) (q := 0) (by decide +kernel) rfl) <|
  jx_all1 (sd_iload_n (pc := 24) (q := 0) (by decide +kernel) rfl) <|
  jx_all1 (sd_iload_n (pc := 25) (q := 0) (by decide +kernel) rfl) <|
  jx_all1 (sd_iconst (pc := 26) (n := 4) (by decide +kernel) (by decide +kernel)) <|
  jx_all1 (sd_iushr (pc := 27) (by decide +kernel)) <|
  jx_all1 (sd_iadd (pc := 28) (by decide +kernel)) <|
  jx_all1 (sd_ldcw (pc := 29) (i := 267) (by decide +kernel) wd_508) <|
  jx_all1 (sd_iand (pc := 32) (by decide +kernel)) <|
  jx_all1 (sd_istore_n (pc := 33) (q := 0) (by decide +kernel) rfl) <|
  jx_all1 (sd_iload_n (pc := 34) (q := 0) (by decide +kernel) rfl) <|
  jx_all1 (sd_iload_n (pc := 35) (q := 0) (by decide +kernel) rfl) <|
  jx_all1 (sd_bipush (pc := 36) (n := 8) (by decide +kernel) (by decide +kernel)) <|
  jx_all1 (sd_iushr (pc := 38) (by decide +kernel)) <|
  jx_all1 (sd_iadd (pc := 39) (by decide +kernel)) <|
  jx_all1 (sd_istore_n (pc := 40) (q := 0) (by decide +kernel) rfl) <|
  jx_all1 (sd_iload_n (pc := 41) (q := 0) (by decide +kernel) rfl) <|
  jx_all1 (sd_iload_n (pc := 42) (q := 0) (by decide +kernel) rfl) <|
  jx_all1 (sd_bipush (pc := 43) (n := 16) (by decide +kernel) (by decide +kernel)) <|
  jx_all1 (sd_iushr (pc := 45) (by decide +kernel)) <|
  jx_all1 (sd_iadd (pc := 46) (by decide +kernel)) <|
  jx_all1 (sd_istore_n (pc := 47) (q := 0) (by decide +kernel) rfl) <|
  jx_all1 (sd_iload_n (pc := 48) (q := 0) (by decide +kernel) rfl) <|
  jx_all1 (sd_bipush (pc := 49) (n := 63) (by decide +kernel) (by decide +kernel)) <|
  jx_all1 (sd_iand (pc := 51) (by decide +kernel)) <|
  jx_all1 (sd_ireturn (pc := 52) (by decide +kernel) rfl) <|
  jx_all0
set_option maxRecDepth 100000 in
theorem sn_3 (D : jx_D) : jx_all (fun q => jx_Snd cX9_anew 3 RX9 (some .int) D q.1 q.2) (tb_3 D) := by
  unfold tb_3
  exact jx_all1 (sd_aload_n (pc := 0) (q := 0) (by decide +kernel) rfl) <|
  jx_all1 (sd_gR (pc := 1) kf_0 (f := 0) (q := (jx_f1 1 0)) (idx := 12) (by decide +kernel) rfl wd_301 rfl) <|
  jx_all1 (sd_gI (pc := 4) kf_1 (f := 0) (q := jx_f0) (idx := 83) (by decide +kernel) rfl wd_79 rfl) <|
  jx_all1 (sd_istore_n (pc := 7) (q := 2) (by decide +kernel) rfl) <|
  jx_all1 (sd_aload_n (pc := 8) (q := 0) (by decide +kernel) rfl) <|
  jx_all1 (sd_gR (pc := 9) kf_0 (f := 1) (q := (jx_f1 6 0)) (idx := 19) (by decide +kernel) rfl wd_302 rfl) <|
  jx_all1 (sd_aload_n (pc := 12) (q := 0) (by decide +kernel) rfl) <|
  jx_all1 (sd_gR (pc := 13) kf_0 (f := 0) (q := (jx_f1 1 0)) (idx := 12) (by decide +kernel) rfl wd_301 rfl) <|
  jx_all1 (sd_vV (pc := 16) (idx := 87) (kd := 6) (by decide +kernel) mf_4 wd_348 rfl rfl) <|
  jx_all1 (sd_aload_n (pc := 19) (q := 0) (by decide +kernel) rfl) <|
  jx_all1 (sd_gR (pc := 20) kf_0 (f := 0) (q := (jx_f1 1 0)) (idx := 12) (by decide +kernel) rfl wd_301 rfl) <|
  jx_all1 (sd_iload_n (pc := 23) (q := 1) (by decide +kernel) rfl) <|
  jx_all1 (sd_vV (pc := 24) (idx := 91) (kd := 1) (by decide +kernel) mf_6 wd_362 rfl rfl) <|
  jx_all1 (sd_iload_n (pc := 27) (q := 2) (by decide +kernel) rfl) <|
  jx_all1 (sd_ireturn (pc := 28) (by decide +kernel) rfl) <|
  jx_all0
set_option maxRecDepth 100000 in
theorem sn_4 (D : jx_D) : jx_all (fun q => jx_Snd cX5_remember 2 RX5 none D q.1 q.2) (tb_4 D) := by
  unfold tb_4
  exact jx_all1 (sd_aload_n (pc := 0) (q := 0) (by decide +kernel) rfl) <|
  jx_all1 (sd_gR (pc := 1) kf_6 (f := 0) (q := (jx_f1 7 0)) (idx := 11) (by decide +kernel) rfl wd_128 rfl) <|
  jx_all1 (sd_aload_n (pc := 4) (q := 0) (by decide +kernel) rfl) <|
  jx_all1 (sd_gI (pc := 5) kf_6 (f := 1) (q := jx_f0) (idx := 18) (by decide +kernel) rfl wd_129 rfl) <|
  jx_all1 (sd_aaload (pc := 8) (by decide +kernel)) <|
  jx_all1 (sd_aload_n (pc := 9) (q := 1) (by decide +kernel) rfl) <|
  jx_all1 (sd_vV (pc := 10) (idx := 22) (kd := 1) (by decide +kernel) mf_5 wd_352 rfl rfl) <|
  jx_all1 (sd_aload_n (pc := 13) (q := 0) (by decide +kernel) rfl) <|
  jx_all1 (sd_aload_n (pc := 14) (q := 0) (by decide +kernel) rfl) <|
  jx_all1 (sd_gI (pc := 15) kf_6 (f := 1) (q := jx_f0) (idx := 18) (by decide +kernel) rfl wd_129 rfl) <|
  jx_all1 (sd_iconst (pc := 18) (n := 1) (by decide +kernel) (by decide +kernel)) <|
  jx_all1 (sd_iadd (pc := 19) (by decide +kernel)) <|
  jx_all1 (sd_bipush (pc := 20) (n := 30) (by decide +kernel) (by decide +kernel)) <|
  jx_all1 (sd_irem (pc := 22) (by decide +kernel)) <|
  jx_all1 (sd_pI (pc := 23) kf_6 (f := 1) (q := jx_f0) (idx := 18) (by decide +kernel) rfl wd_129 rfl rfl rfl) <|
  jx_all1 (sd_aload_n (pc := 26) (q := 0) (by decide +kernel) rfl) <|
  jx_all1 (sd_aload_n (pc := 27) (q := 0) (by decide +kernel) rfl) <|
  jx_all1 (sd_gI (pc := 28) kf_6 (f := 2) (q := jx_f0) (idx := 26) (by decide +kernel) rfl wd_130 rfl) <|
  jx_all1 (sd_iconst (pc := 31) (n := 1) (by decide +kernel) (by decide +kernel)) <|
  jx_all1 (sd_iadd (pc := 32) (by decide +kernel)) <|
  jx_all1 (sd_bipush (pc := 33) (n := 30) (by decide +kernel) (by decide +kernel)) <|
  jx_all1 (sd_mmin (pc := 35) (idx := 29) (by decide +kernel) wd_359 wd_360 wd_61 wd_361) <|
  jx_all1 (sd_pI (pc := 38) kf_6 (f := 2) (q := jx_f0) (idx := 26) (by decide +kernel) rfl wd_130 rfl rfl rfl) <|
  jx_all1 (sd_return (pc := 41) (by decide +kernel) rfl) <|
  jx_all0
set_option maxRecDepth 100000 in
theorem sn_5 (D : jx_D) : jx_all (fun q => jx_Snd cX3_become 2 RX3 none D q.1 q.2) (tb_5 D) := by
  unfold tb_5
  exact jx_all1 (sd_aload_n (pc := 0) (q := 0) (by decide +kernel) rfl) <|
  jx_all1 (sd_aload_n (pc := 1) (q := 1) (by decide +kernel) rfl) <|
  jx_all1 (sd_gI (pc := 2) kf_1 (f := 0) (q := jx_f0) (idx := 24) (by decide +kernel) rfl wd_77 rfl) <|
  jx_all1 (sd_pI (pc := 5) kf_1 (f := 0) (q := jx_f0) (idx := 24) (by decide +kernel) rfl wd_77 rfl rfl rfl) <|
  jx_all1 (sd_aload_n (pc := 8) (q := 0) (by decide +kernel) rfl) <|
  jx_all1 (sd_aload_n (pc := 9) (q := 1) (by decide +kernel) rfl) <|
  jx_all1 (sd_gI (pc := 10) kf_1 (f := 1) (q := jx_f0) (idx := 28) (by decide +kernel) rfl wd_81 rfl) <|
  jx_all1 (sd_pI (pc := 13) kf_1 (f := 1) (q := jx_f0) (idx := 28) (by decide +kernel) rfl wd_81 rfl rfl rfl) <|
  jx_all1 (sd_aload_n (pc := 16) (q := 0) (by decide +kernel) rfl) <|
  jx_all1 (sd_aload_n (pc := 17) (q := 1) (by decide +kernel) rfl) <|
  jx_all1 (sd_gI (pc := 18) kf_1 (f := 2) (q := jx_f0) (idx := 31) (by decide +kernel) rfl wd_86 rfl) <|
  jx_all1 (sd_pZ (pc := 21) kf_1 (f := 2) (q := jx_f0) (idx := 31) (by decide +kernel) rfl wd_86 rfl rfl rfl) <|
  jx_all1 (sd_aload_n (pc := 24) (q := 1) (by decide +kernel) rfl) <|
  jx_all1 (sd_gR (pc := 25) kf_1 (f := 3) (q := (jx_fi 2)) (idx := 9) (by decide +kernel) rfl wd_89 rfl) <|
  jx_all1 (sd_iconst (pc := 28) (n := 0) (by decide +kernel) (by decide +kernel)) <|
  jx_all1 (sd_aload_n (pc := 29) (q := 0) (by decide +kernel) rfl) <|
  jx_all1 (sd_gR (pc := 30) kf_1 (f := 3) (q := (jx_fi 2)) (idx := 9) (by decide +kernel) rfl wd_89 rfl) <|
  jx_all1 (sd_iconst (pc := 33) (n := 0) (by decide +kernel) (by decide +kernel)) <|
  jx_all1 (sd_aload_n (pc := 34) (q := 0) (by decide +kernel) rfl) <|
  jx_all1 (sd_gI (pc := 35) kf_1 (f := 1) (q := jx_f0) (idx := 28) (by decide +kernel) rfl wd_81 rfl) <|
  jx_all1 (sd_acp (pc := 38) (idx := 35) (by decide +kernel) wd_356 wd_358 wd_357 wd_60) <|
  jx_all1 (sd_aload_n (pc := 41) (q := 1) (by decide +kernel) rfl) <|
  jx_all1 (sd_gR (pc := 42) kf_1 (f := 4) (q := (jx_fi 3)) (idx := 15) (by decide +kernel) rfl wd_93 rfl) <|
  jx_all1 (sd_iconst (pc := 45) (n := 0) (by decide +kernel) (by decide +kernel)) <|
  jx_all1 (sd_aload_n (pc := 46) (q := 0) (by decide +kernel) rfl) <|
  jx_all1 (sd_gR (pc := 47) kf_1 (f := 4) (q := (jx_fi 3)) (idx := 15) (by decide +kernel) rfl wd_93 rfl) <|
  jx_all1 (sd_iconst (pc := 50) (n := 0) (by decide +kernel) (by decide +kernel)) <|
  jx_all1 (sd_aload_n (pc := 51) (q := 0) (by decide +kernel) rfl) <|
  jx_all1 (sd_gI (pc := 52) kf_1 (f := 1) (q := jx_f0) (idx := 28) (by decide +kernel) rfl wd_81 rfl) <|
  jx_all1 (sd_acp (pc := 55) (idx := 35) (by decide +kernel) wd_356 wd_358 wd_357 wd_60) <|
  jx_all1 (sd_aload_n (pc := 58) (q := 1) (by decide +kernel) rfl) <|
  jx_all1 (sd_gR (pc := 59) kf_1 (f := 5) (q := (jx_fi 4)) (idx := 18) (by decide +kernel) rfl wd_97 rfl) <|
  jx_all1 (sd_iconst (pc := 62) (n := 0) (by decide +kernel) (by decide +kernel)) <|
  jx_all1 (sd_aload_n (pc := 63) (q := 0) (by decide +kernel) rfl) <|
  jx_all1 (sd_gR (pc := 64) kf_1 (f := 5) (q := (jx_fi 4)) (idx := 18) (by decide +kernel) rfl wd_97 rfl) <|
  jx_all1 (sd_iconst (pc := 67) (n := 0) (by decide +kernel) (by decide +kernel)) <|
  jx_all1 (sd_aload_n (pc := 68) (q := 0) (by decide +kernel) rfl) <|
  jx_all1 (sd_gI (pc := 69) kf_1 (f := 1) (q := jx_f0) (idx := 28) (by decide +kernel) rfl wd_81 rfl) <|
  jx_all1 (sd_acp (pc := 72) (idx := 35) (by decide +kernel) wd_356 wd_358 wd_357 wd_60) <|
  jx_all1 (sd_aload_n (pc := 75) (q := 1) (by decide +kernel) rfl) <|
  jx_all1 (sd_gR (pc := 76) kf_1 (f := 6) (q := (jx_fi 5)) (idx := 21) (by decide +kernel) rfl wd_100 rfl) <|
  jx_all1 (sd_iconst (pc := 79) (n := 0) (by decide +kernel) (by decide +kernel)) <|
  jx_all1 (sd_aload_n (pc := 80) (q := 0) (by decide +kernel) rfl) <|
  jx_all1 (sd_gR (pc := 81) kf_1 (f := 6) (q := (jx_fi 5)) (idx := 21) (by decide +kernel) rfl wd_100 rfl) <|
  jx_all1 (sd_iconst (pc := 84) (n := 0) (by decide +kernel) (by decide +kernel)) <|
  jx_all1 (sd_aload_n (pc := 85) (q := 0) (by decide +kernel) rfl) <|
  jx_all1 (sd_gI (pc := 86) kf_1 (f := 1) (q := jx_f0) (idx := 28) (by decide +kernel) rfl wd_81 rfl) <|
  jx_all1 (sd_acp (pc := 89) (idx := 35) (by decide +kernel) wd_356 wd_358 wd_357 wd_60) <|
  jx_all1 (sd_return (pc := 92) (by decide +kernel) rfl) <|
  jx_all0
set_option maxRecDepth 100000 in
theorem sn_6 (D : jx_D) : jx_all (fun q => jx_Snd cX3_empty 2 RX3 none D q.1 q.2) (tb_6 D) := by
  unfold tb_6
  exact jx_all1 (sd_aload_n (pc := 0) (q := 0) (by decide +kernel) rfl) <|
  jx_all1 (sd_iconst (pc := 1) (n := 0) (by decide +kernel) (by decide +kernel)) <|
  jx_all1 (sd_pI (pc := 2) kf_1 (f := 0) (q := jx_f0) (idx := 24) (by decide +kernel) rfl wd_77 rfl rfl rfl) <|
  jx_all1 (sd_aload_n (pc := 5) (q := 0) (by decide +kernel) rfl) <|
  jx_all1 (sd_iconst (pc := 6) (n := 0) (by decide +kernel) (by decide +kernel)) <|
  jx_all1 (sd_pI (pc := 7) kf_1 (f := 1) (q := jx_f0) (idx := 28) (by decide +kernel) rfl wd_81 rfl rfl rfl) <|
  jx_all1 (sd_aload_n (pc := 10) (q := 0) (by decide +kernel) rfl) <|
  jx_all1 (sd_iload_n (pc := 11) (q := 1) (by decide +kernel) rfl) <|
  jx_all1 (sd_pZ (pc := 12) kf_1 (f := 2) (q := jx_f0) (idx := 31) (by decide +kernel) rfl wd_86 rfl rfl rfl) <|
  jx_all1 (sd_return (pc := 15) (by decide +kernel) rfl) <|
  jx_all0
set_option maxRecDepth 100000 in
theorem sn_7 (D : jx_D) : jx_all (fun q => jx_Snd cX9_post 1 RX9 (some .int) D q.1 q.2) (tb_7 D) := by
  unfold tb_7
  exact jx_all1 (sd_aload_n (pc := 0) (q := 0) (by decide +kernel) rfl) <|
  jx_all1 (sd_gR (pc := 1) kf_0 (f := 0) (q := (jx_f1 1 0)) (idx := 12) (by decide +kernel) rfl wd_301 rfl) <|
  jx_all1 (sd_gI (pc := 4) kf_1 (f := 0) (q := jx_f0) (idx := 83) (by decide +kernel) rfl wd_79 rfl) <|
  jx_all1 (sd_bipush (pc := 7) (n := 8) (by decide +kernel) (by decide +kernel)) <|
  jx_all1 (sd_iclt (pc := 9) (off := 10) (by decide +kernel) (by decide +kernel)) <|
  jx_all1 (sd_aload_n (pc := 12) (q := 0) (by decide +kernel) rfl) <|
  jx_all1 (sd_bipush (pc := 13) (n := (-5)) (by decide +kernel) (by decide +kernel)) <|
  jx_all1 (sd_vI (pc := 15) (idx := 95) (kd := 0) (by decide +kernel) mf_8 wd_370 rfl rfl) <|
  jx_all1 (sd_ireturn (pc := 18) (by decide +kernel) rfl) <|
  jx_all1 (sd_aload_n (pc := 19) (q := 0) (by decide +kernel) rfl) <|
  jx_all1 (sd_gR (pc := 20) kf_0 (f := 1) (q := (jx_f1 6 0)) (idx := 19) (by decide +kernel) rfl wd_302 rfl) <|
  jx_all1 (sd_aload_n (pc := 23) (q := 0) (by decide +kernel) rfl) <|
  jx_all1 (sd_gR (pc := 24) kf_0 (f := 0) (q := (jx_f1 1 0)) (idx := 12) (by decide +kernel) rfl wd_301 rfl) <|
  jx_all1 (sd_vV (pc := 27) (idx := 87) (kd := 6) (by decide +kernel) mf_4 wd_348 rfl rfl) <|
  jx_all1 (sd_aload_n (pc := 30) (q := 0) (by decide +kernel) rfl) <|
  jx_all1 (sd_gR (pc := 31) kf_0 (f := 0) (q := (jx_f1 1 0)) (idx := 12) (by decide +kernel) rfl wd_301 rfl) <|
  jx_all1 (sd_vI (pc := 34) (idx := 99) (kd := 1) (by decide +kernel) mf_9 wd_374 rfl rfl) <|
  jx_all1 (sd_ireturn (pc := 37) (by decide +kernel) rfl) <|
  jx_all0
set_option maxRecDepth 100000 in
theorem sn_8 (D : jx_D) : jx_all (fun q => jx_Snd cX9_finding 2 RX9 (some .int) D q.1 q.2) (tb_8 D) := by
  unfold tb_8
  exact jx_all1 (sd_aload_n (pc := 0) (q := 0) (by decide +kernel) rfl) <|
  jx_all1 (sd_dup (pc := 1) (by decide +kernel)) <|
  jx_all1 (sd_gI (pc := 2) kf_0 (f := 7) (q := jx_f0) (idx := 304) (by decide +kernel) rfl wd_308 rfl) <|
  jx_all1 (sd_iconst (pc := 5) (n := 1) (by decide +kernel) (by decide +kernel)) <|
  jx_all1 (sd_iadd (pc := 6) (by decide +kernel)) <|
  jx_all1 (sd_pI (pc := 7) kf_0 (f := 7) (q := jx_f0) (idx := 304) (by decide +kernel) rfl wd_308 rfl rfl rfl) <|
  jx_all1 (sd_iload_n (pc := 10) (q := 1) (by decide +kernel) rfl) <|
  jx_all1 (sd_ireturn (pc := 11) (by decide +kernel) rfl) <|
  jx_all0
set_option maxRecDepth 100000 in
theorem sn_9 (D : jx_D) : jx_all (fun q => jx_Snd cX3_addPost 1 RX3 (some .int) D q.1 q.2) (tb_9 D) := by
  unfold tb_9
  exact jx_all1 (sd_aload_n (pc := 0) (q := 0) (by decide +kernel) rfl) <|
  jx_all1 (sd_dup (pc := 1) (by decide +kernel)) <|
  jx_all1 (sd_gI (pc := 2) kf_1 (f := 0) (q := jx_f0) (idx := 24) (by decide +kernel) rfl wd_77 rfl) <|
  jx_all1 (sd_iconst (pc := 5) (n := 1) (by decide +kernel) (by decide +kernel)) <|
  jx_all1 (sd_iadd (pc := 6) (by decide +kernel)) <|
  jx_all1 (sd_pI (pc := 7) kf_1 (f := 0) (q := jx_f0) (idx := 24) (by decide +kernel) rfl wd_77 rfl rfl rfl) <|
  jx_all1 (sd_aload_n (pc := 10) (q := 0) (by decide +kernel) rfl) <|
  jx_all1 (sd_gI (pc := 11) kf_1 (f := 0) (q := jx_f0) (idx := 24) (by decide +kernel) rfl wd_77 rfl) <|
  jx_all1 (sd_iconst (pc := 14) (n := 1) (by decide +kernel) (by decide +kernel)) <|
  jx_all1 (sd_isub (pc := 15) (by decide +kernel)) <|
  jx_all1 (sd_ireturn (pc := 16) (by decide +kernel) rfl) <|
  jx_all0
set_option maxRecDepth 100000 in
theorem sn_10 (D : jx_D) : jx_all (fun q => jx_Snd cX9_road 4 RX9 (some .int) D q.1 q.2) (tb_10 D) := by
  unfold tb_10
  exact jx_all1 (sd_aload_n (pc := 0) (q := 0) (by decide +kernel) rfl) <|
  jx_all1 (sd_iload_n (pc := 1) (q := 1) (by decide +kernel) rfl) <|
  jx_all1 (sd_iload_n (pc := 2) (q := 2) (by decide +kernel) rfl) <|
  jx_all1 (sd_vI (pc := 3) (idx := 103) (kd := 0) (by decide +kernel) mf_11 wd_382 rfl rfl) <|
  jx_all1 (sd_istore_n (pc := 6) (q := 3) (by decide +kernel) rfl) <|
  jx_all1 (sd_iload_n (pc := 7) (q := 3) (by decide +kernel) rfl) <|
  jx_all1 (sd_ifne (pc := 8) (off := 18) (by decide +kernel) (by decide +kernel)) <|
  jx_all1 (sd_aload_n (pc := 11) (q := 0) (by decide +kernel) rfl) <|
  jx_all1 (sd_gR (pc := 12) kf_0 (f := 0) (q := (jx_f1 1 0)) (idx := 12) (by decide +kernel) rfl wd_301 rfl) <|
  jx_all1 (sd_gI (pc := 15) kf_1 (f := 1) (q := jx_f0) (idx := 107) (by decide +kernel) rfl wd_85 rfl) <|
  jx_all1 (sd_bipush (pc := 18) (n := 20) (by decide +kernel) (by decide +kernel)) <|
  jx_all1 (sd_iclt (pc := 20) (off := 6) (by decide +kernel) (by decide +kernel)) <|
  jx_all1 (sd_bipush (pc := 23) (n := (-5)) (by decide +kernel) (by decide +kernel)) <|
  jx_all1 (sd_istore_n (pc := 25) (q := 3) (by decide +kernel) rfl) <|
  jx_all1 (sd_iload_n (pc := 26) (q := 3) (by decide +kernel) rfl) <|
  jx_all1 (sd_ifeq (pc := 27) (off := 9) (by decide +kernel) (by decide +kernel)) <|
  jx_all1 (sd_aload_n (pc := 30) (q := 0) (by decide +kernel) rfl) <|
  jx_all1 (sd_iload_n (pc := 31) (q := 3) (by decide +kernel) rfl) <|
  jx_all1 (sd_vI (pc := 32) (idx := 95) (kd := 0) (by decide +kernel) mf_8 wd_370 rfl rfl) <|
  jx_all1 (sd_ireturn (pc := 35) (by decide +kernel) rfl) <|
  jx_all1 (sd_aload_n (pc := 36) (q := 0) (by decide +kernel) rfl) <|
  jx_all1 (sd_gR (pc := 37) kf_0 (f := 1) (q := (jx_f1 6 0)) (idx := 19) (by decide +kernel) rfl wd_302 rfl) <|
  jx_all1 (sd_aload_n (pc := 40) (q := 0) (by decide +kernel) rfl) <|
  jx_all1 (sd_gR (pc := 41) kf_0 (f := 0) (q := (jx_f1 1 0)) (idx := 12) (by decide +kernel) rfl wd_301 rfl) <|
  jx_all1 (sd_vV (pc := 44) (idx := 87) (kd := 6) (by decide +kernel) mf_4 wd_348 rfl rfl) <|
  jx_all1 (sd_aload_n (pc := 47) (q := 0) (by decide +kernel) rfl) <|
  jx_all1 (sd_gR (pc := 48) kf_0 (f := 0) (q := (jx_f1 1 0)) (idx := 12) (by decide +kernel) rfl wd_301 rfl) <|
  jx_all1 (sd_iload_n (pc := 51) (q := 1) (by decide +kernel) rfl) <|
  jx_all1 (sd_iload_n (pc := 52) (q := 2) (by decide +kernel) rfl) <|
  jx_all1 (sd_vI (pc := 53) (idx := 110) (kd := 1) (by decide +kernel) mf_13 wd_390 rfl rfl) <|
  jx_all1 (sd_ireturn (pc := 56) (by decide +kernel) rfl) <|
  jx_all0
set_option maxRecDepth 100000 in
theorem sn_11 (D : jx_D) : jx_all (fun q => jx_Snd cX9_faultOfTwo 3 RX9 (some .int) D q.1 q.2) (tb_11 D) := by
  unfold tb_11
  exact jx_all1 (sd_aload_n (pc := 0) (q := 0) (by decide +kernel) rfl) <|
  jx_all1 (sd_iload_n (pc := 1) (q := 1) (by decide +kernel) rfl) <|
  jx_all1 (sd_vI (pc := 2) (idx := 130) (kd := 0) (by decide +kernel) mf_12 wd_386 rfl rfl) <|
  jx_all1 (sd_ifne (pc := 5) (off := 11) (by decide +kernel) (by decide +kernel)) <|
  jx_all1 (sd_aload_n (pc := 8) (q := 0) (by decide +kernel) rfl) <|
  jx_all1 (sd_iload_n (pc := 9) (q := 2) (by decide +kernel) rfl) <|
  jx_all1 (sd_vI (pc := 10) (idx := 130) (kd := 0) (by decide +kernel) mf_12 wd_386 rfl rfl) <|
  jx_all1 (sd_ifeq (pc := 13) (off := 5) (by decide +kernel) (by decide +kernel)) <|
  jx_all1 (sd_iconst (pc := 16) (n := (-1)) (by decide +kernel) (by decide +kernel)) <|
  jx_all1 (sd_ireturn (pc := 17) (by decide +kernel) rfl) <|
  jx_all1 (sd_iload_n (pc := 18) (q := 1) (by decide +kernel) rfl) <|
  jx_all1 (sd_iload_n (pc := 19) (q := 2) (by decide +kernel) rfl) <|
  jx_all1 (sd_icne (pc := 20) (off := 8) (by decide +kernel) (by decide +kernel)) <|
  jx_all1 (sd_bipush (pc := 23) (n := (-3)) (by decide +kernel) (by decide +kernel)) <|
  jx_all1 (sd_goto (pc := 25) (off := 4) (by decide +kernel) (by decide +kernel)) <|
  jx_all1 (sd_iconst (pc := 28) (n := 0) (by decide +kernel) (by decide +kernel)) <|
  jx_all1 (sd_ireturn (pc := 29) (by decide +kernel) rfl) <|
  jx_all0
set_option maxRecDepth 100000 in
theorem sn_12 (D : jx_D) : jx_all (fun q => jx_Snd cX9_isNoPost 2 RX9 (some .boolean) D q.1 q.2) (tb_12 D) := by
  unfold tb_12
  exact jx_all1 (sd_iload_n (pc := 0) (q := 1) (by decide +kernel) rfl) <|
  jx_all1 (sd_iflt (pc := 1) (off := 14) (by decide +kernel) (by decide +kernel)) <|
  jx_all1 (sd_iload_n (pc := 4) (q := 1) (by decide +kernel) rfl) <|
  jx_all1 (sd_aload_n (pc := 5) (q := 0) (by decide +kernel) rfl) <|
  jx_all1 (sd_gR (pc := 6) kf_0 (f := 0) (q := (jx_f1 1 0)) (idx := 12) (by decide +kernel) rfl wd_301 rfl) <|
  jx_all1 (sd_gI (pc := 9) kf_1 (f := 0) (q := jx_f0) (idx := 83) (by decide +kernel) rfl wd_79 rfl) <|
  jx_all1 (sd_iclt (pc := 12) (off := 7) (by decide +kernel) (by decide +kernel)) <|
  jx_all1 (sd_iconst (pc := 15) (n := 1) (by decide +kernel) (by decide +kernel)) <|
  jx_all1 (sd_goto (pc := 16) (off := 4) (by decide +kernel) (by decide +kernel)) <|
  jx_all1 (sd_iconst (pc := 19) (n := 0) (by decide +kernel) (by decide +kernel)) <|
  jx_all1 (sd_zreturn (pc := 20) (by decide +kernel) rfl) <|
  jx_all0
set_option maxRecDepth 100000 in
theorem sn_13 (D : jx_D) : jx_all (fun q => jx_Snd cX3_addRoad 4 RX3 (some .int) D q.1 q.2) (tb_13 D) := by
  unfold tb_13
  exact jx_all1 (sd_aload_n (pc := 0) (q := 0) (by decide +kernel) rfl) <|
  jx_all1 (sd_gI (pc := 1) kf_1 (f := 1) (q := jx_f0) (idx := 28) (by decide +kernel) rfl wd_81 rfl) <|
  jx_all1 (sd_istore_n (pc := 4) (q := 3) (by decide +kernel) rfl) <|
  jx_all1 (sd_aload_n (pc := 5) (q := 0) (by decide +kernel) rfl) <|
  jx_all1 (sd_gR (pc := 6) kf_1 (f := 3) (q := (jx_fi 2)) (idx := 9) (by decide +kernel) rfl wd_89 rfl) <|
  jx_all1 (sd_iload_n (pc := 9) (q := 3) (by decide +kernel) rfl) <|
  jx_all1 (sd_iload_n (pc := 10) (q := 1) (by decide +kernel) rfl) <|
  jx_all1 (sd_iastore (pc := 11) (by decide +kernel)) <|
  jx_all1 (sd_aload_n (pc := 12) (q := 0) (by decide +kernel) rfl) <|
  jx_all1 (sd_gR (pc := 13) kf_1 (f := 4) (q := (jx_fi 3)) (idx := 15) (by decide +kernel) rfl wd_93 rfl) <|
  jx_all1 (sd_iload_n (pc := 16) (q := 3) (by decide +kernel) rfl) <|
  jx_all1 (sd_iload_n (pc := 17) (q := 2) (by decide +kernel) rfl) <|
  jx_all1 (sd_iastore (pc := 18) (by decide +kernel)) <|
  jx_all1 (sd_aload_n (pc := 19) (q := 0) (by decide +kernel) rfl) <|
  jx_all1 (sd_gR (pc := 20) kf_1 (f := 5) (q := (jx_fi 4)) (idx := 18) (by decide +kernel) rfl wd_97 rfl) <|
  jx_all1 (sd_iload_n (pc := 23) (q := 3) (by decide +kernel) rfl) <|
  jx_all1 (sd_iconst (pc := 24) (n := 1) (by decide +kernel) (by decide +kernel)) <|
  jx_all1 (sd_iastore (pc := 25) (by decide +kernel)) <|
  jx_all1 (sd_aload_n (pc := 26) (q := 0) (by decide +kernel) rfl) <|
  jx_all1 (sd_gR (pc := 27) kf_1 (f := 6) (q := (jx_fi 5)) (idx := 21) (by decide +kernel) rfl wd_100 rfl) <|
  jx_all1 (sd_iload_n (pc := 30) (q := 3) (by decide +kernel) rfl) <|
  jx_all1 (sd_iconst (pc := 31) (n := 4) (by decide +kernel) (by decide +kernel)) <|
  jx_all1 (sd_iastore (pc := 32) (by decide +kernel)) <|
  jx_all1 (sd_aload_n (pc := 33) (q := 0) (by decide +kernel) rfl) <|
  jx_all1 (sd_dup (pc := 34) (by decide +kernel)) <|
  jx_all1 (sd_gI (pc := 35) kf_1 (f := 1) (q := jx_f0) (idx := 28) (by decide +kernel) rfl wd_81 rfl) <|
  jx_all1 (sd_iconst (pc := 38) (n := 1) (by decide +kernel) (by decide +kernel)) <|
  jx_all1 (sd_iadd (pc := 39) (by decide +kernel)) <|
  jx_all1 (sd_pI (pc := 40) kf_1 (f := 1) (q := jx_f0) (idx := 28) (by decide +kernel) rfl wd_81 rfl rfl rfl) <|
  jx_all1 (sd_iload_n (pc := 43) (q := 3) (by decide +kernel) rfl) <|
  jx_all1 (sd_ireturn (pc := 44) (by decide +kernel) rfl) <|
  jx_all0
set_option maxRecDepth 100000 in
theorem sn_14 (D : jx_D) : jx_all (fun q => jx_Snd cX9_worth 6 RX9 (some .int) D q.1 q.2) (tb_14 D) := by
  unfold tb_14
  exact jx_all1 (sd_aload_n (pc := 0) (q := 0) (by decide +kernel) rfl) <|
  jx_all1 (sd_iload_n (pc := 1) (q := 1) (by decide +kernel) rfl) <|
  jx_all1 (sd_vI (pc := 2) (idx := 113) (kd := 0) (by decide +kernel) mf_15 wd_398 rfl rfl) <|
  jx_all1 (sd_ifne (pc := 5) (off := 23) (by decide +kernel) (by decide +kernel)) <|
  jx_all1 (sd_iload_n (pc := 8) (q := 3) (by decide +kernel) rfl) <|
  jx_all1 (sd_iflt (pc := 9) (off := 19) (by decide +kernel) (by decide +kernel)) <|
  jx_all1 (sd_iload_n (pc := 12) (q := 3) (by decide +kernel) rfl) <|
  jx_all1 (sd_iload_n (pc := 13) (q := 2) (by decide +kernel) rfl) <|
  jx_all1 (sd_ifeq (pc := 14) (off := 8) (by decide +kernel) (by decide +kernel)) <|
  jx_all1 (sd_bipush (pc := 17) (n := 8) (by decide +kernel) (by decide +kernel)) <|
  jx_all1 (sd_goto (pc := 19) (off := 6) (by decide +kernel) (by decide +kernel)) <|
  jx_all1 (sd_sipush (pc := 22) (n := 1000) (by decide +kernel) (by decide +kernel)) <|
  jx_all1 (sd_icle (pc := 25) (off := 9) (by decide +kernel) (by decide +kernel)) <|
  jx_all1 (sd_aload_n (pc := 28) (q := 0) (by decide +kernel) rfl) <|
  jx_all1 (sd_iconst (pc := 29) (n := (-1)) (by decide +kernel) (by decide +kernel)) <|
  jx_all1 (sd_vI (pc := 30) (idx := 95) (kd := 0) (by decide +kernel) mf_8 wd_370 rfl rfl) <|
  jx_all1 (sd_ireturn (pc := 33) (by decide +kernel) rfl) <|
  jx_all1 (sd_aload_n (pc := 34) (q := 0) (by decide +kernel) rfl) <|
  jx_all1 (sd_gR (pc := 35) kf_0 (f := 1) (q := (jx_f1 6 0)) (idx := 19) (by decide +kernel) rfl wd_302 rfl) <|
  jx_all1 (sd_aload_n (pc := 38) (q := 0) (by decide +kernel) rfl) <|
  jx_all1 (sd_gR (pc := 39) kf_0 (f := 0) (q := (jx_f1 1 0)) (idx := 12) (by decide +kernel) rfl wd_301 rfl) <|
  jx_all1 (sd_vV (pc := 42) (idx := 87) (kd := 6) (by decide +kernel) mf_4 wd_348 rfl rfl) <|
  jx_all1 (sd_iload_n (pc := 45) (q := 2) (by decide +kernel) rfl) <|
  jx_all1 (sd_ifeq (pc := 46) (off := 13) (by decide +kernel) (by decide +kernel)) <|
  jx_all1 (sd_aload_n (pc := 49) (q := 0) (by decide +kernel) rfl) <|
  jx_all1 (sd_gR (pc := 50) kf_0 (f := 0) (q := (jx_f1 1 0)) (idx := 12) (by decide +kernel) rfl wd_301 rfl) <|
  jx_all1 (sd_gR (pc := 53) kf_1 (f := 6) (q := (jx_fi 5)) (idx := 117) (by decide +kernel) rfl wd_102 rfl) <|
  jx_all1 (sd_goto (pc := 56) (off := 10) (by decide +kernel) (by decide +kernel)) <|
  jx_all1 (sd_aload_n (pc := 59) (q := 0) (by decide +kernel) rfl) <|
  jx_all1 (sd_gR (pc := 60) kf_0 (f := 0) (q := (jx_f1 1 0)) (idx := 12) (by decide +kernel) rfl wd_301 rfl) <|
  jx_all1 (sd_gR (pc := 63) kf_1 (f := 5) (q := (jx_fi 4)) (idx := 120) (by decide +kernel) rfl wd_99 rfl) <|
  jx_all1 (sd_astore (pc := 66) (by decide +kernel)) <|
  jx_all1 (sd_aload (pc := 68) (by decide +kernel)) <|
  jx_all1 (sd_iload_n (pc := 70) (q := 1) (by decide +kernel) rfl) <|
  jx_all1 (sd_iaload (pc := 71) (by decide +kernel)) <|
  jx_all1 (sd_istore (pc := 72) (by decide +kernel)) <|
  jx_all1 (sd_aload (pc := 74) (by decide +kernel)) <|
  jx_all1 (sd_iload_n (pc := 76) (q := 1) (by decide +kernel) rfl) <|
  jx_all1 (sd_iload_n (pc := 77) (q := 3) (by decide +kernel) rfl) <|
  jx_all1 (sd_iastore (pc := 78) (by decide +kernel)) <|
  jx_all1 (sd_iload (pc := 79) (by decide +kernel)) <|
  jx_all1 (sd_ireturn (pc := 81) (by decide +kernel) rfl) <|
  jx_all0
set_option maxRecDepth 100000 in
theorem sn_15 (D : jx_D) : jx_all (fun q => jx_Snd cX9_isNoRoad 2 RX9 (some .boolean) D q.1 q.2) (tb_15 D) := by
  unfold tb_15
  exact jx_all1 (sd_iload_n (pc := 0) (q := 1) (by decide +kernel) rfl) <|
  jx_all1 (sd_iflt (pc := 1) (off := 14) (by decide +kernel) (by decide +kernel)) <|
  jx_all1 (sd_iload_n (pc := 4) (q := 1) (by decide +kernel) rfl) <|
  jx_all1 (sd_aload_n (pc := 5) (q := 0) (by decide +kernel) rfl) <|
  jx_all1 (sd_gR (pc := 6) kf_0 (f := 0) (q := (jx_f1 1 0)) (idx := 12) (by decide +kernel) rfl wd_301 rfl) <|
  jx_all1 (sd_gI (pc := 9) kf_1 (f := 1) (q := jx_f0) (idx := 107) (by decide +kernel) rfl wd_85 rfl) <|
  jx_all1 (sd_iclt (pc := 12) (off := 7) (by decide +kernel) (by decide +kernel)) <|
  jx_all1 (sd_iconst (pc := 15) (n := 1) (by decide +kernel) (by decide +kernel)) <|
  jx_all1 (sd_goto (pc := 16) (off := 4) (by decide +kernel) (by decide +kernel)) <|
  jx_all1 (sd_iconst (pc := 19) (n := 0) (by decide +kernel) (by decide +kernel)) <|
  jx_all1 (sd_zreturn (pc := 20) (by decide +kernel) rfl) <|
  jx_all0
set_option maxRecDepth 100000 in
theorem sn_16 (D : jx_D) : jx_all (fun q => jx_Snd cX9_drop 2 RX9 (some .int) D q.1 q.2) (tb_16 D) := by
  unfold tb_16
  exact jx_all1 (sd_aload_n (pc := 0) (q := 0) (by decide +kernel) rfl) <|
  jx_all1 (sd_iload_n (pc := 1) (q := 1) (by decide +kernel) rfl) <|
  jx_all1 (sd_vI (pc := 2) (idx := 113) (kd := 0) (by decide +kernel) mf_15 wd_398 rfl rfl) <|
  jx_all1 (sd_ifeq (pc := 5) (off := 9) (by decide +kernel) (by decide +kernel)) <|
  jx_all1 (sd_aload_n (pc := 8) (q := 0) (by decide +kernel) rfl) <|
  jx_all1 (sd_iconst (pc := 9) (n := (-1)) (by decide +kernel) (by decide +kernel)) <|
  jx_all1 (sd_vI (pc := 10) (idx := 95) (kd := 0) (by decide +kernel) mf_8 wd_370 rfl rfl) <|
  jx_all1 (sd_ireturn (pc := 13) (by decide +kernel) rfl) <|
  jx_all1 (sd_aload_n (pc := 14) (q := 0) (by decide +kernel) rfl) <|
  jx_all1 (sd_gR (pc := 15) kf_0 (f := 1) (q := (jx_f1 6 0)) (idx := 19) (by decide +kernel) rfl wd_302 rfl) <|
  jx_all1 (sd_aload_n (pc := 18) (q := 0) (by decide +kernel) rfl) <|
  jx_all1 (sd_gR (pc := 19) kf_0 (f := 0) (q := (jx_f1 1 0)) (idx := 12) (by decide +kernel) rfl wd_301 rfl) <|
  jx_all1 (sd_vV (pc := 22) (idx := 87) (kd := 6) (by decide +kernel) mf_4 wd_348 rfl rfl) <|
  jx_all1 (sd_aload_n (pc := 25) (q := 0) (by decide +kernel) rfl) <|
  jx_all1 (sd_gR (pc := 26) kf_0 (f := 0) (q := (jx_f1 1 0)) (idx := 12) (by decide +kernel) rfl wd_301 rfl) <|
  jx_all1 (sd_aload_n (pc := 29) (q := 0) (by decide +kernel) rfl) <|
  jx_all1 (sd_gR (pc := 30) kf_0 (f := 0) (q := (jx_f1 1 0)) (idx := 12) (by decide +kernel) rfl wd_301 rfl) <|
  jx_all1 (sd_gI (pc := 33) kf_1 (f := 1) (q := jx_f0) (idx := 107) (by decide +kernel) rfl wd_85 rfl) <|
  jx_all1 (sd_cI (pc := 36) (idx := 123) (by decide +kernel) mf_17 (Or.inl wd_406)) <|
  jx_all1 (sd_iconst (pc := 39) (n := 1) (by decide +kernel) (by decide +kernel)) <|
  jx_all1 (sd_iload_n (pc := 40) (q := 1) (by decide +kernel) rfl) <|
  jx_all1 (sd_ishl (pc := 41) (by decide +kernel)) <|
  jx_all1 (sd_iconst (pc := 42) (n := (-1)) (by decide +kernel) (by decide +kernel)) <|
  jx_all1 (sd_ixor (pc := 43) (by decide +kernel)) <|
  jx_all1 (sd_iand (pc := 44) (by decide +kernel)) <|
  jx_all1 (sd_vV (pc := 45) (idx := 126) (kd := 1) (by decide +kernel) mf_18 wd_409 rfl rfl) <|
  jx_all1 (sd_aload_n (pc := 48) (q := 0) (by decide +kernel) rfl) <|
  jx_all1 (sd_gR (pc := 49) kf_0 (f := 0) (q := (jx_f1 1 0)) (idx := 12) (by decide +kernel) rfl wd_301 rfl) <|
  jx_all1 (sd_gI (pc := 52) kf_1 (f := 1) (q := jx_f0) (idx := 107) (by decide +kernel) rfl wd_85 rfl) <|
  jx_all1 (sd_ireturn (pc := 55) (by decide +kernel) rfl) <|
  jx_all0
set_option maxRecDepth 100000 in
theorem sn_17 (D : jx_D) : jx_all (fun q => jx_Snd cX9_setOfFirst 1 RX9 (some .int) D q.1 q.2) (tb_17 D) := by
  unfold tb_17
  exact jx_all1 (sd_iconst (pc := 0) (n := 1) (by decide +kernel) (by decide +kernel)) <|
  jx_all1 (sd_iload_n (pc := 1) (q := 0) (by decide +kernel) rfl) <|
  jx_all1 (sd_ishl (pc := 2) (by decide +kernel)) <|
  jx_all1 (sd_iconst (pc := 3) (n := 1) (by decide +kernel) (by decide +kernel)) <|
  jx_all1 (sd_isub (pc := 4) (by decide +kernel)) <|
  jx_all1 (sd_ireturn (pc := 5) (by decide +kernel) rfl) <|
  jx_all0
set_option maxRecDepth 100000 in
theorem sn_18 (D : jx_D) : jx_all (fun q => jx_Snd cX3_leaveOnly 4 RX3 none D q.1 q.2) (tb_18 D) := by
  unfold tb_18
  exact jx_all1 (sd_aload_n (pc := 0) (q := 0) (by decide +kernel) rfl) <|
  jx_all1 (sd_gI (pc := 1) kf_1 (f := 1) (q := jx_f0) (idx := 28) (by decide +kernel) rfl wd_81 rfl) <|
  jx_all1 (sd_istore_n (pc := 4) (q := 2) (by decide +kernel) rfl) <|
  jx_all1 (sd_aload_n (pc := 5) (q := 0) (by decide +kernel) rfl) <|
  jx_all1 (sd_iconst (pc := 6) (n := 0) (by decide +kernel) (by decide +kernel)) <|
  jx_all1 (sd_pI (pc := 7) kf_1 (f := 1) (q := jx_f0) (idx := 28) (by decide +kernel) rfl wd_81 rfl rfl rfl) <|
  jx_all1 (sd_iconst (pc := 10) (n := 0) (by decide +kernel) (by decide +kernel)) <|
  jx_all1 (sd_istore_n (pc := 11) (q := 3) (by decide +kernel) rfl) <|
  jx_all1 (sd_iload_n (pc := 12) (q := 3) (by decide +kernel) rfl) <|
  jx_all1 (sd_iload_n (pc := 13) (q := 2) (by decide +kernel) rfl) <|
  jx_all1 (sd_icge (pc := 14) (off := 87) (by decide +kernel) (by decide +kernel)) <|
  jx_all1 (sd_iload_n (pc := 17) (q := 1) (by decide +kernel) rfl) <|
  jx_all1 (sd_iload_n (pc := 18) (q := 3) (by decide +kernel) rfl) <|
  jx_all1 (sd_cI (pc := 19) (idx := 41) (by decide +kernel) mf_19 (Or.inr ⟨RX9, by decide +kernel⟩)) <|
  jx_all1 (sd_ifeq (pc := 22) (off := 73) (by decide +kernel) (by decide +kernel)) <|
  jx_all1 (sd_aload_n (pc := 25) (q := 0) (by decide +kernel) rfl) <|
  jx_all1 (sd_gR (pc := 26) kf_1 (f := 3) (q := (jx_fi 2)) (idx := 9) (by decide +kernel) rfl wd_89 rfl) <|
  jx_all1 (sd_aload_n (pc := 29) (q := 0) (by decide +kernel) rfl) <|
  jx_all1 (sd_gI (pc := 30) kf_1 (f := 1) (q := jx_f0) (idx := 28) (by decide +kernel) rfl wd_81 rfl) <|
  jx_all1 (sd_aload_n (pc := 33) (q := 0) (by decide +kernel) rfl) <|
  jx_all1 (sd_gR (pc := 34) kf_1 (f := 3) (q := (jx_fi 2)) (idx := 9) (by decide +kernel) rfl wd_89 rfl) <|
  jx_all1 (sd_iload_n (pc := 37) (q := 3) (by decide +kernel) rfl) <|
  jx_all1 (sd_iaload (pc := 38) (by decide +kernel)) <|
  jx_all1 (sd_iastore (pc := 39) (by decide +kernel)) <|
  jx_all1 (sd_aload_n (pc := 40) (q := 0) (by decide +kernel) rfl) <|
  jx_all1 (sd_gR (pc := 41) kf_1 (f := 4) (q := (jx_fi 3)) (idx := 15) (by decide +kernel) rfl wd_93 rfl) <|
  jx_all1 (sd_aload_n (pc := 44) (q := 0) (by decide +kernel) rfl) <|
  jx_all1 (sd_gI (pc := 45) kf_1 (f := 1) (q := jx_f0) (idx := 28) (by decide +kernel) rfl wd_81 rfl) <|
  jx_all1 (sd_aload_n (pc := 48) (q := 0) (by decide +kernel) rfl) <|
  jx_all1 (sd_gR (pc := 49) kf_1 (f := 4) (q := (jx_fi 3)) (idx := 15) (by decide +kernel) rfl wd_93 rfl) <|
  jx_all1 (sd_iload_n (pc := 52) (q := 3) (by decide +kernel) rfl) <|
  jx_all1 (sd_iaload (pc := 53) (by decide +kernel)) <|
  jx_all1 (sd_iastore (pc := 54) (by decide +kernel)) <|
  jx_all1 (sd_aload_n (pc := 55) (q := 0) (by decide +kernel) rfl) <|
  jx_all1 (sd_gR (pc := 56) kf_1 (f := 5) (q := (jx_fi 4)) (idx := 18) (by decide +kernel) rfl wd_97 rfl) <|
  jx_all1 (sd_aload_n (pc := 59) (q := 0) (by decide +kernel) rfl) <|
  jx_all1 (sd_gI (pc := 60) kf_1 (f := 1) (q := jx_f0) (idx := 28) (by decide +kernel) rfl wd_81 rfl) <|
  jx_all1 (sd_aload_n (pc := 63) (q := 0) (by decide +kernel) rfl) <|
  jx_all1 (sd_gR (pc := 64) kf_1 (f := 5) (q := (jx_fi 4)) (idx := 18) (by decide +kernel) rfl wd_97 rfl) <|
  jx_all1 (sd_iload_n (pc := 67) (q := 3) (by decide +kernel) rfl) <|
  jx_all1 (sd_iaload (pc := 68) (by decide +kernel)) <|
  jx_all1 (sd_iastore (pc := 69) (by decide +kernel)) <|
  jx_all1 (sd_aload_n (pc := 70) (q := 0) (by decide +kernel) rfl) <|
  jx_all1 (sd_gR (pc := 71) kf_1 (f := 6) (q := (jx_fi 5)) (idx := 21) (by decide +kernel) rfl wd_100 rfl) <|
  jx_all1 (sd_aload_n (pc := 74) (q := 0) (by decide +kernel) rfl) <|
  jx_all1 (sd_gI (pc := 75) kf_1 (f := 1) (q := jx_f0) (idx := 28) (by decide +kernel) rfl wd_81 rfl) <|
  jx_all1 (sd_aload_n (pc := 78) (q := 0) (by decide +kernel) rfl) <|
  jx_all1 (sd_gR (pc := 79) kf_1 (f := 6) (q := (jx_fi 5)) (idx := 21) (by decide +kernel) rfl wd_100 rfl) <|
  jx_all1 (sd_iload_n (pc := 82) (q := 3) (by decide +kernel) rfl) <|
  jx_all1 (sd_iaload (pc := 83) (by decide +kernel)) <|
  jx_all1 (sd_iastore (pc := 84) (by decide +kernel)) <|
  jx_all1 (sd_aload_n (pc := 85) (q := 0) (by decide +kernel) rfl) <|
  jx_all1 (sd_dup (pc := 86) (by decide +kernel)) <|
  jx_all1 (sd_gI (pc := 87) kf_1 (f := 1) (q := jx_f0) (idx := 28) (by decide +kernel) rfl wd_81 rfl) <|
  jx_all1 (sd_iconst (pc := 90) (n := 1) (by decide +kernel) (by decide +kernel)) <|
  jx_all1 (sd_iadd (pc := 91) (by decide +kernel)) <|
  jx_all1 (sd_pI (pc := 92) kf_1 (f := 1) (q := jx_f0) (idx := 28) (by decide +kernel) rfl wd_81 rfl rfl rfl) <|
  jx_all1 (sd_iinc (pc := 95) (n := 1) (by decide +kernel) (by decide +kernel)) <|
  jx_all1 (sd_goto (pc := 98) (off := (-86)) (by decide +kernel) (by decide +kernel)) <|
  jx_all1 (sd_return (pc := 101) (by decide +kernel) rfl) <|
  jx_all0
set_option maxRecDepth 100000 in
theorem sn_19 (D : jx_D) : jx_all (fun q => jx_Snd cX9_has 2 RX9 (some .boolean) D q.1 q.2) (tb_19 D) := by
  unfold tb_19
  exact jx_all1 (sd_iload_n (pc := 0) (q := 0) (by decide +kernel) rfl) <|
  jx_all1 (sd_iload_n (pc := 1) (q := 1) (by decide +kernel) rfl) <|
  jx_all1 (sd_ishr (pc := 2) (by decide +kernel)) <|
  jx_all1 (sd_iconst (pc := 3) (n := 1) (by decide +kernel) (by decide +kernel)) <|
  jx_all1 (sd_iand (pc := 4) (by decide +kernel)) <|
  jx_all1 (sd_ifeq (pc := 5) (off := 7) (by decide +kernel) (by decide +kernel)) <|
  jx_all1 (sd_iconst (pc := 8) (n := 1) (by decide +kernel) (by decide +kernel)) <|
  jx_all1 (sd_goto (pc := 9) (off := 4) (by decide +kernel) (by decide +kernel)) <|
  jx_all1 (sd_iconst (pc := 12) (n := 0) (by decide +kernel) (by decide +kernel)) <|
  jx_all1 (sd_zreturn (pc := 13) (by decide +kernel) rfl) <|
  jx_all0
set_option maxRecDepth 100000 in
theorem sn_20 (D : jx_D) : jx_all (fun q => jx_Snd cX9_join 3 RX9 (some .int) D q.1 q.2) (tb_20 D) := by
  unfold tb_20
  exact jx_all1 (sd_aload_n (pc := 0) (q := 0) (by decide +kernel) rfl) <|
  jx_all1 (sd_iload_n (pc := 1) (q := 1) (by decide +kernel) rfl) <|
  jx_all1 (sd_vI (pc := 2) (idx := 130) (kd := 0) (by decide +kernel) mf_12 wd_386 rfl rfl) <|
  jx_all1 (sd_ifne (pc := 5) (off := 11) (by decide +kernel) (by decide +kernel)) <|
  jx_all1 (sd_aload_n (pc := 8) (q := 0) (by decide +kernel) rfl) <|
  jx_all1 (sd_iload_n (pc := 9) (q := 2) (by decide +kernel) rfl) <|
  jx_all1 (sd_vI (pc := 10) (idx := 130) (kd := 0) (by decide +kernel) mf_12 wd_386 rfl rfl) <|
  jx_all1 (sd_ifeq (pc := 13) (off := 9) (by decide +kernel) (by decide +kernel)) <|
  jx_all1 (sd_aload_n (pc := 16) (q := 0) (by decide +kernel) rfl) <|
  jx_all1 (sd_iconst (pc := 17) (n := (-1)) (by decide +kernel) (by decide +kernel)) <|
  jx_all1 (sd_vI (pc := 18) (idx := 95) (kd := 0) (by decide +kernel) mf_8 wd_370 rfl rfl) <|
  jx_all1 (sd_ireturn (pc := 21) (by decide +kernel) rfl) <|
  jx_all1 (sd_iload_n (pc := 22) (q := 1) (by decide +kernel) rfl) <|
  jx_all1 (sd_iload_n (pc := 23) (q := 2) (by decide +kernel) rfl) <|
  jx_all1 (sd_iclt (pc := 24) (off := 10) (by decide +kernel) (by decide +kernel)) <|
  jx_all1 (sd_aload_n (pc := 27) (q := 0) (by decide +kernel) rfl) <|
  jx_all1 (sd_bipush (pc := 28) (n := (-3)) (by decide +kernel) (by decide +kernel)) <|
  jx_all1 (sd_vI (pc := 30) (idx := 95) (kd := 0) (by decide +kernel) mf_8 wd_370 rfl rfl) <|
  jx_all1 (sd_ireturn (pc := 33) (by decide +kernel) rfl) <|
  jx_all1 (sd_aload_n (pc := 34) (q := 0) (by decide +kernel) rfl) <|
  jx_all1 (sd_gR (pc := 35) kf_0 (f := 1) (q := (jx_f1 6 0)) (idx := 19) (by decide +kernel) rfl wd_302 rfl) <|
  jx_all1 (sd_aload_n (pc := 38) (q := 0) (by decide +kernel) rfl) <|
  jx_all1 (sd_gR (pc := 39) kf_0 (f := 0) (q := (jx_f1 1 0)) (idx := 12) (by decide +kernel) rfl wd_301 rfl) <|
  jx_all1 (sd_vV (pc := 42) (idx := 87) (kd := 6) (by decide +kernel) mf_4 wd_348 rfl rfl) <|
  jx_all1 (sd_aload_n (pc := 45) (q := 0) (by decide +kernel) rfl) <|
  jx_all1 (sd_gR (pc := 46) kf_0 (f := 0) (q := (jx_f1 1 0)) (idx := 12) (by decide +kernel) rfl wd_301 rfl) <|
  jx_all1 (sd_iload_n (pc := 49) (q := 1) (by decide +kernel) rfl) <|
  jx_all1 (sd_iload_n (pc := 50) (q := 2) (by decide +kernel) rfl) <|
  jx_all1 (sd_vV (pc := 51) (idx := 133) (kd := 1) (by decide +kernel) mf_21 wd_420 rfl rfl) <|
  jx_all1 (sd_aload_n (pc := 54) (q := 0) (by decide +kernel) rfl) <|
  jx_all1 (sd_gR (pc := 55) kf_0 (f := 0) (q := (jx_f1 1 0)) (idx := 12) (by decide +kernel) rfl wd_301 rfl) <|
  jx_all1 (sd_gI (pc := 58) kf_1 (f := 0) (q := jx_f0) (idx := 83) (by decide +kernel) rfl wd_79 rfl) <|
  jx_all1 (sd_ireturn (pc := 61) (by decide +kernel) rfl) <|
  jx_all0
set_option maxRecDepth 100000 in
theorem sn_21 (D : jx_D) : jx_all (fun q => jx_Snd cX3_melt 5 RX3 none D q.1 q.2) (tb_21 D) := by
  unfold tb_21
  exact jx_all1 (sd_iconst (pc := 0) (n := 0) (by decide +kernel) (by decide +kernel)) <|
  jx_all1 (sd_istore_n (pc := 1) (q := 3) (by decide +kernel) rfl) <|
  jx_all1 (sd_iconst (pc := 2) (n := 0) (by decide +kernel) (by decide +kernel)) <|
  jx_all1 (sd_istore (pc := 3) (by decide +kernel)) <|
  jx_all1 (sd_iload (pc := 5) (by decide +kernel)) <|
  jx_all1 (sd_aload_n (pc := 7) (q := 0) (by decide +kernel) rfl) <|
  jx_all1 (sd_gI (pc := 8) kf_1 (f := 1) (q := jx_f0) (idx := 28) (by decide +kernel) rfl wd_81 rfl) <|
  jx_all1 (sd_icge (pc := 11) (off := 71) (by decide +kernel) (by decide +kernel)) <|
  jx_all1 (sd_aload_n (pc := 14) (q := 0) (by decide +kernel) rfl) <|
  jx_all1 (sd_gR (pc := 15) kf_1 (f := 3) (q := (jx_fi 2)) (idx := 9) (by decide +kernel) rfl wd_89 rfl) <|
  jx_all1 (sd_iload (pc := 18) (by decide +kernel)) <|
  jx_all1 (sd_aload_n (pc := 20) (q := 0) (by decide +kernel) rfl) <|
  jx_all1 (sd_gR (pc := 21) kf_1 (f := 3) (q := (jx_fi 2)) (idx := 9) (by decide +kernel) rfl wd_89 rfl) <|
  jx_all1 (sd_iload (pc := 24) (by decide +kernel)) <|
  jx_all1 (sd_iaload (pc := 26) (by decide +kernel)) <|
  jx_all1 (sd_iload_n (pc := 27) (q := 1) (by decide +kernel) rfl) <|
  jx_all1 (sd_iload_n (pc := 28) (q := 2) (by decide +kernel) rfl) <|
  jx_all1 (sd_cI (pc := 29) (idx := 45) (by decide +kernel) mf_22 (Or.inl wd_424)) <|
  jx_all1 (sd_iastore (pc := 32) (by decide +kernel)) <|
  jx_all1 (sd_aload_n (pc := 33) (q := 0) (by decide +kernel) rfl) <|
  jx_all1 (sd_gR (pc := 34) kf_1 (f := 4) (q := (jx_fi 3)) (idx := 15) (by decide +kernel) rfl wd_93 rfl) <|
  jx_all1 (sd_iload (pc := 37) (by decide +kernel)) <|
  jx_all1 (sd_aload_n (pc := 39) (q := 0) (by decide +kernel) rfl) <|
  jx_all1 (sd_gR (pc := 40) kf_1 (f := 4) (q := (jx_fi 3)) (idx := 15) (by decide +kernel) rfl wd_93 rfl) <|
  jx_all1 (sd_iload (pc := 43) (by decide +kernel)) <|
  jx_all1 (sd_iaload (pc := 45) (by decide +kernel)) <|
  jx_all1 (sd_iload_n (pc := 46) (q := 1) (by decide +kernel) rfl) <|
  jx_all1 (sd_iload_n (pc := 47) (q := 2) (by decide +kernel) rfl) <|
  jx_all1 (sd_cI (pc := 48) (idx := 45) (by decide +kernel) mf_22 (Or.inl wd_424)) <|
  jx_all1 (sd_iastore (pc := 51) (by decide +kernel)) <|
  jx_all1 (sd_aload_n (pc := 52) (q := 0) (by decide +kernel) rfl) <|
  jx_all1 (sd_gR (pc := 53) kf_1 (f := 3) (q := (jx_fi 2)) (idx := 9) (by decide +kernel) rfl wd_89 rfl) <|
  jx_all1 (sd_iload (pc := 56) (by decide +kernel)) <|
  jx_all1 (sd_iaload (pc := 58) (by decide +kernel)) <|
  jx_all1 (sd_aload_n (pc := 59) (q := 0) (by decide +kernel) rfl) <|
  jx_all1 (sd_gR (pc := 60) kf_1 (f := 4) (q := (jx_fi 3)) (idx := 15) (by decide +kernel) rfl wd_93 rfl) <|
  jx_all1 (sd_iload (pc := 63) (by decide +kernel)) <|
  jx_all1 (sd_iaload (pc := 65) (by decide +kernel)) <|
  jx_all1 (sd_iceq (pc := 66) (off := 10) (by decide +kernel) (by decide +kernel)) <|
  jx_all1 (sd_iload_n (pc := 69) (q := 3) (by decide +kernel) rfl) <|
  jx_all1 (sd_iconst (pc := 70) (n := 1) (by decide +kernel) (by decide +kernel)) <|
  jx_all1 (sd_iload (pc := 71) (by decide +kernel)) <|
  jx_all1 (sd_ishl (pc := 73) (by decide +kernel)) <|
  jx_all1 (sd_ior (pc := 74) (by decide +kernel)) <|
  jx_all1 (sd_istore_n (pc := 75) (q := 3) (by decide +kernel) rfl) <|
  jx_all1 (sd_iinc (pc := 76) (n := 1) (by decide +kernel) (by decide +kernel)) <|
  jx_all1 (sd_goto (pc := 79) (off := (-74)) (by decide +kernel) (by decide +kernel)) <|
  jx_all1 (sd_aload_n (pc := 82) (q := 0) (by decide +kernel) rfl) <|
  jx_all1 (sd_iload_n (pc := 83) (q := 3) (by decide +kernel) rfl) <|
  jx_all1 (sd_vV (pc := 84) (idx := 49) (kd := 1) (by decide +kernel) mf_18 wd_427 rfl rfl) <|
  jx_all1 (sd_aload_n (pc := 87) (q := 0) (by decide +kernel) rfl) <|
  jx_all1 (sd_dup (pc := 88) (by decide +kernel)) <|
  jx_all1 (sd_gI (pc := 89) kf_1 (f := 0) (q := jx_f0) (idx := 24) (by decide +kernel) rfl wd_77 rfl) <|
  jx_all1 (sd_iconst (pc := 92) (n := 1) (by decide +kernel) (by decide +kernel)) <|
  jx_all1 (sd_isub (pc := 93) (by decide +kernel)) <|
  jx_all1 (sd_pI (pc := 94) kf_1 (f := 0) (q := jx_f0) (idx := 24) (by decide +kernel) rfl wd_77 rfl rfl rfl) <|
  jx_all1 (sd_return (pc := 97) (by decide +kernel) rfl) <|
  jx_all0
set_option maxRecDepth 100000 in
theorem sn_22 (D : jx_D) : jx_all (fun q => jx_Snd cX3_numberAfterMelt 3 RX3 (some .int) D q.1 q.2) (tb_22 D) := by
  unfold tb_22
  exact jx_all1 (sd_iload_n (pc := 0) (q := 0) (by decide +kernel) rfl) <|
  jx_all1 (sd_iload_n (pc := 1) (q := 2) (by decide +kernel) rfl) <|
  jx_all1 (sd_icne (pc := 2) (off := 5) (by decide +kernel) (by decide +kernel)) <|
  jx_all1 (sd_iload_n (pc := 5) (q := 1) (by decide +kernel) rfl) <|
  jx_all1 (sd_ireturn (pc := 6) (by decide +kernel) rfl) <|
  jx_all1 (sd_iload_n (pc := 7) (q := 0) (by decide +kernel) rfl) <|
  jx_all1 (sd_iload_n (pc := 8) (q := 2) (by decide +kernel) rfl) <|
  jx_all1 (sd_icle (pc := 9) (off := 9) (by decide +kernel) (by decide +kernel)) <|
  jx_all1 (sd_iload_n (pc := 12) (q := 0) (by decide +kernel) rfl) <|
  jx_all1 (sd_iconst (pc := 13) (n := 1) (by decide +kernel) (by decide +kernel)) <|
  jx_all1 (sd_isub (pc := 14) (by decide +kernel)) <|
  jx_all1 (sd_goto (pc := 15) (off := 4) (by decide +kernel) (by decide +kernel)) <|
  jx_all1 (sd_iload_n (pc := 18) (q := 0) (by decide +kernel) rfl) <|
  jx_all1 (sd_ireturn (pc := 19) (by decide +kernel) rfl) <|
  jx_all0
set_option maxRecDepth 100000 in
theorem sn_23 (D : jx_D) : jx_all (fun q => jx_Snd cX9_of 3 RX9 (some .int) D q.1 q.2) (tb_23 D) := by
  unfold tb_23
  exact jx_all1 (sd_aload_n (pc := 0) (q := 0) (by decide +kernel) rfl) <|
  jx_all1 (sd_iload_n (pc := 1) (q := 1) (by decide +kernel) rfl) <|
  jx_all1 (sd_vI (pc := 2) (idx := 113) (kd := 0) (by decide +kernel) mf_15 wd_398 rfl rfl) <|
  jx_all1 (sd_ifeq (pc := 5) (off := 9) (by decide +kernel) (by decide +kernel)) <|
  jx_all1 (sd_aload_n (pc := 8) (q := 0) (by decide +kernel) rfl) <|
  jx_all1 (sd_iconst (pc := 9) (n := (-1)) (by decide +kernel) (by decide +kernel)) <|
  jx_all1 (sd_vI (pc := 10) (idx := 95) (kd := 0) (by decide +kernel) mf_8 wd_370 rfl rfl) <|
  jx_all1 (sd_ireturn (pc := 13) (by decide +kernel) rfl) <|
  jx_all1 (sd_iload_n (pc := 14) (q := 2) (by decide +kernel) rfl) <|
  jx_all1 (sd_sw (pc := 15) (dflt := 69) (lo0 := 0) (hi := 3) (offs := #[29, 39, 49, 59]) (len := 29) (by decide +kernel) (by decide +kernel) (by decide +kernel) (jx_swr (hi := 3) (by decide +kernel))) <|
  jx_all1 (sd_aload_n (pc := 44) (q := 0) (by decide +kernel) rfl) <|
  jx_all1 (sd_gR (pc := 45) kf_0 (f := 0) (q := (jx_f1 1 0)) (idx := 12) (by decide +kernel) rfl wd_301 rfl) <|
  jx_all1 (sd_gR (pc := 48) kf_1 (f := 3) (q := (jx_fi 2)) (idx := 137) (by decide +kernel) rfl wd_92 rfl) <|
  jx_all1 (sd_iload_n (pc := 51) (q := 1) (by decide +kernel) rfl) <|
  jx_all1 (sd_iaload (pc := 52) (by decide +kernel)) <|
  jx_all1 (sd_ireturn (pc := 53) (by decide +kernel) rfl) <|
  jx_all1 (sd_aload_n (pc := 54) (q := 0) (by decide +kernel) rfl) <|
  jx_all1 (sd_gR (pc := 55) kf_0 (f := 0) (q := (jx_f1 1 0)) (idx := 12) (by decide +kernel) rfl wd_301 rfl) <|
  jx_all1 (sd_gR (pc := 58) kf_1 (f := 4) (q := (jx_fi 3)) (idx := 140) (by decide +kernel) rfl wd_96 rfl) <|
  jx_all1 (sd_iload_n (pc := 61) (q := 1) (by decide +kernel) rfl) <|
  jx_all1 (sd_iaload (pc := 62) (by decide +kernel)) <|
  jx_all1 (sd_ireturn (pc := 63) (by decide +kernel) rfl) <|
  jx_all1 (sd_aload_n (pc := 64) (q := 0) (by decide +kernel) rfl) <|
  jx_all1 (sd_gR (pc := 65) kf_0 (f := 0) (q := (jx_f1 1 0)) (idx := 12) (by decide +kernel) rfl wd_301 rfl) <|
  jx_all1 (sd_gR (pc := 68) kf_1 (f := 5) (q := (jx_fi 4)) (idx := 120) (by decide +kernel) rfl wd_99 rfl) <|
  jx_all1 (sd_iload_n (pc := 71) (q := 1) (by decide +kernel) rfl) <|
  jx_all1 (sd_iaload (pc := 72) (by decide +kernel)) <|
  jx_all1 (sd_ireturn (pc := 73) (by decide +kernel) rfl) <|
  jx_all1 (sd_aload_n (pc := 74) (q := 0) (by decide +kernel) rfl) <|
  jx_all1 (sd_gR (pc := 75) kf_0 (f := 0) (q := (jx_f1 1 0)) (idx := 12) (by decide +kernel) rfl wd_301 rfl) <|
  jx_all1 (sd_gR (pc := 78) kf_1 (f := 6) (q := (jx_fi 5)) (idx := 117) (by decide +kernel) rfl wd_102 rfl) <|
  jx_all1 (sd_iload_n (pc := 81) (q := 1) (by decide +kernel) rfl) <|
  jx_all1 (sd_iaload (pc := 82) (by decide +kernel)) <|
  jx_all1 (sd_ireturn (pc := 83) (by decide +kernel) rfl) <|
  jx_all1 (sd_aload_n (pc := 84) (q := 0) (by decide +kernel) rfl) <|
  jx_all1 (sd_iconst (pc := 85) (n := (-1)) (by decide +kernel) (by decide +kernel)) <|
  jx_all1 (sd_vI (pc := 86) (idx := 95) (kd := 0) (by decide +kernel) mf_8 wd_370 rfl rfl) <|
  jx_all1 (sd_ireturn (pc := 89) (by decide +kernel) rfl) <|
  jx_all0
set_option maxRecDepth 100000 in
theorem sn_24 (D : jx_D) : jx_all (fun q => jx_Snd cX9_undo 1 RX9 (some .int) D q.1 q.2) (tb_24 D) := by
  unfold tb_24
  exact jx_all1 (sd_aload_n (pc := 0) (q := 0) (by decide +kernel) rfl) <|
  jx_all1 (sd_gR (pc := 1) kf_0 (f := 1) (q := (jx_f1 6 0)) (idx := 19) (by decide +kernel) rfl wd_302 rfl) <|
  jx_all1 (sd_gI (pc := 4) kf_6 (f := 2) (q := jx_f0) (idx := 143) (by decide +kernel) rfl wd_131 rfl) <|
  jx_all1 (sd_ifne (pc := 7) (off := 10) (by decide +kernel) (by decide +kernel)) <|
  jx_all1 (sd_aload_n (pc := 10) (q := 0) (by decide +kernel) rfl) <|
  jx_all1 (sd_bipush (pc := 11) (n := (-6)) (by decide +kernel) (by decide +kernel)) <|
  jx_all1 (sd_vI (pc := 13) (idx := 95) (kd := 0) (by decide +kernel) mf_8 wd_370 rfl rfl) <|
  jx_all1 (sd_ireturn (pc := 16) (by decide +kernel) rfl) <|
  jx_all1 (sd_aload_n (pc := 17) (q := 0) (by decide +kernel) rfl) <|
  jx_all1 (sd_gR (pc := 18) kf_0 (f := 1) (q := (jx_f1 6 0)) (idx := 19) (by decide +kernel) rfl wd_302 rfl) <|
  jx_all1 (sd_aload_n (pc := 21) (q := 0) (by decide +kernel) rfl) <|
  jx_all1 (sd_gR (pc := 22) kf_0 (f := 0) (q := (jx_f1 1 0)) (idx := 12) (by decide +kernel) rfl wd_301 rfl) <|
  jx_all1 (sd_vV (pc := 25) (idx := 146) (kd := 6) (by decide +kernel) mf_25 wd_436 rfl rfl) <|
  jx_all1 (sd_aload_n (pc := 28) (q := 0) (by decide +kernel) rfl) <|
  jx_all1 (sd_gR (pc := 29) kf_0 (f := 1) (q := (jx_f1 6 0)) (idx := 19) (by decide +kernel) rfl wd_302 rfl) <|
  jx_all1 (sd_gI (pc := 32) kf_6 (f := 2) (q := jx_f0) (idx := 143) (by decide +kernel) rfl wd_131 rfl) <|
  jx_all1 (sd_ireturn (pc := 35) (by decide +kernel) rfl) <|
  jx_all0
set_option maxRecDepth 100000 in
theorem sn_25 (D : jx_D) : jx_all (fun q => jx_Snd cX5_restore 2 RX5 none D q.1 q.2) (tb_25 D) := by
  unfold tb_25
  exact jx_all1 (sd_aload_n (pc := 0) (q := 0) (by decide +kernel) rfl) <|
  jx_all1 (sd_aload_n (pc := 1) (q := 0) (by decide +kernel) rfl) <|
  jx_all1 (sd_gI (pc := 2) kf_6 (f := 1) (q := jx_f0) (idx := 18) (by decide +kernel) rfl wd_129 rfl) <|
  jx_all1 (sd_bipush (pc := 5) (n := 30) (by decide +kernel) (by decide +kernel)) <|
  jx_all1 (sd_iadd (pc := 7) (by decide +kernel)) <|
  jx_all1 (sd_iconst (pc := 8) (n := 1) (by decide +kernel) (by decide +kernel)) <|
  jx_all1 (sd_isub (pc := 9) (by decide +kernel)) <|
  jx_all1 (sd_bipush (pc := 10) (n := 30) (by decide +kernel) (by decide +kernel)) <|
  jx_all1 (sd_irem (pc := 12) (by decide +kernel)) <|
  jx_all1 (sd_pI (pc := 13) kf_6 (f := 1) (q := jx_f0) (idx := 18) (by decide +kernel) rfl wd_129 rfl rfl rfl) <|
  jx_all1 (sd_aload_n (pc := 16) (q := 0) (by decide +kernel) rfl) <|
  jx_all1 (sd_dup (pc := 17) (by decide +kernel)) <|
  jx_all1 (sd_gI (pc := 18) kf_6 (f := 2) (q := jx_f0) (idx := 26) (by decide +kernel) rfl wd_130 rfl) <|
  jx_all1 (sd_iconst (pc := 21) (n := 1) (by decide +kernel) (by decide +kernel)) <|
  jx_all1 (sd_isub (pc := 22) (by decide +kernel)) <|
  jx_all1 (sd_pI (pc := 23) kf_6 (f := 2) (q := jx_f0) (idx := 26) (by decide +kernel) rfl wd_130 rfl rfl rfl) <|
  jx_all1 (sd_aload_n (pc := 26) (q := 1) (by decide +kernel) rfl) <|
  jx_all1 (sd_aload_n (pc := 27) (q := 0) (by decide +kernel) rfl) <|
  jx_all1 (sd_gR (pc := 28) kf_6 (f := 0) (q := (jx_f1 7 0)) (idx := 11) (by decide +kernel) rfl wd_128 rfl) <|
  jx_all1 (sd_aload_n (pc := 31) (q := 0) (by decide +kernel) rfl) <|
  jx_all1 (sd_gI (pc := 32) kf_6 (f := 1) (q := jx_f0) (idx := 18) (by decide +kernel) rfl wd_129 rfl) <|
  jx_all1 (sd_aaload (pc := 35) (by decide +kernel)) <|
  jx_all1 (sd_vV (pc := 36) (idx := 22) (kd := 1) (by decide +kernel) mf_5 wd_352 rfl rfl) <|
  jx_all1 (sd_return (pc := 39) (by decide +kernel) rfl) <|
  jx_all0
set_option maxRecDepth 100000 in
theorem sn_26 (D : jx_D) : jx_all (fun q => jx_Snd cX9_sheet 4 RX9 (some .int) D q.1 q.2) (tb_26 D) := by
  unfold tb_26
  exact jx_all1 (sd_iload_n (pc := 0) (q := 1) (by decide +kernel) rfl) <|
  jx_all1 (sd_cI (pc := 1) (idx := 149) (by decide +kernel) mf_27 (Or.inl wd_444)) <|
  jx_all1 (sd_ifne (pc := 4) (off := 25) (by decide +kernel) (by decide +kernel)) <|
  jx_all1 (sd_iload_n (pc := 7) (q := 2) (by decide +kernel) rfl) <|
  jx_all1 (sd_ifeq (pc := 8) (off := 27) (by decide +kernel) (by decide +kernel)) <|
  jx_all1 (sd_iload_n (pc := 11) (q := 2) (by decide +kernel) rfl) <|
  jx_all1 (sd_bipush (pc := 12) (n := 8) (by decide +kernel) (by decide +kernel)) <|
  jx_all1 (sd_iceq (pc := 14) (off := 21) (by decide +kernel) (by decide +kernel)) <|
  jx_all1 (sd_iload_n (pc := 17) (q := 2) (by decide +kernel) rfl) <|
  jx_all1 (sd_bipush (pc := 18) (n := 16) (by decide +kernel) (by decide +kernel)) <|
  jx_all1 (sd_iceq (pc := 20) (off := 15) (by decide +kernel) (by decide +kernel)) <|
  jx_all1 (sd_iload_n (pc := 23) (q := 2) (by decide +kernel) rfl) <|
  jx_all1 (sd_bipush (pc := 24) (n := 32) (by decide +kernel) (by decide +kernel)) <|
  jx_all1 (sd_iceq (pc := 26) (off := 9) (by decide +kernel) (by decide +kernel)) <|
  jx_all1 (sd_aload_n (pc := 29) (q := 0) (by decide +kernel) rfl) <|
  jx_all1 (sd_iconst (pc := 30) (n := (-1)) (by decide +kernel) (by decide +kernel)) <|
  jx_all1 (sd_vI (pc := 31) (idx := 95) (kd := 0) (by decide +kernel) mf_8 wd_370 rfl rfl) <|
  jx_all1 (sd_ireturn (pc := 34) (by decide +kernel) rfl) <|
  jx_all1 (sd_iload_n (pc := 35) (q := 3) (by decide +kernel) rfl) <|
  jx_all1 (sd_ifge (pc := 36) (off := 10) (by decide +kernel) (by decide +kernel)) <|
  jx_all1 (sd_aload_n (pc := 39) (q := 0) (by decide +kernel) rfl) <|
  jx_all1 (sd_bipush (pc := 40) (n := (-3)) (by decide +kernel) (by decide +kernel)) <|
  jx_all1 (sd_vI (pc := 42) (idx := 95) (kd := 0) (by decide +kernel) mf_8 wd_370 rfl rfl) <|
  jx_all1 (sd_ireturn (pc := 45) (by decide +kernel) rfl) <|
  jx_all1 (sd_iload_n (pc := 46) (q := 3) (by decide +kernel) rfl) <|
  jx_all1 (sd_bipush (pc := 47) (n := 24) (by decide +kernel) (by decide +kernel)) <|
  jx_all1 (sd_icle (pc := 49) (off := 9) (by decide +kernel) (by decide +kernel)) <|
  jx_all1 (sd_aload_n (pc := 52) (q := 0) (by decide +kernel) rfl) <|
  jx_all1 (sd_iconst (pc := 53) (n := (-1)) (by decide +kernel) (by decide +kernel)) <|
  jx_all1 (sd_vI (pc := 54) (idx := 95) (kd := 0) (by decide +kernel) mf_8 wd_370 rfl rfl) <|
  jx_all1 (sd_ireturn (pc := 57) (by decide +kernel) rfl) <|
  jx_all1 (sd_aload_n (pc := 58) (q := 0) (by decide +kernel) rfl) <|
  jx_all1 (sd_gR (pc := 59) kf_0 (f := 4) (q := (jx_f1 10 0)) (idx := 33) (by decide +kernel) rfl wd_305 rfl) <|
  jx_all1 (sd_iload_n (pc := 62) (q := 1) (by decide +kernel) rfl) <|
  jx_all1 (sd_aaload (pc := 63) (by decide +kernel)) <|
  jx_all1 (sd_iload_n (pc := 64) (q := 2) (by decide +kernel) rfl) <|
  jx_all1 (sd_iload_n (pc := 65) (q := 3) (by decide +kernel) rfl) <|
  jx_all1 (sd_vI (pc := 66) (idx := 152) (kd := 11) (by decide +kernel) mf_28 wd_447 rfl rfl) <|
  jx_all1 (sd_ireturn (pc := 69) (by decide +kernel) rfl) <|
  jx_all0
set_option maxRecDepth 100000 in
theorem sn_27 (D : jx_D) : jx_all (fun q => jx_Snd cX9_isNoSheet 1 RX9 (some .boolean) D q.1 q.2) (tb_27 D) := by
  unfold tb_27
  exact jx_all1 (sd_iload_n (pc := 0) (q := 0) (by decide +kernel) rfl) <|
  jx_all1 (sd_iflt (pc := 1) (off := 8) (by decide +kernel) (by decide +kernel)) <|
  jx_all1 (sd_iload_n (pc := 4) (q := 0) (by decide +kernel) rfl) <|
  jx_all1 (sd_iconst (pc := 5) (n := 4) (by decide +kernel) (by decide +kernel)) <|
  jx_all1 (sd_iclt (pc := 6) (off := 7) (by decide +kernel) (by decide +kernel)) <|
  jx_all1 (sd_iconst (pc := 9) (n := 1) (by decide +kernel) (by decide +kernel)) <|
  jx_all1 (sd_goto (pc := 10) (off := 4) (by decide +kernel) (by decide +kernel)) <|
  jx_all1 (sd_iconst (pc := 13) (n := 0) (by decide +kernel) (by decide +kernel)) <|
  jx_all1 (sd_zreturn (pc := 14) (by decide +kernel) rfl) <|
  jx_all0
set_option maxRecDepth 100000 in
theorem sn_28 (D : jx_D) : jx_all (fun q => jx_Snd cX7_become 4 RX7 (some .int) D q.1 q.2) (tb_28 D) := by
  unfold tb_28
  exact jx_all1 (sd_aload_n (pc := 0) (q := 0) (by decide +kernel) rfl) <|
  jx_all1 (sd_iload_n (pc := 1) (q := 1) (by decide +kernel) rfl) <|
  jx_all1 (sd_pI (pc := 2) kf_11 (f := 0) (q := jx_f0) (idx := 15) (by decide +kernel) rfl wd_146 rfl rfl rfl) <|
  jx_all1 (sd_aload_n (pc := 5) (q := 0) (by decide +kernel) rfl) <|
  jx_all1 (sd_iload_n (pc := 6) (q := 1) (by decide +kernel) rfl) <|
  jx_all1 (sd_ifne (pc := 7) (off := 7) (by decide +kernel) (by decide +kernel)) <|
  jx_all1 (sd_iconst (pc := 10) (n := 0) (by decide +kernel) (by decide +kernel)) <|
  jx_all1 (sd_goto (pc := 11) (off := 4) (by decide +kernel) (by decide +kernel)) <|
  jx_all1 (sd_iload_n (pc := 14) (q := 2) (by decide +kernel) rfl) <|
  jx_all1 (sd_pI (pc := 15) kf_11 (f := 1) (q := jx_f0) (idx := 19) (by decide +kernel) rfl wd_148 rfl rfl rfl) <|
  jx_all1 (sd_iconst (pc := 18) (n := 0) (by decide +kernel) (by decide +kernel)) <|
  jx_all1 (sd_istore_n (pc := 19) (q := 3) (by decide +kernel) rfl) <|
  jx_all1 (sd_iload_n (pc := 20) (q := 3) (by decide +kernel) rfl) <|
  jx_all1 (sd_aload_n (pc := 21) (q := 0) (by decide +kernel) rfl) <|
  jx_all1 (sd_gI (pc := 22) kf_11 (f := 1) (q := jx_f0) (idx := 19) (by decide +kernel) rfl wd_148 rfl) <|
  jx_all1 (sd_icge (pc := 25) (off := 16) (by decide +kernel) (by decide +kernel)) <|
  jx_all1 (sd_aload_n (pc := 28) (q := 0) (by decide +kernel) rfl) <|
  jx_all1 (sd_gR (pc := 29) kf_11 (f := 2) (q := (jx_fi 12)) (idx := 9) (by decide +kernel) rfl wd_150 rfl) <|
  jx_all1 (sd_iload_n (pc := 32) (q := 3) (by decide +kernel) rfl) <|
  jx_all1 (sd_iconst (pc := 33) (n := 0) (by decide +kernel) (by decide +kernel)) <|
  jx_all1 (sd_iastore (pc := 34) (by decide +kernel)) <|
  jx_all1 (sd_iinc (pc := 35) (n := 1) (by decide +kernel) (by decide +kernel)) <|
  jx_all1 (sd_goto (pc := 38) (off := (-18)) (by decide +kernel) (by decide +kernel)) <|
  jx_all1 (sd_aload_n (pc := 41) (q := 0) (by decide +kernel) rfl) <|
  jx_all1 (sd_gI (pc := 42) kf_11 (f := 1) (q := jx_f0) (idx := 19) (by decide +kernel) rfl wd_148 rfl) <|
  jx_all1 (sd_ireturn (pc := 45) (by decide +kernel) rfl) <|
  jx_all0
set_option maxRecDepth 100000 in
theorem sn_29 (D : jx_D) : jx_all (fun q => jx_Snd cX9_put 5 RX9 (some .int) D q.1 q.2) (tb_29 D) := by
  unfold tb_29
  exact jx_all1 (sd_iload_n (pc := 0) (q := 1) (by decide +kernel) rfl) <|
  jx_all1 (sd_cI (pc := 1) (idx := 149) (by decide +kernel) mf_27 (Or.inl wd_444)) <|
  jx_all1 (sd_ifeq (pc := 4) (off := 9) (by decide +kernel) (by decide +kernel)) <|
  jx_all1 (sd_aload_n (pc := 7) (q := 0) (by decide +kernel) rfl) <|
  jx_all1 (sd_iconst (pc := 8) (n := (-1)) (by decide +kernel) (by decide +kernel)) <|
  jx_all1 (sd_vI (pc := 9) (idx := 95) (kd := 0) (by decide +kernel) mf_8 wd_370 rfl rfl) <|
  jx_all1 (sd_ireturn (pc := 12) (by decide +kernel) rfl) <|
  jx_all1 (sd_aload_n (pc := 13) (q := 0) (by decide +kernel) rfl) <|
  jx_all1 (sd_gR (pc := 14) kf_0 (f := 4) (q := (jx_f1 10 0)) (idx := 33) (by decide +kernel) rfl wd_305 rfl) <|
  jx_all1 (sd_iload_n (pc := 17) (q := 1) (by decide +kernel) rfl) <|
  jx_all1 (sd_aaload (pc := 18) (by decide +kernel)) <|
  jx_all1 (sd_astore (pc := 19) (by decide +kernel)) <|
  jx_all1 (sd_aload (pc := 21) (by decide +kernel)) <|
  jx_all1 (sd_vI (pc := 23) (idx := 155) (kd := 11) (by decide +kernel) mf_30 wd_455 rfl rfl) <|
  jx_all1 (sd_ifeq (pc := 26) (off := 10) (by decide +kernel) (by decide +kernel)) <|
  jx_all1 (sd_aload_n (pc := 29) (q := 0) (by decide +kernel) rfl) <|
  jx_all1 (sd_bipush (pc := 30) (n := (-2)) (by decide +kernel) (by decide +kernel)) <|
  jx_all1 (sd_vI (pc := 32) (idx := 95) (kd := 0) (by decide +kernel) mf_8 wd_370 rfl rfl) <|
  jx_all1 (sd_ireturn (pc := 35) (by decide +kernel) rfl) <|
  jx_all1 (sd_iload_n (pc := 36) (q := 2) (by decide +kernel) rfl) <|
  jx_all1 (sd_iflt (pc := 37) (off := 12) (by decide +kernel) (by decide +kernel)) <|
  jx_all1 (sd_iload_n (pc := 40) (q := 2) (by decide +kernel) rfl) <|
  jx_all1 (sd_aload (pc := 41) (by decide +kernel)) <|
  jx_all1 (sd_gI (pc := 43) kf_11 (f := 1) (q := jx_f0) (idx := 159) (by decide +kernel) rfl wd_149 rfl) <|
  jx_all1 (sd_iclt (pc := 46) (off := 9) (by decide +kernel) (by decide +kernel)) <|
  jx_all1 (sd_aload_n (pc := 49) (q := 0) (by decide +kernel) rfl) <|
  jx_all1 (sd_iconst (pc := 50) (n := (-1)) (by decide +kernel) (by decide +kernel)) <|
  jx_all1 (sd_vI (pc := 51) (idx := 95) (kd := 0) (by decide +kernel) mf_8 wd_370 rfl rfl) <|
  jx_all1 (sd_ireturn (pc := 54) (by decide +kernel) rfl) <|
  jx_all1 (sd_aload (pc := 55) (by decide +kernel)) <|
  jx_all1 (sd_iload_n (pc := 57) (q := 2) (by decide +kernel) rfl) <|
  jx_all1 (sd_iload_n (pc := 58) (q := 3) (by decide +kernel) rfl) <|
  jx_all1 (sd_vV (pc := 59) (idx := 162) (kd := 11) (by decide +kernel) mf_31 wd_459 rfl rfl) <|
  jx_all1 (sd_iconst (pc := 62) (n := 0) (by decide +kernel) (by decide +kernel)) <|
  jx_all1 (sd_ireturn (pc := 63) (by decide +kernel) rfl) <|
  jx_all0
set_option maxRecDepth 100000 in
theorem sn_30 (D : jx_D) : jx_all (fun q => jx_Snd cX7_isMissing 1 RX7 (some .boolean) D q.1 q.2) (tb_30 D) := by
  unfold tb_30
  exact jx_all1 (sd_aload_n (pc := 0) (q := 0) (by decide +kernel) rfl) <|
  jx_all1 (sd_gI (pc := 1) kf_11 (f := 0) (q := jx_f0) (idx := 15) (by decide +kernel) rfl wd_146 rfl) <|
  jx_all1 (sd_ifne (pc := 4) (off := 7) (by decide +kernel) (by decide +kernel)) <|
  jx_all1 (sd_iconst (pc := 7) (n := 1) (by decide +kernel) (by decide +kernel)) <|
  jx_all1 (sd_goto (pc := 8) (off := 4) (by decide +kernel) (by decide +kernel)) <|
  jx_all1 (sd_iconst (pc := 11) (n := 0) (by decide +kernel) (by decide +kernel)) <|
  jx_all1 (sd_zreturn (pc := 12) (by decide +kernel) rfl) <|
  jx_all0
set_option maxRecDepth 100000 in
theorem sn_31 (D : jx_D) : jx_all (fun q => jx_Snd cX7_write 3 RX7 none D q.1 q.2) (tb_31 D) := by
  unfold tb_31
  exact jx_all1 (sd_aload_n (pc := 0) (q := 0) (by decide +kernel) rfl) <|
  jx_all1 (sd_gR (pc := 1) kf_11 (f := 2) (q := (jx_fi 12)) (idx := 9) (by decide +kernel) rfl wd_150 rfl) <|
  jx_all1 (sd_iload_n (pc := 4) (q := 1) (by decide +kernel) rfl) <|
  jx_all1 (sd_aload_n (pc := 5) (q := 0) (by decide +kernel) rfl) <|
  jx_all1 (sd_gI (pc := 6) kf_11 (f := 0) (q := jx_f0) (idx := 15) (by decide +kernel) rfl wd_146 rfl) <|
  jx_all1 (sd_bipush (pc := 9) (n := 32) (by decide +kernel) (by decide +kernel)) <|
  jx_all1 (sd_icne (pc := 11) (off := 7) (by decide +kernel) (by decide +kernel)) <|
  jx_all1 (sd_iload_n (pc := 14) (q := 2) (by decide +kernel) rfl) <|
  jx_all1 (sd_goto (pc := 15) (off := 12) (by decide +kernel) (by decide +kernel)) <|
  jx_all1 (sd_iload_n (pc := 18) (q := 2) (by decide +kernel) rfl) <|
  jx_all1 (sd_aload_n (pc := 19) (q := 0) (by decide +kernel) rfl) <|
  jx_all1 (sd_gI (pc := 20) kf_11 (f := 0) (q := jx_f0) (idx := 15) (by decide +kernel) rfl wd_146 rfl) <|
  jx_all1 (sd_cI (pc := 23) (idx := 22) (by decide +kernel) mf_17 (Or.inr ⟨RX9, by decide +kernel⟩)) <|
  jx_all1 (sd_iand (pc := 26) (by decide +kernel)) <|
  jx_all1 (sd_iastore (pc := 27) (by decide +kernel)) <|
  jx_all1 (sd_return (pc := 28) (by decide +kernel) rfl) <|
  jx_all0
set_option maxRecDepth 100000 in
theorem sn_32 (D : jx_D) : jx_all (fun q => jx_Snd cX9_copy 8 RX9 (some .int) D q.1 q.2) (tb_32 D) := by
  unfold tb_32
  exact jx_all1 (sd_iload_n (pc := 0) (q := 1) (by decide +kernel) rfl) <|
  jx_all1 (sd_cI (pc := 1) (idx := 149) (by decide +kernel) mf_27 (Or.inl wd_444)) <|
  jx_all1 (sd_ifne (pc := 4) (off := 10) (by decide +kernel) (by decide +kernel)) <|
  jx_all1 (sd_iload_n (pc := 7) (q := 3) (by decide +kernel) rfl) <|
  jx_all1 (sd_cI (pc := 8) (idx := 149) (by decide +kernel) mf_27 (Or.inl wd_444)) <|
  jx_all1 (sd_ifeq (pc := 11) (off := 9) (by decide +kernel) (by decide +kernel)) <|
  jx_all1 (sd_aload_n (pc := 14) (q := 0) (by decide +kernel) rfl) <|
  jx_all1 (sd_iconst (pc := 15) (n := (-1)) (by decide +kernel) (by decide +kernel)) <|
  jx_all1 (sd_vI (pc := 16) (idx := 95) (kd := 0) (by decide +kernel) mf_8 wd_370 rfl rfl) <|
  jx_all1 (sd_ireturn (pc := 19) (by decide +kernel) rfl) <|
  jx_all1 (sd_aload_n (pc := 20) (q := 0) (by decide +kernel) rfl) <|
  jx_all1 (sd_gR (pc := 21) kf_0 (f := 4) (q := (jx_f1 10 0)) (idx := 33) (by decide +kernel) rfl wd_305 rfl) <|
  jx_all1 (sd_iload_n (pc := 24) (q := 1) (by decide +kernel) rfl) <|
  jx_all1 (sd_aaload (pc := 25) (by decide +kernel)) <|
  jx_all1 (sd_astore (pc := 26) (by decide +kernel)) <|
  jx_all1 (sd_aload_n (pc := 28) (q := 0) (by decide +kernel) rfl) <|
  jx_all1 (sd_gR (pc := 29) kf_0 (f := 4) (q := (jx_f1 10 0)) (idx := 33) (by decide +kernel) rfl wd_305 rfl) <|
  jx_all1 (sd_iload_n (pc := 32) (q := 3) (by decide +kernel) rfl) <|
  jx_all1 (sd_aaload (pc := 33) (by decide +kernel)) <|
  jx_all1 (sd_astore (pc := 34) (by decide +kernel)) <|
  jx_all1 (sd_aload (pc := 36) (by decide +kernel)) <|
  jx_all1 (sd_vI (pc := 38) (idx := 155) (kd := 11) (by decide +kernel) mf_30 wd_455 rfl rfl) <|
  jx_all1 (sd_ifne (pc := 41) (off := 11) (by decide +kernel) (by decide +kernel)) <|
  jx_all1 (sd_aload (pc := 44) (by decide +kernel)) <|
  jx_all1 (sd_vI (pc := 46) (idx := 155) (kd := 11) (by decide +kernel) mf_30 wd_455 rfl rfl) <|
  jx_all1 (sd_ifeq (pc := 49) (off := 10) (by decide +kernel) (by decide +kernel)) <|
  jx_all1 (sd_aload_n (pc := 52) (q := 0) (by decide +kernel) rfl) <|
  jx_all1 (sd_bipush (pc := 53) (n := (-2)) (by decide +kernel) (by decide +kernel)) <|
  jx_all1 (sd_vI (pc := 55) (idx := 95) (kd := 0) (by decide +kernel) mf_8 wd_370 rfl rfl) <|
  jx_all1 (sd_ireturn (pc := 58) (by decide +kernel) rfl) <|
  jx_all1 (sd_aload (pc := 59) (by decide +kernel)) <|
  jx_all1 (sd_gI (pc := 61) kf_11 (f := 0) (q := jx_f0) (idx := 165) (by decide +kernel) rfl wd_147 rfl) <|
  jx_all1 (sd_aload (pc := 64) (by decide +kernel)) <|
  jx_all1 (sd_gI (pc := 66) kf_11 (f := 0) (q := jx_f0) (idx := 165) (by decide +kernel) rfl wd_147 rfl) <|
  jx_all1 (sd_iceq (pc := 69) (off := 10) (by decide +kernel) (by decide +kernel)) <|
  jx_all1 (sd_aload_n (pc := 72) (q := 0) (by decide +kernel) rfl) <|
  jx_all1 (sd_bipush (pc := 73) (n := (-4)) (by decide +kernel) (by decide +kernel)) <|
  jx_all1 (sd_vI (pc := 75) (idx := 95) (kd := 0) (by decide +kernel) mf_8 wd_370 rfl rfl) <|
  jx_all1 (sd_ireturn (pc := 78) (by decide +kernel) rfl) <|
  jx_all1 (sd_aload (pc := 79) (by decide +kernel)) <|
  jx_all1 (sd_iload_n (pc := 81) (q := 2) (by decide +kernel) rfl) <|
  jx_all1 (sd_iload (pc := 82) (by decide +kernel)) <|
  jx_all1 (sd_vI (pc := 84) (idx := 168) (kd := 11) (by decide +kernel) mf_33 wd_468 rfl rfl) <|
  jx_all1 (sd_ifeq (pc := 87) (off := 15) (by decide +kernel) (by decide +kernel)) <|
  jx_all1 (sd_aload (pc := 90) (by decide +kernel)) <|
  jx_all1 (sd_iload (pc := 92) (by decide +kernel)) <|
  jx_all1 (sd_iload (pc := 94) (by decide +kernel)) <|
  jx_all1 (sd_vI (pc := 96) (idx := 168) (kd := 11) (by decide +kernel) mf_33 wd_468 rfl rfl) <|
  jx_all1 (sd_ifne (pc := 99) (off := 9) (by decide +kernel) (by decide +kernel)) <|
  jx_all1 (sd_aload_n (pc := 102) (q := 0) (by decide +kernel) rfl) <|
  jx_all1 (sd_iconst (pc := 103) (n := (-1)) (by decide +kernel) (by decide +kernel)) <|
  jx_all1 (sd_vI (pc := 104) (idx := 95) (kd := 0) (by decide +kernel) mf_8 wd_370 rfl rfl) <|
  jx_all1 (sd_ireturn (pc := 107) (by decide +kernel) rfl) <|
  jx_all1 (sd_aload (pc := 108) (by decide +kernel)) <|
  jx_all1 (sd_gR (pc := 110) kf_11 (f := 2) (q := (jx_fi 12)) (idx := 172) (by decide +kernel) rfl wd_151 rfl) <|
  jx_all1 (sd_iload_n (pc := 113) (q := 2) (by decide +kernel) rfl) <|
  jx_all1 (sd_aload (pc := 114) (by decide +kernel)) <|
  jx_all1 (sd_gR (pc := 116) kf_11 (f := 2) (q := (jx_fi 12)) (idx := 172) (by decide +kernel) rfl wd_151 rfl) <|
  jx_all1 (sd_iload (pc := 119) (by decide +kernel)) <|
  jx_all1 (sd_iload (pc := 121) (by decide +kernel)) <|
  jx_all1 (sd_acp (pc := 123) (idx := 175) (by decide +kernel) wd_472 wd_358 wd_357 wd_60) <|
  jx_all1 (sd_iload (pc := 126) (by decide +kernel)) <|
  jx_all1 (sd_ireturn (pc := 128) (by decide +kernel) rfl) <|
  jx_all0
set_option maxRecDepth 100000 in
theorem sn_33 (D : jx_D) : jx_all (fun q => jx_Snd cX7_hasRow 3 RX7 (some .boolean) D q.1 q.2) (tb_33 D) := by
  unfold tb_33
  exact jx_all1 (sd_iload_n (pc := 0) (q := 1) (by decide +kernel) rfl) <|
  jx_all1 (sd_iflt (pc := 1) (off := 29) (by decide +kernel) (by decide +kernel)) <|
  jx_all1 (sd_iload_n (pc := 4) (q := 2) (by decide +kernel) rfl) <|
  jx_all1 (sd_iflt (pc := 5) (off := 25) (by decide +kernel) (by decide +kernel)) <|
  jx_all1 (sd_iload_n (pc := 8) (q := 2) (by decide +kernel) rfl) <|
  jx_all1 (sd_aload_n (pc := 9) (q := 0) (by decide +kernel) rfl) <|
  jx_all1 (sd_gI (pc := 10) kf_11 (f := 1) (q := jx_f0) (idx := 19) (by decide +kernel) rfl wd_148 rfl) <|
  jx_all1 (sd_icgt (pc := 13) (off := 17) (by decide +kernel) (by decide +kernel)) <|
  jx_all1 (sd_iload_n (pc := 16) (q := 1) (by decide +kernel) rfl) <|
  jx_all1 (sd_aload_n (pc := 17) (q := 0) (by decide +kernel) rfl) <|
  jx_all1 (sd_gI (pc := 18) kf_11 (f := 1) (q := jx_f0) (idx := 19) (by decide +kernel) rfl wd_148 rfl) <|
  jx_all1 (sd_iload_n (pc := 21) (q := 2) (by decide +kernel) rfl) <|
  jx_all1 (sd_isub (pc := 22) (by decide +kernel)) <|
  jx_all1 (sd_icgt (pc := 23) (off := 7) (by decide +kernel) (by decide +kernel)) <|
  jx_all1 (sd_iconst (pc := 26) (n := 1) (by decide +kernel) (by decide +kernel)) <|
  jx_all1 (sd_goto (pc := 27) (off := 4) (by decide +kernel) (by decide +kernel)) <|
  jx_all1 (sd_iconst (pc := 30) (n := 0) (by decide +kernel) (by decide +kernel)) <|
  jx_all1 (sd_zreturn (pc := 31) (by decide +kernel) rfl) <|
  jx_all0
set_option maxRecDepth 100000 in
theorem sn_34 (D : jx_D) : jx_all (fun q => jx_Snd cX9_lay 6 RX9 (some .int) D q.1 q.2) (tb_34 D) := by
  unfold tb_34
  exact jx_all1 (sd_aload_n (pc := 0) (q := 0) (by decide +kernel) rfl) <|
  jx_all1 (sd_iload_n (pc := 1) (q := 1) (by decide +kernel) rfl) <|
  jx_all1 (sd_vI (pc := 2) (idx := 181) (kd := 0) (by decide +kernel) mf_35 wd_477 rfl rfl) <|
  jx_all1 (sd_istore_n (pc := 5) (q := 2) (by decide +kernel) rfl) <|
  jx_all1 (sd_iload_n (pc := 6) (q := 2) (by decide +kernel) rfl) <|
  jx_all1 (sd_ifeq (pc := 7) (off := 9) (by decide +kernel) (by decide +kernel)) <|
  jx_all1 (sd_aload_n (pc := 10) (q := 0) (by decide +kernel) rfl) <|
  jx_all1 (sd_iload_n (pc := 11) (q := 2) (by decide +kernel) rfl) <|
  jx_all1 (sd_vI (pc := 12) (idx := 95) (kd := 0) (by decide +kernel) mf_8 wd_370 rfl rfl) <|
  jx_all1 (sd_ireturn (pc := 15) (by decide +kernel) rfl) <|
  jx_all1 (sd_aload_n (pc := 16) (q := 0) (by decide +kernel) rfl) <|
  jx_all1 (sd_gR (pc := 17) kf_0 (f := 1) (q := (jx_f1 6 0)) (idx := 19) (by decide +kernel) rfl wd_302 rfl) <|
  jx_all1 (sd_aload_n (pc := 20) (q := 0) (by decide +kernel) rfl) <|
  jx_all1 (sd_gR (pc := 21) kf_0 (f := 0) (q := (jx_f1 1 0)) (idx := 12) (by decide +kernel) rfl wd_301 rfl) <|
  jx_all1 (sd_vV (pc := 24) (idx := 87) (kd := 6) (by decide +kernel) mf_4 wd_348 rfl rfl) <|
  jx_all1 (sd_aload_n (pc := 27) (q := 0) (by decide +kernel) rfl) <|
  jx_all1 (sd_gR (pc := 28) kf_0 (f := 4) (q := (jx_f1 10 0)) (idx := 33) (by decide +kernel) rfl wd_305 rfl) <|
  jx_all1 (sd_iload_n (pc := 31) (q := 1) (by decide +kernel) rfl) <|
  jx_all1 (sd_aaload (pc := 32) (by decide +kernel)) <|
  jx_all1 (sd_gR (pc := 33) kf_11 (f := 2) (q := (jx_fi 12)) (idx := 172) (by decide +kernel) rfl wd_151 rfl) <|
  jx_all1 (sd_astore_n (pc := 36) (q := 3) (by decide +kernel) rfl) <|
  jx_all1 (sd_aload_n (pc := 37) (q := 0) (by decide +kernel) rfl) <|
  jx_all1 (sd_gR (pc := 38) kf_0 (f := 4) (q := (jx_f1 10 0)) (idx := 33) (by decide +kernel) rfl wd_305 rfl) <|
  jx_all1 (sd_iload_n (pc := 41) (q := 1) (by decide +kernel) rfl) <|
  jx_all1 (sd_aaload (pc := 42) (by decide +kernel)) <|
  jx_all1 (sd_gI (pc := 43) kf_11 (f := 1) (q := jx_f0) (idx := 159) (by decide +kernel) rfl wd_149 rfl) <|
  jx_all1 (sd_iconst (pc := 46) (n := 2) (by decide +kernel) (by decide +kernel)) <|
  jx_all1 (sd_idiv (pc := 47) (by decide +kernel)) <|
  jx_all1 (sd_istore (pc := 48) (by decide +kernel)) <|
  jx_all1 (sd_iconst (pc := 50) (n := 0) (by decide +kernel) (by decide +kernel)) <|
  jx_all1 (sd_istore (pc := 51) (by decide +kernel)) <|
  jx_all1 (sd_iload (pc := 53) (by decide +kernel)) <|
  jx_all1 (sd_iload (pc := 55) (by decide +kernel)) <|
  jx_all1 (sd_icge (pc := 57) (off := 31) (by decide +kernel) (by decide +kernel)) <|
  jx_all1 (sd_aload_n (pc := 60) (q := 0) (by decide +kernel) rfl) <|
  jx_all1 (sd_gR (pc := 61) kf_0 (f := 0) (q := (jx_f1 1 0)) (idx := 12) (by decide +kernel) rfl wd_301 rfl) <|
  jx_all1 (sd_aload_n (pc := 64) (q := 3) (by decide +kernel) rfl) <|
  jx_all1 (sd_iconst (pc := 65) (n := 2) (by decide +kernel) (by decide +kernel)) <|
  jx_all1 (sd_iload (pc := 66) (by decide +kernel)) <|
  jx_all1 (sd_imul (pc := 68) (by decide +kernel)) <|
  jx_all1 (sd_iaload (pc := 69) (by decide +kernel)) <|
  jx_all1 (sd_aload_n (pc := 70) (q := 3) (by decide +kernel) rfl) <|
  jx_all1 (sd_iconst (pc := 71) (n := 2) (by decide +kernel) (by decide +kernel)) <|
  jx_all1 (sd_iload (pc := 72) (by decide +kernel)) <|
  jx_all1 (sd_imul (pc := 74) (by decide +kernel)) <|
  jx_all1 (sd_iconst (pc := 75) (n := 1) (by decide +kernel) (by decide +kernel)) <|
  jx_all1 (sd_iadd (pc := 76) (by decide +kernel)) <|
  jx_all1 (sd_iaload (pc := 77) (by decide +kernel)) <|
  jx_all1 (sd_vI (pc := 78) (idx := 110) (kd := 1) (by decide +kernel) mf_13 wd_390 rfl rfl) <|
  jx_all1 (sd_pop (pc := 81) (by decide +kernel)) <|
  jx_all1 (sd_iinc (pc := 82) (n := 1) (by decide +kernel) (by decide +kernel)) <|
  jx_all1 (sd_goto (pc := 85) (off := (-32)) (by decide +kernel) (by decide +kernel)) <|
  jx_all1 (sd_iload (pc := 88) (by decide +kernel)) <|
  jx_all1 (sd_ireturn (pc := 90) (by decide +kernel) rfl) <|
  jx_all0
set_option maxRecDepth 100000 in
theorem sn_35 (D : jx_D) : jx_all (fun q => jx_Snd cX9_faultOfLaying 4 RX9 (some .int) D q.1 q.2) (tb_35 D) := by
  unfold tb_35
  exact jx_all1 (sd_iload_n (pc := 0) (q := 1) (by decide +kernel) rfl) <|
  jx_all1 (sd_cI (pc := 1) (idx := 149) (by decide +kernel) mf_27 (Or.inl wd_444)) <|
  jx_all1 (sd_ifeq (pc := 4) (off := 5) (by decide +kernel) (by decide +kernel)) <|
  jx_all1 (sd_iconst (pc := 7) (n := (-1)) (by decide +kernel) (by decide +kernel)) <|
  jx_all1 (sd_ireturn (pc := 8) (by decide +kernel) rfl) <|
  jx_all1 (sd_aload_n (pc := 9) (q := 0) (by decide +kernel) rfl) <|
  jx_all1 (sd_gR (pc := 10) kf_0 (f := 4) (q := (jx_f1 10 0)) (idx := 33) (by decide +kernel) rfl wd_305 rfl) <|
  jx_all1 (sd_iload_n (pc := 13) (q := 1) (by decide +kernel) rfl) <|
  jx_all1 (sd_aaload (pc := 14) (by decide +kernel)) <|
  jx_all1 (sd_vI (pc := 15) (idx := 155) (kd := 11) (by decide +kernel) mf_30 wd_455 rfl rfl) <|
  jx_all1 (sd_ifeq (pc := 18) (off := 6) (by decide +kernel) (by decide +kernel)) <|
  jx_all1 (sd_bipush (pc := 21) (n := (-2)) (by decide +kernel) (by decide +kernel)) <|
  jx_all1 (sd_ireturn (pc := 23) (by decide +kernel) rfl) <|
  jx_all1 (sd_aload_n (pc := 24) (q := 0) (by decide +kernel) rfl) <|
  jx_all1 (sd_gR (pc := 25) kf_0 (f := 4) (q := (jx_f1 10 0)) (idx := 33) (by decide +kernel) rfl wd_305 rfl) <|
  jx_all1 (sd_iload_n (pc := 28) (q := 1) (by decide +kernel) rfl) <|
  jx_all1 (sd_aaload (pc := 29) (by decide +kernel)) <|
  jx_all1 (sd_gI (pc := 30) kf_11 (f := 1) (q := jx_f0) (idx := 159) (by decide +kernel) rfl wd_149 rfl) <|
  jx_all1 (sd_iconst (pc := 33) (n := 2) (by decide +kernel) (by decide +kernel)) <|
  jx_all1 (sd_idiv (pc := 34) (by decide +kernel)) <|
  jx_all1 (sd_istore_n (pc := 35) (q := 2) (by decide +kernel) rfl) <|
  jx_all1 (sd_aload_n (pc := 36) (q := 0) (by decide +kernel) rfl) <|
  jx_all1 (sd_aload_n (pc := 37) (q := 0) (by decide +kernel) rfl) <|
  jx_all1 (sd_gR (pc := 38) kf_0 (f := 4) (q := (jx_f1 10 0)) (idx := 33) (by decide +kernel) rfl wd_305 rfl) <|
  jx_all1 (sd_iload_n (pc := 41) (q := 1) (by decide +kernel) rfl) <|
  jx_all1 (sd_aaload (pc := 42) (by decide +kernel)) <|
  jx_all1 (sd_gR (pc := 43) kf_11 (f := 2) (q := (jx_fi 12)) (idx := 172) (by decide +kernel) rfl wd_151 rfl) <|
  jx_all1 (sd_iload_n (pc := 46) (q := 2) (by decide +kernel) rfl) <|
  jx_all1 (sd_vI (pc := 47) (idx := 184) (kd := 0) (by decide +kernel) mf_36 wd_481 rfl rfl) <|
  jx_all1 (sd_istore_n (pc := 50) (q := 3) (by decide +kernel) rfl) <|
  jx_all1 (sd_iload_n (pc := 51) (q := 3) (by decide +kernel) rfl) <|
  jx_all1 (sd_ifne (pc := 52) (off := 20) (by decide +kernel) (by decide +kernel)) <|
  jx_all1 (sd_aload_n (pc := 55) (q := 0) (by decide +kernel) rfl) <|
  jx_all1 (sd_gR (pc := 56) kf_0 (f := 0) (q := (jx_f1 1 0)) (idx := 12) (by decide +kernel) rfl wd_301 rfl) <|
  jx_all1 (sd_gI (pc := 59) kf_1 (f := 1) (q := jx_f0) (idx := 107) (by decide +kernel) rfl wd_85 rfl) <|
  jx_all1 (sd_iload_n (pc := 62) (q := 2) (by decide +kernel) rfl) <|
  jx_all1 (sd_iadd (pc := 63) (by decide +kernel)) <|
  jx_all1 (sd_bipush (pc := 64) (n := 20) (by decide +kernel) (by decide +kernel)) <|
  jx_all1 (sd_icle (pc := 66) (off := 6) (by decide +kernel) (by decide +kernel)) <|
  jx_all1 (sd_bipush (pc := 69) (n := (-5)) (by decide +kernel) (by decide +kernel)) <|
  jx_all1 (sd_istore_n (pc := 71) (q := 3) (by decide +kernel) rfl) <|
  jx_all1 (sd_iload_n (pc := 72) (q := 3) (by decide +kernel) rfl) <|
  jx_all1 (sd_ireturn (pc := 73) (by decide +kernel) rfl) <|
  jx_all0
set_option maxRecDepth 100000 in
theorem sn_36 (D : jx_D) : jx_all (fun q => jx_Snd cX9_faultOfPairs 6 RX9 (some .int) D q.1 q.2) (tb_36 D) := by
  unfold tb_36
  exact jx_all1 (sd_iconst (pc := 0) (n := 0) (by decide +kernel) (by decide +kernel)) <|
  jx_all1 (sd_istore_n (pc := 1) (q := 3) (by decide +kernel) rfl) <|
  jx_all1 (sd_iconst (pc := 2) (n := 0) (by decide +kernel) (by decide +kernel)) <|
  jx_all1 (sd_istore (pc := 3) (by decide +kernel)) <|
  jx_all1 (sd_iload (pc := 5) (by decide +kernel)) <|
  jx_all1 (sd_iload_n (pc := 7) (q := 2) (by decide +kernel) rfl) <|
  jx_all1 (sd_icge (pc := 8) (off := 45) (by decide +kernel) (by decide +kernel)) <|
  jx_all1 (sd_aload_n (pc := 11) (q := 0) (by decide +kernel) rfl) <|
  jx_all1 (sd_aload_n (pc := 12) (q := 1) (by decide +kernel) rfl) <|
  jx_all1 (sd_iconst (pc := 13) (n := 2) (by decide +kernel) (by decide +kernel)) <|
  jx_all1 (sd_iload (pc := 14) (by decide +kernel)) <|
  jx_all1 (sd_imul (pc := 16) (by decide +kernel)) <|
  jx_all1 (sd_iaload (pc := 17) (by decide +kernel)) <|
  jx_all1 (sd_aload_n (pc := 18) (q := 1) (by decide +kernel) rfl) <|
  jx_all1 (sd_iconst (pc := 19) (n := 2) (by decide +kernel) (by decide +kernel)) <|
  jx_all1 (sd_iload (pc := 20) (by decide +kernel)) <|
  jx_all1 (sd_imul (pc := 22) (by decide +kernel)) <|
  jx_all1 (sd_iconst (pc := 23) (n := 1) (by decide +kernel) (by decide +kernel)) <|
  jx_all1 (sd_iadd (pc := 24) (by decide +kernel)) <|
  jx_all1 (sd_iaload (pc := 25) (by decide +kernel)) <|
  jx_all1 (sd_vI (pc := 26) (idx := 103) (kd := 0) (by decide +kernel) mf_11 wd_382 rfl rfl) <|
  jx_all1 (sd_istore (pc := 29) (by decide +kernel)) <|
  jx_all1 (sd_iload (pc := 31) (by decide +kernel)) <|
  jx_all1 (sd_iconst (pc := 33) (n := (-1)) (by decide +kernel) (by decide +kernel)) <|
  jx_all1 (sd_icne (pc := 34) (off := 5) (by decide +kernel) (by decide +kernel)) <|
  jx_all1 (sd_iconst (pc := 37) (n := (-1)) (by decide +kernel) (by decide +kernel)) <|
  jx_all1 (sd_ireturn (pc := 38) (by decide +kernel) rfl) <|
  jx_all1 (sd_iload (pc := 39) (by decide +kernel)) <|
  jx_all1 (sd_ifeq (pc := 41) (off := 6) (by decide +kernel) (by decide +kernel)) <|
  jx_all1 (sd_iload (pc := 44) (by decide +kernel)) <|
  jx_all1 (sd_istore_n (pc := 46) (q := 3) (by decide +kernel) rfl) <|
  jx_all1 (sd_iinc (pc := 47) (n := 1) (by decide +kernel) (by decide +kernel)) <|
  jx_all1 (sd_goto (pc := 50) (off := (-45)) (by decide +kernel) (by decide +kernel)) <|
  jx_all1 (sd_iload_n (pc := 53) (q := 3) (by decide +kernel) rfl) <|
  jx_all1 (sd_ireturn (pc := 54) (by decide +kernel) rfl) <|
  jx_all0
set_option maxRecDepth 100000 in
theorem sn_37 (D : jx_D) : jx_all (fun q => jx_Snd cX9_hold 4 RX9 (some .int) D q.1 q.2) (tb_37 D) := by
  unfold tb_37
  exact jx_all1 (sd_aload_n (pc := 0) (q := 0) (by decide +kernel) rfl) <|
  jx_all1 (sd_iload_n (pc := 1) (q := 1) (by decide +kernel) rfl) <|
  jx_all1 (sd_iload_n (pc := 2) (q := 2) (by decide +kernel) rfl) <|
  jx_all1 (sd_vI (pc := 3) (idx := 103) (kd := 0) (by decide +kernel) mf_11 wd_382 rfl rfl) <|
  jx_all1 (sd_istore_n (pc := 6) (q := 3) (by decide +kernel) rfl) <|
  jx_all1 (sd_iload_n (pc := 7) (q := 3) (by decide +kernel) rfl) <|
  jx_all1 (sd_ifeq (pc := 8) (off := 9) (by decide +kernel) (by decide +kernel)) <|
  jx_all1 (sd_aload_n (pc := 11) (q := 0) (by decide +kernel) rfl) <|
  jx_all1 (sd_iload_n (pc := 12) (q := 3) (by decide +kernel) rfl) <|
  jx_all1 (sd_vI (pc := 13) (idx := 95) (kd := 0) (by decide +kernel) mf_8 wd_370 rfl rfl) <|
  jx_all1 (sd_ireturn (pc := 16) (by decide +kernel) rfl) <|
  jx_all1 (sd_aload_n (pc := 17) (q := 0) (by decide +kernel) rfl) <|
  jx_all1 (sd_gR (pc := 18) kf_0 (f := 8) (q := (jx_f1 14 0)) (idx := 44) (by decide +kernel) rfl wd_309 rfl) <|
  jx_all1 (sd_aload_n (pc := 21) (q := 0) (by decide +kernel) rfl) <|
  jx_all1 (sd_gR (pc := 22) kf_0 (f := 0) (q := (jx_f1 1 0)) (idx := 12) (by decide +kernel) rfl wd_301 rfl) <|
  jx_all1 (sd_vV (pc := 25) (idx := 188) (kd := 14) (by decide +kernel) mf_38 wd_489 rfl rfl) <|
  jx_all1 (sd_aload_n (pc := 28) (q := 0) (by decide +kernel) rfl) <|
  jx_all1 (sd_gR (pc := 29) kf_0 (f := 8) (q := (jx_f1 14 0)) (idx := 44) (by decide +kernel) rfl wd_309 rfl) <|
  jx_all1 (sd_iload_n (pc := 32) (q := 1) (by decide +kernel) rfl) <|
  jx_all1 (sd_iload_n (pc := 33) (q := 2) (by decide +kernel) rfl) <|
  jx_all1 (sd_vI (pc := 34) (idx := 191) (kd := 14) (by decide +kernel) mf_40 wd_498 rfl rfl) <|
  jx_all1 (sd_ireturn (pc := 37) (by decide +kernel) rfl) <|
  jx_all0
set_option maxRecDepth 100000 in
theorem sn_38 (D : jx_D) : jx_all (fun q => jx_Snd cX6_read 4 RX6 none D q.1 q.2) (tb_38 D) := by
  unfold tb_38
  exact jx_all1 (sd_aload_n (pc := 0) (q := 0) (by decide +kernel) rfl) <|
  jx_all1 (sd_aload_n (pc := 1) (q := 1) (by decide +kernel) rfl) <|
  jx_all1 (sd_gI (pc := 2) kf_1 (f := 0) (q := jx_f0) (idx := 24) (by decide +kernel) rfl wd_78 rfl) <|
  jx_all1 (sd_pI (pc := 5) kf_14 (f := 0) (q := jx_f0) (idx := 30) (by decide +kernel) rfl wd_166 rfl rfl rfl) <|
  jx_all1 (sd_aload_n (pc := 8) (q := 0) (by decide +kernel) rfl) <|
  jx_all1 (sd_aload_n (pc := 9) (q := 1) (by decide +kernel) rfl) <|
  jx_all1 (sd_gI (pc := 10) kf_1 (f := 1) (q := jx_f0) (idx := 31) (by decide +kernel) rfl wd_82 rfl) <|
  jx_all1 (sd_pI (pc := 13) kf_14 (f := 1) (q := jx_f0) (idx := 34) (by decide +kernel) rfl wd_167 rfl rfl rfl) <|
  jx_all1 (sd_aload_n (pc := 16) (q := 0) (by decide +kernel) rfl) <|
  jx_all1 (sd_aload_n (pc := 17) (q := 1) (by decide +kernel) rfl) <|
  jx_all1 (sd_gI (pc := 18) kf_1 (f := 2) (q := jx_f0) (idx := 35) (by decide +kernel) rfl wd_87 rfl) <|
  jx_all1 (sd_pZ (pc := 21) kf_14 (f := 2) (q := jx_f0) (idx := 39) (by decide +kernel) rfl wd_170 rfl rfl rfl) <|
  jx_all1 (sd_aload_n (pc := 24) (q := 0) (by decide +kernel) rfl) <|
  jx_all1 (sd_aload_n (pc := 25) (q := 0) (by decide +kernel) rfl) <|
  jx_all1 (sd_gI (pc := 26) kf_14 (f := 0) (q := jx_f0) (idx := 30) (by decide +kernel) rfl wd_166 rfl) <|
  jx_all1 (sd_cI (pc := 29) (idx := 40) (by decide +kernel) mf_17 (Or.inr ⟨RX9, by decide +kernel⟩)) <|
  jx_all1 (sd_pI (pc := 32) kf_14 (f := 3) (q := jx_f0) (idx := 44) (by decide +kernel) rfl wd_173 rfl rfl rfl) <|
  jx_all1 (sd_aload_n (pc := 35) (q := 0) (by decide +kernel) rfl) <|
  jx_all1 (sd_aload_n (pc := 36) (q := 0) (by decide +kernel) rfl) <|
  jx_all1 (sd_gI (pc := 37) kf_14 (f := 1) (q := jx_f0) (idx := 34) (by decide +kernel) rfl wd_167 rfl) <|
  jx_all1 (sd_cI (pc := 40) (idx := 40) (by decide +kernel) mf_17 (Or.inr ⟨RX9, by decide +kernel⟩)) <|
  jx_all1 (sd_pI (pc := 43) kf_14 (f := 4) (q := jx_f0) (idx := 47) (by decide +kernel) rfl wd_178 rfl rfl rfl) <|
  jx_all1 (sd_aload_n (pc := 46) (q := 0) (by decide +kernel) rfl) <|
  jx_all1 (sd_aload_n (pc := 47) (q := 0) (by decide +kernel) rfl) <|
  jx_all1 (sd_gI (pc := 48) kf_14 (f := 2) (q := jx_f0) (idx := 39) (by decide +kernel) rfl wd_170 rfl) <|
  jx_all1 (sd_ifeq (pc := 51) (off := 10) (by decide +kernel) (by decide +kernel)) <|
  jx_all1 (sd_aload_n (pc := 54) (q := 0) (by decide +kernel) rfl) <|
  jx_all1 (sd_gI (pc := 55) kf_14 (f := 3) (q := jx_f0) (idx := 44) (by decide +kernel) rfl wd_173 rfl) <|
  jx_all1 (sd_goto (pc := 58) (off := 11) (by decide +kernel) (by decide +kernel)) <|
  jx_all1 (sd_aload_n (pc := 61) (q := 0) (by decide +kernel) rfl) <|
  jx_all1 (sd_gI (pc := 62) kf_14 (f := 3) (q := jx_f0) (idx := 44) (by decide +kernel) rfl wd_173 rfl) <|
  jx_all1 (sd_iconst (pc := 65) (n := 1) (by decide +kernel) (by decide +kernel)) <|
  jx_all1 (sd_iadd (pc := 66) (by decide +kernel)) <|
  jx_all1 (sd_iconst (pc := 67) (n := 2) (by decide +kernel) (by decide +kernel)) <|
  jx_all1 (sd_idiv (pc := 68) (by decide +kernel)) <|
  jx_all1 (sd_pI (pc := 69) kf_14 (f := 5) (q := jx_f0) (idx := 50) (by decide +kernel) rfl wd_180 rfl rfl rfl) <|
  jx_all1 (sd_aload_n (pc := 72) (q := 0) (by decide +kernel) rfl) <|
  jx_all1 (sd_aload_n (pc := 73) (q := 0) (by decide +kernel) rfl) <|
  jx_all1 (sd_gI (pc := 74) kf_14 (f := 2) (q := jx_f0) (idx := 39) (by decide +kernel) rfl wd_170 rfl) <|
  jx_all1 (sd_ifeq (pc := 77) (off := 7) (by decide +kernel) (by decide +kernel)) <|
  jx_all1 (sd_iconst (pc := 80) (n := 0) (by decide +kernel) (by decide +kernel)) <|
  jx_all1 (sd_goto (pc := 81) (off := 4) (by decide +kernel) (by decide +kernel)) <|
  jx_all1 (sd_iconst (pc := 84) (n := 1) (by decide +kernel) (by decide +kernel)) <|
  jx_all1 (sd_pI (pc := 85) kf_14 (f := 6) (q := jx_f0) (idx := 53) (by decide +kernel) rfl wd_181 rfl rfl rfl) <|
  jx_all1 (sd_aload_n (pc := 88) (q := 0) (by decide +kernel) rfl) <|
  jx_all1 (sd_aload_n (pc := 89) (q := 1) (by decide +kernel) rfl) <|
  jx_all1 (sd_vV (pc := 90) (idx := 56) (kd := 14) (by decide +kernel) mf_39 wd_494 rfl rfl) <|
  jx_all1 (sd_iconst (pc := 93) (n := 1) (by decide +kernel) (by decide +kernel)) <|
  jx_all1 (sd_istore_n (pc := 94) (q := 2) (by decide +kernel) rfl) <|
  jx_all1 (sd_iload_n (pc := 95) (q := 2) (by decide +kernel) rfl) <|
  jx_all1 (sd_aload_n (pc := 96) (q := 0) (by decide +kernel) rfl) <|
  jx_all1 (sd_gI (pc := 97) kf_14 (f := 3) (q := jx_f0) (idx := 44) (by decide +kernel) rfl wd_173 rfl) <|
  jx_all1 (sd_icgt (pc := 100) (off := 121) (by decide +kernel) (by decide +kernel)) <|
  jx_all1 (sd_iload_n (pc := 103) (q := 2) (by decide +kernel) rfl) <|
  jx_all1 (sd_iload_n (pc := 104) (q := 2) (by decide +kernel) rfl) <|
  jx_all1 (sd_ineg (pc := 105) (by decide +kernel)) <|
  jx_all1 (sd_iand (pc := 106) (by decide +kernel)) <|
  jx_all1 (sd_istore_n (pc := 107) (q := 3) (by decide +kernel) rfl) <|
  jx_all1 (sd_aload_n (pc := 108) (q := 0) (by decide +kernel) rfl) <|
  jx_all1 (sd_gR (pc := 109) kf_14 (f := 7) (q := (jx_f1 15 0)) (idx := 9) (by decide +kernel) rfl wd_182 rfl) <|
  jx_all1 (sd_iload_n (pc := 112) (q := 2) (by decide +kernel) rfl) <|
  jx_all1 (sd_aload_n (pc := 113) (q := 0) (by decide +kernel) rfl) <|
  jx_all1 (sd_gR (pc := 114) kf_14 (f := 7) (q := (jx_f1 15 0)) (idx := 9) (by decide +kernel) rfl wd_182 rfl) <|
  jx_all1 (sd_iload_n (pc := 117) (q := 3) (by decide +kernel) rfl) <|
  jx_all1 (sd_iaload (pc := 118) (by decide +kernel)) <|
  jx_all1 (sd_aload_n (pc := 119) (q := 0) (by decide +kernel) rfl) <|
  jx_all1 (sd_gR (pc := 120) kf_14 (f := 7) (q := (jx_f1 15 0)) (idx := 9) (by decide +kernel) rfl wd_182 rfl) <|
  jx_all1 (sd_iload_n (pc := 123) (q := 2) (by decide +kernel) rfl) <|
  jx_all1 (sd_iload_n (pc := 124) (q := 3) (by decide +kernel) rfl) <|
  jx_all1 (sd_ixor (pc := 125) (by decide +kernel)) <|
  jx_all1 (sd_iaload (pc := 126) (by decide +kernel)) <|
  jx_all1 (sd_ior (pc := 127) (by decide +kernel)) <|
  jx_all1 (sd_iastore (pc := 128) (by decide +kernel)) <|
  jx_all1 (sd_aload_n (pc := 129) (q := 0) (by decide +kernel) rfl) <|
  jx_all1 (sd_gR (pc := 130) kf_14 (f := 8) (q := (jx_f1 16 0)) (idx := 15) (by decide +kernel) rfl wd_185 rfl) <|
  jx_all1 (sd_iload_n (pc := 133) (q := 2) (by decide +kernel) rfl) <|
  jx_all1 (sd_aload_n (pc := 134) (q := 0) (by decide +kernel) rfl) <|
  jx_all1 (sd_gR (pc := 135) kf_14 (f := 8) (q := (jx_f1 16 0)) (idx := 15) (by decide +kernel) rfl wd_185 rfl) <|
  jx_all1 (sd_iload_n (pc := 138) (q := 3) (by decide +kernel) rfl) <|
  jx_all1 (sd_iaload (pc := 139) (by decide +kernel)) <|
  jx_all1 (sd_aload_n (pc := 140) (q := 0) (by decide +kernel) rfl) <|
  jx_all1 (sd_gR (pc := 141) kf_14 (f := 8) (q := (jx_f1 16 0)) (idx := 15) (by decide +kernel) rfl wd_185 rfl) <|
  jx_all1 (sd_iload_n (pc := 144) (q := 2) (by decide +kernel) rfl) <|
  jx_all1 (sd_iload_n (pc := 145) (q := 3) (by decide +kernel) rfl) <|
  jx_all1 (sd_ixor (pc := 146) (by decide +kernel)) <|
  jx_all1 (sd_iaload (pc := 147) (by decide +kernel)) <|
  jx_all1 (sd_ior (pc := 148) (by decide +kernel)) <|
  jx_all1 (sd_iastore (pc := 149) (by decide +kernel)) <|
  jx_all1 (sd_aload_n (pc := 150) (q := 0) (by decide +kernel) rfl) <|
  jx_all1 (sd_gR (pc := 151) kf_14 (f := 9) (q := (jx_f1 17 0)) (idx := 18) (by decide +kernel) rfl wd_188 rfl) <|
  jx_all1 (sd_iload_n (pc := 154) (q := 2) (by decide +kernel) rfl) <|
  jx_all1 (sd_aload_n (pc := 155) (q := 0) (by decide +kernel) rfl) <|
  jx_all1 (sd_gR (pc := 156) kf_14 (f := 9) (q := (jx_f1 17 0)) (idx := 18) (by decide +kernel) rfl wd_188 rfl) <|
  jx_all1 (sd_iload_n (pc := 159) (q := 3) (by decide +kernel) rfl) <|
  jx_all1 (sd_iaload (pc := 160) (by decide +kernel)) <|
  jx_all1 (sd_aload_n (pc := 161) (q := 0) (by decide +kernel) rfl) <|
  jx_all1 (sd_gR (pc := 162) kf_14 (f := 9) (q := (jx_f1 17 0)) (idx := 18) (by decide +kernel) rfl wd_188 rfl) <|
  jx_all1 (sd_iload_n (pc := 165) (q := 2) (by decide +kernel) rfl) <|
  jx_all1 (sd_iload_n (pc := 166) (q := 3) (by decide +kernel) rfl) <|
  jx_all1 (sd_ixor (pc := 167) (by decide +kernel)) <|
  jx_all1 (sd_iaload (pc := 168) (by decide +kernel)) <|
  jx_all1 (sd_ior (pc := 169) (by decide +kernel)) <|
  jx_all1 (sd_iastore (pc := 170) (by decide +kernel)) <|
  jx_all1 (sd_aload_n (pc := 171) (q := 0) (by decide +kernel) rfl) <|
  jx_all1 (sd_gR (pc := 172) kf_14 (f := 10) (q := (jx_f1 18 0)) (idx := 21) (by decide +kernel) rfl wd_189 rfl) <|
  jx_all1 (sd_iload_n (pc := 175) (q := 2) (by decide +kernel) rfl) <|
  jx_all1 (sd_aload_n (pc := 176) (q := 0) (by decide +kernel) rfl) <|
  jx_all1 (sd_gI (pc := 177) kf_14 (f := 2) (q := jx_f0) (idx := 39) (by decide +kernel) rfl wd_170 rfl) <|
  jx_all1 (sd_ifeq (pc := 180) (off := 21) (by decide +kernel) (by decide +kernel)) <|
  jx_all1 (sd_aload_n (pc := 183) (q := 0) (by decide +kernel) rfl) <|
  jx_all1 (sd_gR (pc := 184) kf_14 (f := 7) (q := (jx_f1 15 0)) (idx := 9) (by decide +kernel) rfl wd_182 rfl) <|
  jx_all1 (sd_iload_n (pc := 187) (q := 2) (by decide +kernel) rfl) <|
  jx_all1 (sd_iaload (pc := 188) (by decide +kernel)) <|
  jx_all1 (sd_aload_n (pc := 189) (q := 0) (by decide +kernel) rfl) <|
  jx_all1 (sd_gR (pc := 190) kf_14 (f := 8) (q := (jx_f1 16 0)) (idx := 15) (by decide +kernel) rfl wd_185 rfl) <|
  jx_all1 (sd_iload_n (pc := 193) (q := 2) (by decide +kernel) rfl) <|
  jx_all1 (sd_iaload (pc := 194) (by decide +kernel)) <|
  jx_all1 (sd_iconst (pc := 195) (n := (-1)) (by decide +kernel) (by decide +kernel)) <|
  jx_all1 (sd_ixor (pc := 196) (by decide +kernel)) <|
  jx_all1 (sd_iand (pc := 197) (by decide +kernel)) <|
  jx_all1 (sd_goto (pc := 198) (off := 16) (by decide +kernel) (by decide +kernel)) <|
  jx_all1 (sd_aload_n (pc := 201) (q := 0) (by decide +kernel) rfl) <|
  jx_all1 (sd_gR (pc := 202) kf_14 (f := 7) (q := (jx_f1 15 0)) (idx := 9) (by decide +kernel) rfl wd_182 rfl) <|
  jx_all1 (sd_iload_n (pc := 205) (q := 2) (by decide +kernel) rfl) <|
  jx_all1 (sd_iaload (pc := 206) (by decide +kernel)) <|
  jx_all1 (sd_aload_n (pc := 207) (q := 0) (by decide +kernel) rfl) <|
  jx_all1 (sd_gR (pc := 208) kf_14 (f := 8) (q := (jx_f1 16 0)) (idx := 15) (by decide +kernel) rfl wd_185 rfl) <|
  jx_all1 (sd_iload_n (pc := 211) (q := 2) (by decide +kernel) rfl) <|
  jx_all1 (sd_iaload (pc := 212) (by decide +kernel)) <|
  jx_all1 (sd_ixor (pc := 213) (by decide +kernel)) <|
  jx_all1 (sd_iastore (pc := 214) (by decide +kernel)) <|
  jx_all1 (sd_iinc (pc := 215) (n := 1) (by decide +kernel) (by decide +kernel)) <|
  jx_all1 (sd_goto (pc := 218) (off := (-123)) (by decide +kernel) (by decide +kernel)) <|
  jx_all1 (sd_return (pc := 221) (by decide +kernel) rfl) <|
  jx_all0
set_option maxRecDepth 100000 in
theorem sn_39 (D : jx_D) : jx_all (fun q => jx_Snd cX6_readPosts 5 RX6 none D q.1 q.2) (tb_39 D) := by
  unfold tb_39
  exact jx_all1 (sd_iconst (pc := 0) (n := 0) (by decide +kernel) (by decide +kernel)) <|
  jx_all1 (sd_istore_n (pc := 1) (q := 2) (by decide +kernel) rfl) <|
  jx_all1 (sd_iload_n (pc := 2) (q := 2) (by decide +kernel) rfl) <|
  jx_all1 (sd_aload_n (pc := 3) (q := 0) (by decide +kernel) rfl) <|
  jx_all1 (sd_gI (pc := 4) kf_14 (f := 0) (q := jx_f0) (idx := 30) (by decide +kernel) rfl wd_166 rfl) <|
  jx_all1 (sd_icge (pc := 7) (off := 36) (by decide +kernel) (by decide +kernel)) <|
  jx_all1 (sd_aload_n (pc := 10) (q := 0) (by decide +kernel) rfl) <|
  jx_all1 (sd_gR (pc := 11) kf_14 (f := 7) (q := (jx_f1 15 0)) (idx := 9) (by decide +kernel) rfl wd_182 rfl) <|
  jx_all1 (sd_iconst (pc := 14) (n := 1) (by decide +kernel) (by decide +kernel)) <|
  jx_all1 (sd_iload_n (pc := 15) (q := 2) (by decide +kernel) rfl) <|
  jx_all1 (sd_ishl (pc := 16) (by decide +kernel)) <|
  jx_all1 (sd_iconst (pc := 17) (n := 0) (by decide +kernel) (by decide +kernel)) <|
  jx_all1 (sd_iastore (pc := 18) (by decide +kernel)) <|
  jx_all1 (sd_aload_n (pc := 19) (q := 0) (by decide +kernel) rfl) <|
  jx_all1 (sd_gR (pc := 20) kf_14 (f := 8) (q := (jx_f1 16 0)) (idx := 15) (by decide +kernel) rfl wd_185 rfl) <|
  jx_all1 (sd_iconst (pc := 23) (n := 1) (by decide +kernel) (by decide +kernel)) <|
  jx_all1 (sd_iload_n (pc := 24) (q := 2) (by decide +kernel) rfl) <|
  jx_all1 (sd_ishl (pc := 25) (by decide +kernel)) <|
  jx_all1 (sd_iconst (pc := 26) (n := 0) (by decide +kernel) (by decide +kernel)) <|
  jx_all1 (sd_iastore (pc := 27) (by decide +kernel)) <|
  jx_all1 (sd_aload_n (pc := 28) (q := 0) (by decide +kernel) rfl) <|
  jx_all1 (sd_gR (pc := 29) kf_14 (f := 9) (q := (jx_f1 17 0)) (idx := 18) (by decide +kernel) rfl wd_188 rfl) <|
  jx_all1 (sd_iconst (pc := 32) (n := 1) (by decide +kernel) (by decide +kernel)) <|
  jx_all1 (sd_iload_n (pc := 33) (q := 2) (by decide +kernel) rfl) <|
  jx_all1 (sd_ishl (pc := 34) (by decide +kernel)) <|
  jx_all1 (sd_iconst (pc := 35) (n := 0) (by decide +kernel) (by decide +kernel)) <|
  jx_all1 (sd_iastore (pc := 36) (by decide +kernel)) <|
  jx_all1 (sd_iinc (pc := 37) (n := 1) (by decide +kernel) (by decide +kernel)) <|
  jx_all1 (sd_goto (pc := 40) (off := (-38)) (by decide +kernel) (by decide +kernel)) <|
  jx_all1 (sd_iconst (pc := 43) (n := 0) (by decide +kernel) (by decide +kernel)) <|
  jx_all1 (sd_istore_n (pc := 44) (q := 2) (by decide +kernel) rfl) <|
  jx_all1 (sd_iload_n (pc := 45) (q := 2) (by decide +kernel) rfl) <|
  jx_all1 (sd_aload_n (pc := 46) (q := 0) (by decide +kernel) rfl) <|
  jx_all1 (sd_gI (pc := 47) kf_14 (f := 1) (q := jx_f0) (idx := 34) (by decide +kernel) rfl wd_167 rfl) <|
  jx_all1 (sd_icge (pc := 50) (off := 82) (by decide +kernel) (by decide +kernel)) <|
  jx_all1 (sd_iconst (pc := 53) (n := 1) (by decide +kernel) (by decide +kernel)) <|
  jx_all1 (sd_aload_n (pc := 54) (q := 1) (by decide +kernel) rfl) <|
  jx_all1 (sd_gR (pc := 55) kf_1 (f := 3) (q := (jx_fi 2)) (idx := 60) (by decide +kernel) rfl wd_91 rfl) <|
  jx_all1 (sd_iload_n (pc := 58) (q := 2) (by decide +kernel) rfl) <|
  jx_all1 (sd_iaload (pc := 59) (by decide +kernel)) <|
  jx_all1 (sd_ishl (pc := 60) (by decide +kernel)) <|
  jx_all1 (sd_istore_n (pc := 61) (q := 3) (by decide +kernel) rfl) <|
  jx_all1 (sd_iconst (pc := 62) (n := 1) (by decide +kernel) (by decide +kernel)) <|
  jx_all1 (sd_aload_n (pc := 63) (q := 1) (by decide +kernel) rfl) <|
  jx_all1 (sd_gR (pc := 64) kf_1 (f := 4) (q := (jx_fi 3)) (idx := 63) (by decide +kernel) rfl wd_94 rfl) <|
  jx_all1 (sd_iload_n (pc := 67) (q := 2) (by decide +kernel) rfl) <|
  jx_all1 (sd_iaload (pc := 68) (by decide +kernel)) <|
  jx_all1 (sd_ishl (pc := 69) (by decide +kernel)) <|
  jx_all1 (sd_istore (pc := 70) (by decide +kernel)) <|
  jx_all1 (sd_aload_n (pc := 72) (q := 0) (by decide +kernel) rfl) <|
  jx_all1 (sd_gR (pc := 73) kf_14 (f := 7) (q := (jx_f1 15 0)) (idx := 9) (by decide +kernel) rfl wd_182 rfl) <|
  jx_all1 (sd_iload_n (pc := 76) (q := 3) (by decide +kernel) rfl) <|
  jx_all1 (sd_dup2 (pc := 77) (by decide +kernel)) <|
  jx_all1 (sd_iaload (pc := 78) (by decide +kernel)) <|
  jx_all1 (sd_iconst (pc := 79) (n := 1) (by decide +kernel) (by decide +kernel)) <|
  jx_all1 (sd_iload_n (pc := 80) (q := 2) (by decide +kernel) rfl) <|
  jx_all1 (sd_ishl (pc := 81) (by decide +kernel)) <|
  jx_all1 (sd_ior (pc := 82) (by decide +kernel)) <|
  jx_all1 (sd_iastore (pc := 83) (by decide +kernel)) <|
  jx_all1 (sd_aload_n (pc := 84) (q := 0) (by decide +kernel) rfl) <|
  jx_all1 (sd_gR (pc := 85) kf_14 (f := 8) (q := (jx_f1 16 0)) (idx := 15) (by decide +kernel) rfl wd_185 rfl) <|
  jx_all1 (sd_iload (pc := 88) (by decide +kernel)) <|
  jx_all1 (sd_dup2 (pc := 90) (by decide +kernel)) <|
  jx_all1 (sd_iaload (pc := 91) (by decide +kernel)) <|
  jx_all1 (sd_iconst (pc := 92) (n := 1) (by decide +kernel) (by decide +kernel)) <|
  jx_all1 (sd_iload_n (pc := 93) (q := 2) (by decide +kernel) rfl) <|
  jx_all1 (sd_ishl (pc := 94) (by decide +kernel)) <|
  jx_all1 (sd_ior (pc := 95) (by decide +kernel)) <|
  jx_all1 (sd_iastore (pc := 96) (by decide +kernel)) <|
  jx_all1 (sd_aload_n (pc := 97) (q := 0) (by decide +kernel) rfl) <|
  jx_all1 (sd_gR (pc := 98) kf_14 (f := 9) (q := (jx_f1 17 0)) (idx := 18) (by decide +kernel) rfl wd_188 rfl) <|
  jx_all1 (sd_iload_n (pc := 101) (q := 3) (by decide +kernel) rfl) <|
  jx_all1 (sd_dup2 (pc := 102) (by decide +kernel)) <|
  jx_all1 (sd_iaload (pc := 103) (by decide +kernel)) <|
  jx_all1 (sd_iload (pc := 104) (by decide +kernel)) <|
  jx_all1 (sd_ior (pc := 106) (by decide +kernel)) <|
  jx_all1 (sd_iastore (pc := 107) (by decide +kernel)) <|
  jx_all1 (sd_aload_n (pc := 108) (q := 0) (by decide +kernel) rfl) <|
  jx_all1 (sd_gI (pc := 109) kf_14 (f := 2) (q := jx_f0) (idx := 39) (by decide +kernel) rfl wd_170 rfl) <|
  jx_all1 (sd_ifne (pc := 112) (off := 14) (by decide +kernel) (by decide +kernel)) <|
  jx_all1 (sd_aload_n (pc := 115) (q := 0) (by decide +kernel) rfl) <|
  jx_all1 (sd_gR (pc := 116) kf_14 (f := 9) (q := (jx_f1 17 0)) (idx := 18) (by decide +kernel) rfl wd_188 rfl) <|
  jx_all1 (sd_iload (pc := 119) (by decide +kernel)) <|
  jx_all1 (sd_dup2 (pc := 121) (by decide +kernel)) <|
  jx_all1 (sd_iaload (pc := 122) (by decide +kernel)) <|
  jx_all1 (sd_iload_n (pc := 123) (q := 3) (by decide +kernel) rfl) <|
  jx_all1 (sd_ior (pc := 124) (by decide +kernel)) <|
  jx_all1 (sd_iastore (pc := 125) (by decide +kernel)) <|
  jx_all1 (sd_iinc (pc := 126) (n := 1) (by decide +kernel) (by decide +kernel)) <|
  jx_all1 (sd_goto (pc := 129) (off := (-84)) (by decide +kernel) (by decide +kernel)) <|
  jx_all1 (sd_return (pc := 132) (by decide +kernel) rfl) <|
  jx_all0
set_option maxRecDepth 100000 in
theorem sn_40 (D : jx_D) : jx_all (fun q => jx_Snd cX6_holdOf 5 RX6 (some .int) D q.1 q.2) (tb_40 D) := by
  unfold tb_40
  exact jx_all1 (sd_aload_n (pc := 0) (q := 0) (by decide +kernel) rfl) <|
  jx_all1 (sd_gI (pc := 1) kf_14 (f := 1) (q := jx_f0) (idx := 34) (by decide +kernel) rfl wd_167 rfl) <|
  jx_all1 (sd_istore_n (pc := 4) (q := 3) (by decide +kernel) rfl) <|
  jx_all1 (sd_iconst (pc := 5) (n := 1) (by decide +kernel) (by decide +kernel)) <|
  jx_all1 (sd_istore (pc := 6) (by decide +kernel)) <|
  jx_all1 (sd_iload (pc := 8) (by decide +kernel)) <|
  jx_all1 (sd_aload_n (pc := 10) (q := 0) (by decide +kernel) rfl) <|
  jx_all1 (sd_gI (pc := 11) kf_14 (f := 3) (q := jx_f0) (idx := 44) (by decide +kernel) rfl wd_173 rfl) <|
  jx_all1 (sd_icge (pc := 14) (off := 42) (by decide +kernel) (by decide +kernel)) <|
  jx_all1 (sd_iload (pc := 17) (by decide +kernel)) <|
  jx_all1 (sd_iload_n (pc := 19) (q := 1) (by decide +kernel) rfl) <|
  jx_all1 (sd_cI (pc := 20) (idx := 66) (by decide +kernel) mf_19 (Or.inr ⟨RX9, by decide +kernel⟩)) <|
  jx_all1 (sd_ifeq (pc := 23) (off := 27) (by decide +kernel) (by decide +kernel)) <|
  jx_all1 (sd_iload (pc := 26) (by decide +kernel)) <|
  jx_all1 (sd_iload_n (pc := 28) (q := 2) (by decide +kernel) rfl) <|
  jx_all1 (sd_cI (pc := 29) (idx := 66) (by decide +kernel) mf_19 (Or.inr ⟨RX9, by decide +kernel⟩)) <|
  jx_all1 (sd_ifne (pc := 32) (off := 18) (by decide +kernel) (by decide +kernel)) <|
  jx_all1 (sd_iload_n (pc := 35) (q := 3) (by decide +kernel) rfl) <|
  jx_all1 (sd_aload_n (pc := 36) (q := 0) (by decide +kernel) rfl) <|
  jx_all1 (sd_gR (pc := 37) kf_14 (f := 10) (q := (jx_f1 18 0)) (idx := 21) (by decide +kernel) rfl wd_189 rfl) <|
  jx_all1 (sd_iload (pc := 40) (by decide +kernel)) <|
  jx_all1 (sd_iaload (pc := 42) (by decide +kernel)) <|
  jx_all1 (sd_cI (pc := 43) (idx := 70) (by decide +kernel) mf_1 (Or.inl wd_503)) <|
  jx_all1 (sd_mmin (pc := 46) (idx := 75) (by decide +kernel) wd_509 wd_360 wd_61 wd_361) <|
  jx_all1 (sd_istore_n (pc := 49) (q := 3) (by decide +kernel) rfl) <|
  jx_all1 (sd_iinc (pc := 50) (n := 1) (by decide +kernel) (by decide +kernel)) <|
  jx_all1 (sd_goto (pc := 53) (off := (-45)) (by decide +kernel) (by decide +kernel)) <|
  jx_all1 (sd_iload_n (pc := 56) (q := 3) (by decide +kernel) rfl) <|
  jx_all1 (sd_ireturn (pc := 57) (by decide +kernel) rfl) <|
  jx_all0
set_option maxRecDepth 100000 in
theorem sn_41 (D : jx_D) : jx_all (fun q => jx_Snd cX9_cut 4 RX9 (some .int) D q.1 q.2) (tb_41 D) := by
  unfold tb_41
  exact jx_all1 (sd_aload_n (pc := 0) (q := 0) (by decide +kernel) rfl) <|
  jx_all1 (sd_iload_n (pc := 1) (q := 1) (by decide +kernel) rfl) <|
  jx_all1 (sd_iload_n (pc := 2) (q := 2) (by decide +kernel) rfl) <|
  jx_all1 (sd_vI (pc := 3) (idx := 103) (kd := 0) (by decide +kernel) mf_11 wd_382 rfl rfl) <|
  jx_all1 (sd_istore_n (pc := 6) (q := 3) (by decide +kernel) rfl) <|
  jx_all1 (sd_iload_n (pc := 7) (q := 3) (by decide +kernel) rfl) <|
  jx_all1 (sd_ifeq (pc := 8) (off := 9) (by decide +kernel) (by decide +kernel)) <|
  jx_all1 (sd_aload_n (pc := 11) (q := 0) (by decide +kernel) rfl) <|
  jx_all1 (sd_iload_n (pc := 12) (q := 3) (by decide +kernel) rfl) <|
  jx_all1 (sd_vI (pc := 13) (idx := 95) (kd := 0) (by decide +kernel) mf_8 wd_370 rfl rfl) <|
  jx_all1 (sd_ireturn (pc := 16) (by decide +kernel) rfl) <|
  jx_all1 (sd_aload_n (pc := 17) (q := 0) (by decide +kernel) rfl) <|
  jx_all1 (sd_gR (pc := 18) kf_0 (f := 8) (q := (jx_f1 14 0)) (idx := 44) (by decide +kernel) rfl wd_309 rfl) <|
  jx_all1 (sd_aload_n (pc := 21) (q := 0) (by decide +kernel) rfl) <|
  jx_all1 (sd_gR (pc := 22) kf_0 (f := 0) (q := (jx_f1 1 0)) (idx := 12) (by decide +kernel) rfl wd_301 rfl) <|
  jx_all1 (sd_vV (pc := 25) (idx := 188) (kd := 14) (by decide +kernel) mf_38 wd_489 rfl rfl) <|
  jx_all1 (sd_aload_n (pc := 28) (q := 0) (by decide +kernel) rfl) <|
  jx_all1 (sd_gR (pc := 29) kf_0 (f := 8) (q := (jx_f1 14 0)) (idx := 44) (by decide +kernel) rfl wd_309 rfl) <|
  jx_all1 (sd_iload_n (pc := 32) (q := 1) (by decide +kernel) rfl) <|
  jx_all1 (sd_iload_n (pc := 33) (q := 2) (by decide +kernel) rfl) <|
  jx_all1 (sd_vI (pc := 34) (idx := 194) (kd := 14) (by decide +kernel) mf_42 wd_514 rfl rfl) <|
  jx_all1 (sd_ireturn (pc := 37) (by decide +kernel) rfl) <|
  jx_all0
set_option maxRecDepth 100000 in
theorem sn_42 (D : jx_D) : jx_all (fun q => jx_Snd cX6_smallestSide 6 RX6 (some .int) D q.1 q.2) (tb_42 D) := by
  unfold tb_42
  exact jx_all1 (sd_aload_n (pc := 0) (q := 0) (by decide +kernel) rfl) <|
  jx_all1 (sd_iload_n (pc := 1) (q := 1) (by decide +kernel) rfl) <|
  jx_all1 (sd_iload_n (pc := 2) (q := 2) (by decide +kernel) rfl) <|
  jx_all1 (sd_vI (pc := 3) (idx := 81) (kd := 14) (by decide +kernel) mf_40 wd_518 rfl rfl) <|
  jx_all1 (sd_istore_n (pc := 6) (q := 3) (by decide +kernel) rfl) <|
  jx_all1 (sd_aload_n (pc := 7) (q := 0) (by decide +kernel) rfl) <|
  jx_all1 (sd_gI (pc := 8) kf_14 (f := 3) (q := jx_f0) (idx := 44) (by decide +kernel) rfl wd_173 rfl) <|
  jx_all1 (sd_istore (pc := 11) (by decide +kernel)) <|
  jx_all1 (sd_iconst (pc := 13) (n := 1) (by decide +kernel) (by decide +kernel)) <|
  jx_all1 (sd_istore (pc := 14) (by decide +kernel)) <|
  jx_all1 (sd_iload (pc := 16) (by decide +kernel)) <|
  jx_all1 (sd_aload_n (pc := 18) (q := 0) (by decide +kernel) rfl) <|
  jx_all1 (sd_gI (pc := 19) kf_14 (f := 3) (q := jx_f0) (idx := 44) (by decide +kernel) rfl wd_173 rfl) <|
  jx_all1 (sd_icge (pc := 22) (off := 48) (by decide +kernel) (by decide +kernel)) <|
  jx_all1 (sd_iload (pc := 25) (by decide +kernel)) <|
  jx_all1 (sd_iload_n (pc := 27) (q := 1) (by decide +kernel) rfl) <|
  jx_all1 (sd_cI (pc := 28) (idx := 66) (by decide +kernel) mf_19 (Or.inr ⟨RX9, by decide +kernel⟩)) <|
  jx_all1 (sd_ifeq (pc := 31) (off := 33) (by decide +kernel) (by decide +kernel)) <|
  jx_all1 (sd_iload (pc := 34) (by decide +kernel)) <|
  jx_all1 (sd_iload_n (pc := 36) (q := 2) (by decide +kernel) rfl) <|
  jx_all1 (sd_cI (pc := 37) (idx := 66) (by decide +kernel) mf_19 (Or.inr ⟨RX9, by decide +kernel⟩)) <|
  jx_all1 (sd_ifne (pc := 40) (off := 24) (by decide +kernel) (by decide +kernel)) <|
  jx_all1 (sd_aload_n (pc := 43) (q := 0) (by decide +kernel) rfl) <|
  jx_all1 (sd_gR (pc := 44) kf_14 (f := 10) (q := (jx_f1 18 0)) (idx := 21) (by decide +kernel) rfl wd_189 rfl) <|
  jx_all1 (sd_iload (pc := 47) (by decide +kernel)) <|
  jx_all1 (sd_iaload (pc := 49) (by decide +kernel)) <|
  jx_all1 (sd_cI (pc := 50) (idx := 70) (by decide +kernel) mf_1 (Or.inl wd_503)) <|
  jx_all1 (sd_iload_n (pc := 53) (q := 3) (by decide +kernel) rfl) <|
  jx_all1 (sd_icne (pc := 54) (off := 10) (by decide +kernel) (by decide +kernel)) <|
  jx_all1 (sd_iload (pc := 57) (by decide +kernel)) <|
  jx_all1 (sd_iload (pc := 59) (by decide +kernel)) <|
  jx_all1 (sd_iand (pc := 61) (by decide +kernel)) <|
  jx_all1 (sd_istore (pc := 62) (by decide +kernel)) <|
  jx_all1 (sd_iinc (pc := 64) (n := 1) (by decide +kernel) (by decide +kernel)) <|
  jx_all1 (sd_goto (pc := 67) (off := (-51)) (by decide +kernel) (by decide +kernel)) <|
  jx_all1 (sd_iload (pc := 70) (by decide +kernel)) <|
  jx_all1 (sd_ireturn (pc := 72) (by decide +kernel) rfl) <|
  jx_all0
set_option maxRecDepth 100000 in
theorem sn_43 (D : jx_D) : jx_all (fun q => jx_Snd cX9_netHold 1 RX9 (some .int) D q.1 q.2) (tb_43 D) := by
  unfold tb_43
  exact jx_all1 (sd_aload_n (pc := 0) (q := 0) (by decide +kernel) rfl) <|
  jx_all1 (sd_gR (pc := 1) kf_0 (f := 8) (q := (jx_f1 14 0)) (idx := 44) (by decide +kernel) rfl wd_309 rfl) <|
  jx_all1 (sd_aload_n (pc := 4) (q := 0) (by decide +kernel) rfl) <|
  jx_all1 (sd_gR (pc := 5) kf_0 (f := 0) (q := (jx_f1 1 0)) (idx := 12) (by decide +kernel) rfl wd_301 rfl) <|
  jx_all1 (sd_vV (pc := 8) (idx := 188) (kd := 14) (by decide +kernel) mf_38 wd_489 rfl rfl) <|
  jx_all1 (sd_aload_n (pc := 11) (q := 0) (by decide +kernel) rfl) <|
  jx_all1 (sd_gR (pc := 12) kf_0 (f := 8) (q := (jx_f1 14 0)) (idx := 44) (by decide +kernel) rfl wd_309 rfl) <|
  jx_all1 (sd_aload_n (pc := 15) (q := 0) (by decide +kernel) rfl) <|
  jx_all1 (sd_gR (pc := 16) kf_0 (f := 8) (q := (jx_f1 14 0)) (idx := 44) (by decide +kernel) rfl wd_309 rfl) <|
  jx_all1 (sd_gI (pc := 19) kf_14 (f := 4) (q := jx_f0) (idx := 197) (by decide +kernel) rfl wd_179 rfl) <|
  jx_all1 (sd_vI (pc := 22) (idx := 200) (kd := 14) (by decide +kernel) mf_44 wd_523 rfl rfl) <|
  jx_all1 (sd_ireturn (pc := 25) (by decide +kernel) rfl) <|
  jx_all0
set_option maxRecDepth 100000 in
theorem sn_44 (D : jx_D) : jx_all (fun q => jx_Snd cX6_holdOfRoads 4 RX6 (some .int) D q.1 q.2) (tb_44 D) := by
  unfold tb_44
  exact jx_all1 (sd_aload_n (pc := 0) (q := 0) (by decide +kernel) rfl) <|
  jx_all1 (sd_gI (pc := 1) kf_14 (f := 0) (q := jx_f0) (idx := 30) (by decide +kernel) rfl wd_166 rfl) <|
  jx_all1 (sd_iconst (pc := 4) (n := 2) (by decide +kernel) (by decide +kernel)) <|
  jx_all1 (sd_icge (pc := 5) (off := 5) (by decide +kernel) (by decide +kernel)) <|
  jx_all1 (sd_iconst (pc := 8) (n := 0) (by decide +kernel) (by decide +kernel)) <|
  jx_all1 (sd_ireturn (pc := 9) (by decide +kernel) rfl) <|
  jx_all1 (sd_aload_n (pc := 10) (q := 0) (by decide +kernel) rfl) <|
  jx_all1 (sd_gI (pc := 11) kf_14 (f := 1) (q := jx_f0) (idx := 34) (by decide +kernel) rfl wd_167 rfl) <|
  jx_all1 (sd_istore_n (pc := 14) (q := 2) (by decide +kernel) rfl) <|
  jx_all1 (sd_iconst (pc := 15) (n := 1) (by decide +kernel) (by decide +kernel)) <|
  jx_all1 (sd_istore_n (pc := 16) (q := 3) (by decide +kernel) rfl) <|
  jx_all1 (sd_iload_n (pc := 17) (q := 3) (by decide +kernel) rfl) <|
  jx_all1 (sd_aload_n (pc := 18) (q := 0) (by decide +kernel) rfl) <|
  jx_all1 (sd_gI (pc := 19) kf_14 (f := 5) (q := jx_f0) (idx := 50) (by decide +kernel) rfl wd_180 rfl) <|
  jx_all1 (sd_icge (pc := 22) (off := 30) (by decide +kernel) (by decide +kernel)) <|
  jx_all1 (sd_iload_n (pc := 25) (q := 2) (by decide +kernel) rfl) <|
  jx_all1 (sd_aload_n (pc := 26) (q := 0) (by decide +kernel) rfl) <|
  jx_all1 (sd_gR (pc := 27) kf_14 (f := 10) (q := (jx_f1 18 0)) (idx := 21) (by decide +kernel) rfl wd_189 rfl) <|
  jx_all1 (sd_iload_n (pc := 30) (q := 3) (by decide +kernel) rfl) <|
  jx_all1 (sd_aload_n (pc := 31) (q := 0) (by decide +kernel) rfl) <|
  jx_all1 (sd_gI (pc := 32) kf_14 (f := 6) (q := jx_f0) (idx := 53) (by decide +kernel) rfl wd_181 rfl) <|
  jx_all1 (sd_ishl (pc := 35) (by decide +kernel)) <|
  jx_all1 (sd_iaload (pc := 36) (by decide +kernel)) <|
  jx_all1 (sd_iload_n (pc := 37) (q := 1) (by decide +kernel) rfl) <|
  jx_all1 (sd_iand (pc := 38) (by decide +kernel)) <|
  jx_all1 (sd_cI (pc := 39) (idx := 70) (by decide +kernel) mf_1 (Or.inl wd_503)) <|
  jx_all1 (sd_mmin (pc := 42) (idx := 75) (by decide +kernel) wd_509 wd_360 wd_61 wd_361) <|
  jx_all1 (sd_istore_n (pc := 45) (q := 2) (by decide +kernel) rfl) <|
  jx_all1 (sd_iinc (pc := 46) (n := 1) (by decide +kernel) (by decide +kernel)) <|
  jx_all1 (sd_goto (pc := 49) (off := (-32)) (by decide +kernel) (by decide +kernel)) <|
  jx_all1 (sd_iload_n (pc := 52) (q := 2) (by decide +kernel) rfl) <|
  jx_all1 (sd_ireturn (pc := 53) (by decide +kernel) rfl) <|
  jx_all0
set_option maxRecDepth 100000 in
theorem sn_45 (D : jx_D) : jx_all (fun q => jx_Snd cX9_least 4 RX9 (some .int) D q.1 q.2) (tb_45 D) := by
  unfold tb_45
  exact jx_all1 (sd_aload_n (pc := 0) (q := 0) (by decide +kernel) rfl) <|
  jx_all1 (sd_gR (pc := 1) kf_0 (f := 8) (q := (jx_f1 14 0)) (idx := 44) (by decide +kernel) rfl wd_309 rfl) <|
  jx_all1 (sd_aload_n (pc := 4) (q := 0) (by decide +kernel) rfl) <|
  jx_all1 (sd_gR (pc := 5) kf_0 (f := 0) (q := (jx_f1 1 0)) (idx := 12) (by decide +kernel) rfl wd_301 rfl) <|
  jx_all1 (sd_vV (pc := 8) (idx := 188) (kd := 14) (by decide +kernel) mf_38 wd_489 rfl rfl) <|
  jx_all1 (sd_aload_n (pc := 11) (q := 0) (by decide +kernel) rfl) <|
  jx_all1 (sd_gR (pc := 12) kf_0 (f := 8) (q := (jx_f1 14 0)) (idx := 44) (by decide +kernel) rfl wd_309 rfl) <|
  jx_all1 (sd_aload_n (pc := 15) (q := 0) (by decide +kernel) rfl) <|
  jx_all1 (sd_gR (pc := 16) kf_0 (f := 8) (q := (jx_f1 14 0)) (idx := 44) (by decide +kernel) rfl wd_309 rfl) <|
  jx_all1 (sd_gI (pc := 19) kf_14 (f := 4) (q := jx_f0) (idx := 197) (by decide +kernel) rfl wd_179 rfl) <|
  jx_all1 (sd_vI (pc := 22) (idx := 200) (kd := 14) (by decide +kernel) mf_44 wd_523 rfl rfl) <|
  jx_all1 (sd_istore_n (pc := 25) (q := 2) (by decide +kernel) rfl) <|
  jx_all1 (sd_iload_n (pc := 26) (q := 1) (by decide +kernel) rfl) <|
  jx_all1 (sd_iconst (pc := 27) (n := (-1)) (by decide +kernel) (by decide +kernel)) <|
  jx_all1 (sd_icne (pc := 28) (off := 12) (by decide +kernel) (by decide +kernel)) <|
  jx_all1 (sd_aload_n (pc := 31) (q := 0) (by decide +kernel) rfl) <|
  jx_all1 (sd_gR (pc := 32) kf_0 (f := 8) (q := (jx_f1 14 0)) (idx := 44) (by decide +kernel) rfl wd_309 rfl) <|
  jx_all1 (sd_iload_n (pc := 35) (q := 2) (by decide +kernel) rfl) <|
  jx_all1 (sd_vI (pc := 36) (idx := 203) (kd := 14) (by decide +kernel) mf_46 wd_531 rfl rfl) <|
  jx_all1 (sd_ireturn (pc := 39) (by decide +kernel) rfl) <|
  jx_all1 (sd_aload_n (pc := 40) (q := 0) (by decide +kernel) rfl) <|
  jx_all1 (sd_gR (pc := 41) kf_0 (f := 8) (q := (jx_f1 14 0)) (idx := 44) (by decide +kernel) rfl wd_309 rfl) <|
  jx_all1 (sd_iload_n (pc := 44) (q := 2) (by decide +kernel) rfl) <|
  jx_all1 (sd_iload_n (pc := 45) (q := 1) (by decide +kernel) rfl) <|
  jx_all1 (sd_vI (pc := 46) (idx := 206) (kd := 14) (by decide +kernel) mf_47 wd_535 rfl rfl) <|
  jx_all1 (sd_istore_n (pc := 49) (q := 3) (by decide +kernel) rfl) <|
  jx_all1 (sd_iload_n (pc := 50) (q := 3) (by decide +kernel) rfl) <|
  jx_all1 (sd_ifne (pc := 51) (off := 12) (by decide +kernel) (by decide +kernel)) <|
  jx_all1 (sd_aload_n (pc := 54) (q := 0) (by decide +kernel) rfl) <|
  jx_all1 (sd_bipush (pc := 55) (n := (-6)) (by decide +kernel) (by decide +kernel)) <|
  jx_all1 (sd_vI (pc := 57) (idx := 95) (kd := 0) (by decide +kernel) mf_8 wd_370 rfl rfl) <|
  jx_all1 (sd_goto (pc := 60) (off := 4) (by decide +kernel) (by decide +kernel)) <|
  jx_all1 (sd_iload_n (pc := 63) (q := 3) (by decide +kernel) rfl) <|
  jx_all1 (sd_ireturn (pc := 64) (by decide +kernel) rfl) <|
  jx_all0
set_option maxRecDepth 100000 in
theorem sn_46 (D : jx_D) : jx_all (fun q => jx_Snd cX6_howManyOfCut 4 RX6 (some .int) D q.1 q.2) (tb_46 D) := by
  unfold tb_46
  exact jx_all1 (sd_iconst (pc := 0) (n := 0) (by decide +kernel) (by decide +kernel)) <|
  jx_all1 (sd_istore_n (pc := 1) (q := 2) (by decide +kernel) rfl) <|
  jx_all1 (sd_iconst (pc := 2) (n := 1) (by decide +kernel) (by decide +kernel)) <|
  jx_all1 (sd_istore_n (pc := 3) (q := 3) (by decide +kernel) rfl) <|
  jx_all1 (sd_iload_n (pc := 4) (q := 3) (by decide +kernel) rfl) <|
  jx_all1 (sd_aload_n (pc := 5) (q := 0) (by decide +kernel) rfl) <|
  jx_all1 (sd_gI (pc := 6) kf_14 (f := 5) (q := jx_f0) (idx := 50) (by decide +kernel) rfl wd_180 rfl) <|
  jx_all1 (sd_icge (pc := 9) (off := 30) (by decide +kernel) (by decide +kernel)) <|
  jx_all1 (sd_aload_n (pc := 12) (q := 0) (by decide +kernel) rfl) <|
  jx_all1 (sd_gR (pc := 13) kf_14 (f := 10) (q := (jx_f1 18 0)) (idx := 21) (by decide +kernel) rfl wd_189 rfl) <|
  jx_all1 (sd_iload_n (pc := 16) (q := 3) (by decide +kernel) rfl) <|
  jx_all1 (sd_aload_n (pc := 17) (q := 0) (by decide +kernel) rfl) <|
  jx_all1 (sd_gI (pc := 18) kf_14 (f := 6) (q := jx_f0) (idx := 53) (by decide +kernel) rfl wd_181 rfl) <|
  jx_all1 (sd_ishl (pc := 21) (by decide +kernel)) <|
  jx_all1 (sd_iaload (pc := 22) (by decide +kernel)) <|
  jx_all1 (sd_cI (pc := 23) (idx := 70) (by decide +kernel) mf_1 (Or.inl wd_503)) <|
  jx_all1 (sd_iload_n (pc := 26) (q := 1) (by decide +kernel) rfl) <|
  jx_all1 (sd_icne (pc := 27) (off := 6) (by decide +kernel) (by decide +kernel)) <|
  jx_all1 (sd_iinc (pc := 30) (n := 1) (by decide +kernel) (by decide +kernel)) <|
  jx_all1 (sd_iinc (pc := 33) (n := 1) (by decide +kernel) (by decide +kernel)) <|
  jx_all1 (sd_goto (pc := 36) (off := (-32)) (by decide +kernel) (by decide +kernel)) <|
  jx_all1 (sd_iload_n (pc := 39) (q := 2) (by decide +kernel) rfl) <|
  jx_all1 (sd_ireturn (pc := 40) (by decide +kernel) rfl) <|
  jx_all0
set_option maxRecDepth 100000 in
theorem sn_47 (D : jx_D) : jx_all (fun q => jx_Snd cX6_setOfCut 6 RX6 (some .int) D q.1 q.2) (tb_47 D) := by
  unfold tb_47
  exact jx_all1 (sd_iconst (pc := 0) (n := 0) (by decide +kernel) (by decide +kernel)) <|
  jx_all1 (sd_istore_n (pc := 1) (q := 3) (by decide +kernel) rfl) <|
  jx_all1 (sd_iconst (pc := 2) (n := 1) (by decide +kernel) (by decide +kernel)) <|
  jx_all1 (sd_istore (pc := 3) (by decide +kernel)) <|
  jx_all1 (sd_iload (pc := 5) (by decide +kernel)) <|
  jx_all1 (sd_aload_n (pc := 7) (q := 0) (by decide +kernel) rfl) <|
  jx_all1 (sd_gI (pc := 8) kf_14 (f := 5) (q := jx_f0) (idx := 50) (by decide +kernel) rfl wd_180 rfl) <|
  jx_all1 (sd_icge (pc := 11) (off := 43) (by decide +kernel) (by decide +kernel)) <|
  jx_all1 (sd_iload (pc := 14) (by decide +kernel)) <|
  jx_all1 (sd_aload_n (pc := 16) (q := 0) (by decide +kernel) rfl) <|
  jx_all1 (sd_gI (pc := 17) kf_14 (f := 6) (q := jx_f0) (idx := 53) (by decide +kernel) rfl wd_181 rfl) <|
  jx_all1 (sd_ishl (pc := 20) (by decide +kernel)) <|
  jx_all1 (sd_istore (pc := 21) (by decide +kernel)) <|
  jx_all1 (sd_aload_n (pc := 23) (q := 0) (by decide +kernel) rfl) <|
  jx_all1 (sd_gR (pc := 24) kf_14 (f := 10) (q := (jx_f1 18 0)) (idx := 21) (by decide +kernel) rfl wd_189 rfl) <|
  jx_all1 (sd_iload (pc := 27) (by decide +kernel)) <|
  jx_all1 (sd_iaload (pc := 29) (by decide +kernel)) <|
  jx_all1 (sd_cI (pc := 30) (idx := 70) (by decide +kernel) mf_1 (Or.inl wd_503)) <|
  jx_all1 (sd_iload_n (pc := 33) (q := 1) (by decide +kernel) rfl) <|
  jx_all1 (sd_icne (pc := 34) (off := 14) (by decide +kernel) (by decide +kernel)) <|
  jx_all1 (sd_iload_n (pc := 37) (q := 3) (by decide +kernel) rfl) <|
  jx_all1 (sd_iload_n (pc := 38) (q := 2) (by decide +kernel) rfl) <|
  jx_all1 (sd_icne (pc := 39) (off := 6) (by decide +kernel) (by decide +kernel)) <|
  jx_all1 (sd_iload (pc := 42) (by decide +kernel)) <|
  jx_all1 (sd_ireturn (pc := 44) (by decide +kernel) rfl) <|
  jx_all1 (sd_iinc (pc := 45) (n := 1) (by decide +kernel) (by decide +kernel)) <|
  jx_all1 (sd_iinc (pc := 48) (n := 1) (by decide +kernel) (by decide +kernel)) <|
  jx_all1 (sd_goto (pc := 51) (off := (-46)) (by decide +kernel) (by decide +kernel)) <|
  jx_all1 (sd_iconst (pc := 54) (n := 0) (by decide +kernel) (by decide +kernel)) <|
  jx_all1 (sd_ireturn (pc := 55) (by decide +kernel) rfl) <|
  jx_all0
set_option maxRecDepth 100000 in
theorem sn_48 (D : jx_D) : jx_all (fun q => jx_Snd cX9_apart 4 RX9 (some .int) D q.1 q.2) (tb_48 D) := by
  unfold tb_48
  exact jx_all1 (sd_aload_n (pc := 0) (q := 0) (by decide +kernel) rfl) <|
  jx_all1 (sd_iload_n (pc := 1) (q := 1) (by decide +kernel) rfl) <|
  jx_all1 (sd_iload_n (pc := 2) (q := 2) (by decide +kernel) rfl) <|
  jx_all1 (sd_vI (pc := 3) (idx := 103) (kd := 0) (by decide +kernel) mf_11 wd_382 rfl rfl) <|
  jx_all1 (sd_istore_n (pc := 6) (q := 3) (by decide +kernel) rfl) <|
  jx_all1 (sd_iload_n (pc := 7) (q := 3) (by decide +kernel) rfl) <|
  jx_all1 (sd_ifeq (pc := 8) (off := 9) (by decide +kernel) (by decide +kernel)) <|
  jx_all1 (sd_aload_n (pc := 11) (q := 0) (by decide +kernel) rfl) <|
  jx_all1 (sd_iload_n (pc := 12) (q := 3) (by decide +kernel) rfl) <|
  jx_all1 (sd_vI (pc := 13) (idx := 95) (kd := 0) (by decide +kernel) mf_8 wd_370 rfl rfl) <|
  jx_all1 (sd_ireturn (pc := 16) (by decide +kernel) rfl) <|
  jx_all1 (sd_aload_n (pc := 17) (q := 0) (by decide +kernel) rfl) <|
  jx_all1 (sd_gR (pc := 18) kf_0 (f := 8) (q := (jx_f1 14 0)) (idx := 44) (by decide +kernel) rfl wd_309 rfl) <|
  jx_all1 (sd_aload_n (pc := 21) (q := 0) (by decide +kernel) rfl) <|
  jx_all1 (sd_gR (pc := 22) kf_0 (f := 0) (q := (jx_f1 1 0)) (idx := 12) (by decide +kernel) rfl wd_301 rfl) <|
  jx_all1 (sd_vV (pc := 25) (idx := 188) (kd := 14) (by decide +kernel) mf_38 wd_489 rfl rfl) <|
  jx_all1 (sd_aload_n (pc := 28) (q := 0) (by decide +kernel) rfl) <|
  jx_all1 (sd_gR (pc := 29) kf_0 (f := 8) (q := (jx_f1 14 0)) (idx := 44) (by decide +kernel) rfl wd_309 rfl) <|
  jx_all1 (sd_iload_n (pc := 32) (q := 1) (by decide +kernel) rfl) <|
  jx_all1 (sd_iload_n (pc := 33) (q := 2) (by decide +kernel) rfl) <|
  jx_all1 (sd_vI (pc := 34) (idx := 209) (kd := 14) (by decide +kernel) mf_49 wd_543 rfl rfl) <|
  jx_all1 (sd_ireturn (pc := 37) (by decide +kernel) rfl) <|
  jx_all0
set_option maxRecDepth 100000 in
theorem sn_49 (D : jx_D) : jx_all (fun q => jx_Snd cX6_waysApart 8 RX6 (some .int) D q.1 q.2) (tb_49 D) := by
  unfold tb_49
  exact jx_all1 (sd_iconst (pc := 0) (n := 1) (by decide +kernel) (by decide +kernel)) <|
  jx_all1 (sd_iload_n (pc := 1) (q := 1) (by decide +kernel) rfl) <|
  jx_all1 (sd_ishl (pc := 2) (by decide +kernel)) <|
  jx_all1 (sd_istore_n (pc := 3) (q := 3) (by decide +kernel) rfl) <|
  jx_all1 (sd_iconst (pc := 4) (n := 1) (by decide +kernel) (by decide +kernel)) <|
  jx_all1 (sd_iload_n (pc := 5) (q := 2) (by decide +kernel) rfl) <|
  jx_all1 (sd_ishl (pc := 6) (by decide +kernel)) <|
  jx_all1 (sd_istore (pc := 7) (by decide +kernel)) <|
  jx_all1 (sd_aload_n (pc := 9) (q := 0) (by decide +kernel) rfl) <|
  jx_all1 (sd_gI (pc := 10) kf_14 (f := 0) (q := jx_f0) (idx := 30) (by decide +kernel) rfl wd_166 rfl) <|
  jx_all1 (sd_istore (pc := 13) (by decide +kernel)) <|
  jx_all1 (sd_iconst (pc := 15) (n := 1) (by decide +kernel) (by decide +kernel)) <|
  jx_all1 (sd_istore (pc := 16) (by decide +kernel)) <|
  jx_all1 (sd_iload (pc := 18) (by decide +kernel)) <|
  jx_all1 (sd_aload_n (pc := 20) (q := 0) (by decide +kernel) rfl) <|
  jx_all1 (sd_gI (pc := 21) kf_14 (f := 3) (q := jx_f0) (idx := 44) (by decide +kernel) rfl wd_173 rfl) <|
  jx_all1 (sd_icge (pc := 24) (off := 75) (by decide +kernel) (by decide +kernel)) <|
  jx_all1 (sd_iload (pc := 27) (by decide +kernel)) <|
  jx_all1 (sd_iload_n (pc := 29) (q := 3) (by decide +kernel) rfl) <|
  jx_all1 (sd_iand (pc := 30) (by decide +kernel)) <|
  jx_all1 (sd_ifeq (pc := 31) (off := 62) (by decide +kernel) (by decide +kernel)) <|
  jx_all1 (sd_iload (pc := 34) (by decide +kernel)) <|
  jx_all1 (sd_iload (pc := 36) (by decide +kernel)) <|
  jx_all1 (sd_iand (pc := 38) (by decide +kernel)) <|
  jx_all1 (sd_ifeq (pc := 39) (off := 6) (by decide +kernel) (by decide +kernel)) <|
  jx_all1 (sd_goto (pc := 42) (off := 51) (by decide +kernel) (by decide +kernel)) <|
  jx_all1 (sd_aload_n (pc := 45) (q := 0) (by decide +kernel) rfl) <|
  jx_all1 (sd_gR (pc := 46) kf_14 (f := 9) (q := (jx_f1 17 0)) (idx := 18) (by decide +kernel) rfl wd_188 rfl) <|
  jx_all1 (sd_iload_n (pc := 49) (q := 3) (by decide +kernel) rfl) <|
  jx_all1 (sd_iaload (pc := 50) (by decide +kernel)) <|
  jx_all1 (sd_iload (pc := 51) (by decide +kernel)) <|
  jx_all1 (sd_iconst (pc := 53) (n := (-1)) (by decide +kernel) (by decide +kernel)) <|
  jx_all1 (sd_ixor (pc := 54) (by decide +kernel)) <|
  jx_all1 (sd_iand (pc := 55) (by decide +kernel)) <|
  jx_all1 (sd_aload_n (pc := 56) (q := 0) (by decide +kernel) rfl) <|
  jx_all1 (sd_gR (pc := 57) kf_14 (f := 9) (q := (jx_f1 17 0)) (idx := 18) (by decide +kernel) rfl wd_188 rfl) <|
  jx_all1 (sd_iload (pc := 60) (by decide +kernel)) <|
  jx_all1 (sd_iload_n (pc := 62) (q := 3) (by decide +kernel) rfl) <|
  jx_all1 (sd_ixor (pc := 63) (by decide +kernel)) <|
  jx_all1 (sd_iaload (pc := 64) (by decide +kernel)) <|
  jx_all1 (sd_ior (pc := 65) (by decide +kernel)) <|
  jx_all1 (sd_iload (pc := 66) (by decide +kernel)) <|
  jx_all1 (sd_iconst (pc := 68) (n := (-1)) (by decide +kernel) (by decide +kernel)) <|
  jx_all1 (sd_ixor (pc := 69) (by decide +kernel)) <|
  jx_all1 (sd_iand (pc := 70) (by decide +kernel)) <|
  jx_all1 (sd_istore (pc := 71) (by decide +kernel)) <|
  jx_all1 (sd_iload (pc := 73) (by decide +kernel)) <|
  jx_all1 (sd_iload (pc := 75) (by decide +kernel)) <|
  jx_all1 (sd_iand (pc := 77) (by decide +kernel)) <|
  jx_all1 (sd_ifne (pc := 78) (off := 15) (by decide +kernel) (by decide +kernel)) <|
  jx_all1 (sd_iload (pc := 81) (by decide +kernel)) <|
  jx_all1 (sd_iload (pc := 83) (by decide +kernel)) <|
  jx_all1 (sd_cI (pc := 85) (idx := 70) (by decide +kernel) mf_1 (Or.inl wd_503)) <|
  jx_all1 (sd_mmin (pc := 88) (idx := 75) (by decide +kernel) wd_509 wd_360 wd_61 wd_361) <|
  jx_all1 (sd_istore (pc := 91) (by decide +kernel)) <|
  jx_all1 (sd_iinc (pc := 93) (n := 1) (by decide +kernel) (by decide +kernel)) <|
  jx_all1 (sd_goto (pc := 96) (off := (-78)) (by decide +kernel) (by decide +kernel)) <|
  jx_all1 (sd_iload (pc := 99) (by decide +kernel)) <|
  jx_all1 (sd_aload_n (pc := 101) (q := 0) (by decide +kernel) rfl) <|
  jx_all1 (sd_iload_n (pc := 102) (q := 3) (by decide +kernel) rfl) <|
  jx_all1 (sd_iload (pc := 103) (by decide +kernel)) <|
  jx_all1 (sd_vI (pc := 105) (idx := 84) (kd := 14) (by decide +kernel) mf_50 wd_547 rfl rfl) <|
  jx_all1 (sd_cI (pc := 108) (idx := 70) (by decide +kernel) mf_1 (Or.inl wd_503)) <|
  jx_all1 (sd_iadd (pc := 111) (by decide +kernel)) <|
  jx_all1 (sd_ireturn (pc := 112) (by decide +kernel) rfl) <|
  jx_all0
set_option maxRecDepth 100000 in
theorem sn_50 (D : jx_D) : jx_all (fun q => jx_Snd cX6_between 4 RX6 (some .int) D q.1 q.2) (tb_50 D) := by
  unfold tb_50
  exact jx_all1 (sd_aload_n (pc := 0) (q := 0) (by decide +kernel) rfl) <|
  jx_all1 (sd_gR (pc := 1) kf_14 (f := 7) (q := (jx_f1 15 0)) (idx := 9) (by decide +kernel) rfl wd_182 rfl) <|
  jx_all1 (sd_iload_n (pc := 4) (q := 1) (by decide +kernel) rfl) <|
  jx_all1 (sd_iaload (pc := 5) (by decide +kernel)) <|
  jx_all1 (sd_aload_n (pc := 6) (q := 0) (by decide +kernel) rfl) <|
  jx_all1 (sd_gR (pc := 7) kf_14 (f := 8) (q := (jx_f1 16 0)) (idx := 15) (by decide +kernel) rfl wd_185 rfl) <|
  jx_all1 (sd_iload_n (pc := 10) (q := 2) (by decide +kernel) rfl) <|
  jx_all1 (sd_iaload (pc := 11) (by decide +kernel)) <|
  jx_all1 (sd_iand (pc := 12) (by decide +kernel)) <|
  jx_all1 (sd_istore_n (pc := 13) (q := 3) (by decide +kernel) rfl) <|
  jx_all1 (sd_aload_n (pc := 14) (q := 0) (by decide +kernel) rfl) <|
  jx_all1 (sd_gI (pc := 15) kf_14 (f := 2) (q := jx_f0) (idx := 39) (by decide +kernel) rfl wd_170 rfl) <|
  jx_all1 (sd_ifeq (pc := 18) (off := 7) (by decide +kernel) (by decide +kernel)) <|
  jx_all1 (sd_iload_n (pc := 21) (q := 3) (by decide +kernel) rfl) <|
  jx_all1 (sd_goto (pc := 22) (off := 18) (by decide +kernel) (by decide +kernel)) <|
  jx_all1 (sd_iload_n (pc := 25) (q := 3) (by decide +kernel) rfl) <|
  jx_all1 (sd_aload_n (pc := 26) (q := 0) (by decide +kernel) rfl) <|
  jx_all1 (sd_gR (pc := 27) kf_14 (f := 8) (q := (jx_f1 16 0)) (idx := 15) (by decide +kernel) rfl wd_185 rfl) <|
  jx_all1 (sd_iload_n (pc := 30) (q := 1) (by decide +kernel) rfl) <|
  jx_all1 (sd_iaload (pc := 31) (by decide +kernel)) <|
  jx_all1 (sd_aload_n (pc := 32) (q := 0) (by decide +kernel) rfl) <|
  jx_all1 (sd_gR (pc := 33) kf_14 (f := 7) (q := (jx_f1 15 0)) (idx := 9) (by decide +kernel) rfl wd_182 rfl) <|
  jx_all1 (sd_iload_n (pc := 36) (q := 2) (by decide +kernel) rfl) <|
  jx_all1 (sd_iaload (pc := 37) (by decide +kernel)) <|
  jx_all1 (sd_iand (pc := 38) (by decide +kernel)) <|
  jx_all1 (sd_ior (pc := 39) (by decide +kernel)) <|
  jx_all1 (sd_ireturn (pc := 40) (by decide +kernel) rfl) <|
  jx_all0
set_option maxRecDepth 100000 in
theorem sn_51 (D : jx_D) : jx_all (fun q => jx_Snd cX9_heap 3 RX9 (some .int) D q.1 q.2) (tb_51 D) := by
  unfold tb_51
  exact jx_all1 (sd_aload_n (pc := 0) (q := 0) (by decide +kernel) rfl) <|
  jx_all1 (sd_iload_n (pc := 1) (q := 1) (by decide +kernel) rfl) <|
  jx_all1 (sd_vI (pc := 2) (idx := 130) (kd := 0) (by decide +kernel) mf_12 wd_386 rfl rfl) <|
  jx_all1 (sd_ifne (pc := 5) (off := 8) (by decide +kernel) (by decide +kernel)) <|
  jx_all1 (sd_iload_n (pc := 8) (q := 2) (by decide +kernel) rfl) <|
  jx_all1 (sd_iconst (pc := 9) (n := 1) (by decide +kernel) (by decide +kernel)) <|
  jx_all1 (sd_icge (pc := 10) (off := 9) (by decide +kernel) (by decide +kernel)) <|
  jx_all1 (sd_aload_n (pc := 13) (q := 0) (by decide +kernel) rfl) <|
  jx_all1 (sd_iconst (pc := 14) (n := (-1)) (by decide +kernel) (by decide +kernel)) <|
  jx_all1 (sd_vI (pc := 15) (idx := 95) (kd := 0) (by decide +kernel) mf_8 wd_370 rfl rfl) <|
  jx_all1 (sd_ireturn (pc := 18) (by decide +kernel) rfl) <|
  jx_all1 (sd_aload_n (pc := 19) (q := 0) (by decide +kernel) rfl) <|
  jx_all1 (sd_gR (pc := 20) kf_0 (f := 0) (q := (jx_f1 1 0)) (idx := 12) (by decide +kernel) rfl wd_301 rfl) <|
  jx_all1 (sd_gI (pc := 23) kf_1 (f := 2) (q := jx_f0) (idx := 212) (by decide +kernel) rfl wd_88 rfl) <|
  jx_all1 (sd_ifeq (pc := 26) (off := 10) (by decide +kernel) (by decide +kernel)) <|
  jx_all1 (sd_aload_n (pc := 29) (q := 0) (by decide +kernel) rfl) <|
  jx_all1 (sd_bipush (pc := 30) (n := (-8)) (by decide +kernel) (by decide +kernel)) <|
  jx_all1 (sd_vI (pc := 32) (idx := 95) (kd := 0) (by decide +kernel) mf_8 wd_370 rfl rfl) <|
  jx_all1 (sd_ireturn (pc := 35) (by decide +kernel) rfl) <|
  jx_all1 (sd_aload_n (pc := 36) (q := 0) (by decide +kernel) rfl) <|
  jx_all1 (sd_gR (pc := 37) kf_0 (f := 8) (q := (jx_f1 14 0)) (idx := 44) (by decide +kernel) rfl wd_309 rfl) <|
  jx_all1 (sd_aload_n (pc := 40) (q := 0) (by decide +kernel) rfl) <|
  jx_all1 (sd_gR (pc := 41) kf_0 (f := 0) (q := (jx_f1 1 0)) (idx := 12) (by decide +kernel) rfl wd_301 rfl) <|
  jx_all1 (sd_vV (pc := 44) (idx := 188) (kd := 14) (by decide +kernel) mf_38 wd_489 rfl rfl) <|
  jx_all1 (sd_aload_n (pc := 47) (q := 0) (by decide +kernel) rfl) <|
  jx_all1 (sd_gR (pc := 48) kf_0 (f := 8) (q := (jx_f1 14 0)) (idx := 44) (by decide +kernel) rfl wd_309 rfl) <|
  jx_all1 (sd_iload_n (pc := 51) (q := 1) (by decide +kernel) rfl) <|
  jx_all1 (sd_iload_n (pc := 52) (q := 2) (by decide +kernel) rfl) <|
  jx_all1 (sd_vI (pc := 53) (idx := 216) (kd := 14) (by decide +kernel) mf_52 wd_555 rfl rfl) <|
  jx_all1 (sd_ireturn (pc := 56) (by decide +kernel) rfl) <|
  jx_all0
set_option maxRecDepth 100000 in
theorem sn_52 (D : jx_D) : jx_all (fun q => jx_Snd cX6_leastOfHeap 4 RX6 (some .int) D q.1 q.2) (tb_52 D) := by
  unfold tb_52
  exact jx_all1 (sd_iconst (pc := 0) (n := 0) (by decide +kernel) (by decide +kernel)) <|
  jx_all1 (sd_istore_n (pc := 1) (q := 3) (by decide +kernel) rfl) <|
  jx_all1 (sd_iload_n (pc := 2) (q := 3) (by decide +kernel) rfl) <|
  jx_all1 (sd_iload_n (pc := 3) (q := 1) (by decide +kernel) rfl) <|
  jx_all1 (sd_icge (pc := 4) (off := 21) (by decide +kernel) (by decide +kernel)) <|
  jx_all1 (sd_aload_n (pc := 7) (q := 0) (by decide +kernel) rfl) <|
  jx_all1 (sd_iload_n (pc := 8) (q := 1) (by decide +kernel) rfl) <|
  jx_all1 (sd_iload_n (pc := 9) (q := 3) (by decide +kernel) rfl) <|
  jx_all1 (sd_vI (pc := 10) (idx := 81) (kd := 14) (by decide +kernel) mf_40 wd_518 rfl rfl) <|
  jx_all1 (sd_iload_n (pc := 13) (q := 2) (by decide +kernel) rfl) <|
  jx_all1 (sd_iclt (pc := 14) (off := 5) (by decide +kernel) (by decide +kernel)) <|
  jx_all1 (sd_iload_n (pc := 17) (q := 3) (by decide +kernel) rfl) <|
  jx_all1 (sd_ireturn (pc := 18) (by decide +kernel) rfl) <|
  jx_all1 (sd_iinc (pc := 19) (n := 1) (by decide +kernel) (by decide +kernel)) <|
  jx_all1 (sd_goto (pc := 22) (off := (-20)) (by decide +kernel) (by decide +kernel)) <|
  jx_all1 (sd_iload_n (pc := 25) (q := 1) (by decide +kernel) rfl) <|
  jx_all1 (sd_ireturn (pc := 26) (by decide +kernel) rfl) <|
  jx_all0
set_option maxRecDepth 100000 in
theorem sn_53 (D : jx_D) : jx_all (fun q => jx_Snd cX9_still 5 RX9 (some .int) D q.1 q.2) (tb_53 D) := by
  unfold tb_53
  exact jx_all1 (sd_aload_n (pc := 0) (q := 0) (by decide +kernel) rfl) <|
  jx_all1 (sd_gR (pc := 1) kf_0 (f := 8) (q := (jx_f1 14 0)) (idx := 44) (by decide +kernel) rfl wd_309 rfl) <|
  jx_all1 (sd_aload_n (pc := 4) (q := 0) (by decide +kernel) rfl) <|
  jx_all1 (sd_gR (pc := 5) kf_0 (f := 0) (q := (jx_f1 1 0)) (idx := 12) (by decide +kernel) rfl wd_301 rfl) <|
  jx_all1 (sd_vV (pc := 8) (idx := 188) (kd := 14) (by decide +kernel) mf_38 wd_489 rfl rfl) <|
  jx_all1 (sd_iload_n (pc := 11) (q := 1) (by decide +kernel) rfl) <|
  jx_all1 (sd_ifeq (pc := 12) (off := 13) (by decide +kernel) (by decide +kernel)) <|
  jx_all1 (sd_aload_n (pc := 15) (q := 0) (by decide +kernel) rfl) <|
  jx_all1 (sd_gR (pc := 16) kf_0 (f := 8) (q := (jx_f1 14 0)) (idx := 44) (by decide +kernel) rfl wd_309 rfl) <|
  jx_all1 (sd_gI (pc := 19) kf_14 (f := 3) (q := jx_f0) (idx := 219) (by decide +kernel) rfl wd_176 rfl) <|
  jx_all1 (sd_goto (pc := 22) (off := 10) (by decide +kernel) (by decide +kernel)) <|
  jx_all1 (sd_aload_n (pc := 25) (q := 0) (by decide +kernel) rfl) <|
  jx_all1 (sd_gR (pc := 26) kf_0 (f := 8) (q := (jx_f1 14 0)) (idx := 44) (by decide +kernel) rfl wd_309 rfl) <|
  jx_all1 (sd_gI (pc := 29) kf_14 (f := 4) (q := jx_f0) (idx := 197) (by decide +kernel) rfl wd_179 rfl) <|
  jx_all1 (sd_istore_n (pc := 32) (q := 3) (by decide +kernel) rfl) <|
  jx_all1 (sd_iload_n (pc := 33) (q := 2) (by decide +kernel) rfl) <|
  jx_all1 (sd_iload_n (pc := 34) (q := 3) (by decide +kernel) rfl) <|
  jx_all1 (sd_iconst (pc := 35) (n := (-1)) (by decide +kernel) (by decide +kernel)) <|
  jx_all1 (sd_ixor (pc := 36) (by decide +kernel)) <|
  jx_all1 (sd_iand (pc := 37) (by decide +kernel)) <|
  jx_all1 (sd_ifeq (pc := 38) (off := 9) (by decide +kernel) (by decide +kernel)) <|
  jx_all1 (sd_aload_n (pc := 41) (q := 0) (by decide +kernel) rfl) <|
  jx_all1 (sd_iconst (pc := 42) (n := (-1)) (by decide +kernel) (by decide +kernel)) <|
  jx_all1 (sd_vI (pc := 43) (idx := 95) (kd := 0) (by decide +kernel) mf_8 wd_370 rfl rfl) <|
  jx_all1 (sd_ireturn (pc := 46) (by decide +kernel) rfl) <|
  jx_all1 (sd_iload_n (pc := 47) (q := 1) (by decide +kernel) rfl) <|
  jx_all1 (sd_ifeq (pc := 48) (off := 18) (by decide +kernel) (by decide +kernel)) <|
  jx_all1 (sd_aload_n (pc := 51) (q := 0) (by decide +kernel) rfl) <|
  jx_all1 (sd_gR (pc := 52) kf_0 (f := 8) (q := (jx_f1 14 0)) (idx := 44) (by decide +kernel) rfl wd_309 rfl) <|
  jx_all1 (sd_iload_n (pc := 55) (q := 3) (by decide +kernel) rfl) <|
  jx_all1 (sd_iload_n (pc := 56) (q := 2) (by decide +kernel) rfl) <|
  jx_all1 (sd_iconst (pc := 57) (n := (-1)) (by decide +kernel) (by decide +kernel)) <|
  jx_all1 (sd_ixor (pc := 58) (by decide +kernel)) <|
  jx_all1 (sd_iand (pc := 59) (by decide +kernel)) <|
  jx_all1 (sd_vI (pc := 60) (idx := 222) (kd := 14) (by decide +kernel) mf_54 wd_563 rfl rfl) <|
  jx_all1 (sd_goto (pc := 63) (off := 15) (by decide +kernel) (by decide +kernel)) <|
  jx_all1 (sd_aload_n (pc := 66) (q := 0) (by decide +kernel) rfl) <|
  jx_all1 (sd_gR (pc := 67) kf_0 (f := 8) (q := (jx_f1 14 0)) (idx := 44) (by decide +kernel) rfl wd_309 rfl) <|
  jx_all1 (sd_iload_n (pc := 70) (q := 3) (by decide +kernel) rfl) <|
  jx_all1 (sd_iload_n (pc := 71) (q := 2) (by decide +kernel) rfl) <|
  jx_all1 (sd_iconst (pc := 72) (n := (-1)) (by decide +kernel) (by decide +kernel)) <|
  jx_all1 (sd_ixor (pc := 73) (by decide +kernel)) <|
  jx_all1 (sd_iand (pc := 74) (by decide +kernel)) <|
  jx_all1 (sd_vI (pc := 75) (idx := 225) (kd := 14) (by decide +kernel) mf_55 wd_567 rfl rfl) <|
  jx_all1 (sd_istore (pc := 78) (by decide +kernel)) <|
  jx_all1 (sd_iload (pc := 80) (by decide +kernel)) <|
  jx_all1 (sd_ifeq (pc := 82) (off := 7) (by decide +kernel) (by decide +kernel)) <|
  jx_all1 (sd_iconst (pc := 85) (n := 1) (by decide +kernel) (by decide +kernel)) <|
  jx_all1 (sd_goto (pc := 86) (off := 4) (by decide +kernel) (by decide +kernel)) <|
  jx_all1 (sd_iconst (pc := 89) (n := 0) (by decide +kernel) (by decide +kernel)) <|
  jx_all1 (sd_ireturn (pc := 90) (by decide +kernel) rfl) <|
  jx_all0
set_option maxRecDepth 100000 in
theorem sn_54 (D : jx_D) : jx_all (fun q => jx_Snd cX6_hangsAmong 3 RX6 (some .boolean) D q.1 q.2) (tb_54 D) := by
  unfold tb_54
  exact jx_all1 (sd_iload_n (pc := 0) (q := 1) (by decide +kernel) rfl) <|
  jx_all1 (sd_iconst (pc := 1) (n := 1) (by decide +kernel) (by decide +kernel)) <|
  jx_all1 (sd_isub (pc := 2) (by decide +kernel)) <|
  jx_all1 (sd_iload_n (pc := 3) (q := 1) (by decide +kernel) rfl) <|
  jx_all1 (sd_iand (pc := 4) (by decide +kernel)) <|
  jx_all1 (sd_istore_n (pc := 5) (q := 2) (by decide +kernel) rfl) <|
  jx_all1 (sd_iload_n (pc := 6) (q := 2) (by decide +kernel) rfl) <|
  jx_all1 (sd_ifle (pc := 7) (off := 27) (by decide +kernel) (by decide +kernel)) <|
  jx_all1 (sd_aload_n (pc := 10) (q := 0) (by decide +kernel) rfl) <|
  jx_all1 (sd_iload_n (pc := 11) (q := 2) (by decide +kernel) rfl) <|
  jx_all1 (sd_iload_n (pc := 12) (q := 1) (by decide +kernel) rfl) <|
  jx_all1 (sd_iload_n (pc := 13) (q := 2) (by decide +kernel) rfl) <|
  jx_all1 (sd_iconst (pc := 14) (n := (-1)) (by decide +kernel) (by decide +kernel)) <|
  jx_all1 (sd_ixor (pc := 15) (by decide +kernel)) <|
  jx_all1 (sd_iand (pc := 16) (by decide +kernel)) <|
  jx_all1 (sd_vI (pc := 17) (idx := 84) (kd := 14) (by decide +kernel) mf_50 wd_547 rfl rfl) <|
  jx_all1 (sd_ifne (pc := 20) (off := 5) (by decide +kernel) (by decide +kernel)) <|
  jx_all1 (sd_iconst (pc := 23) (n := 0) (by decide +kernel) (by decide +kernel)) <|
  jx_all1 (sd_zreturn (pc := 24) (by decide +kernel) rfl) <|
  jx_all1 (sd_iload_n (pc := 25) (q := 2) (by decide +kernel) rfl) <|
  jx_all1 (sd_iconst (pc := 26) (n := 1) (by decide +kernel) (by decide +kernel)) <|
  jx_all1 (sd_isub (pc := 27) (by decide +kernel)) <|
  jx_all1 (sd_iload_n (pc := 28) (q := 1) (by decide +kernel) rfl) <|
  jx_all1 (sd_iand (pc := 29) (by decide +kernel)) <|
  jx_all1 (sd_istore_n (pc := 30) (q := 2) (by decide +kernel) rfl) <|
  jx_all1 (sd_goto (pc := 31) (off := (-25)) (by decide +kernel) (by decide +kernel)) <|
  jx_all1 (sd_iconst (pc := 34) (n := 1) (by decide +kernel) (by decide +kernel)) <|
  jx_all1 (sd_zreturn (pc := 35) (by decide +kernel) rfl) <|
  jx_all0
set_option maxRecDepth 100000 in
theorem sn_55 (D : jx_D) : jx_all (fun q => jx_Snd cX6_hangsBy 3 RX6 (some .boolean) D q.1 q.2) (tb_55 D) := by
  unfold tb_55
  exact jx_all1 (sd_iconst (pc := 0) (n := 1) (by decide +kernel) (by decide +kernel)) <|
  jx_all1 (sd_istore_n (pc := 1) (q := 2) (by decide +kernel) rfl) <|
  jx_all1 (sd_iload_n (pc := 2) (q := 2) (by decide +kernel) rfl) <|
  jx_all1 (sd_aload_n (pc := 3) (q := 0) (by decide +kernel) rfl) <|
  jx_all1 (sd_gI (pc := 4) kf_14 (f := 5) (q := jx_f0) (idx := 50) (by decide +kernel) rfl wd_180 rfl) <|
  jx_all1 (sd_icge (pc := 7) (off := 27) (by decide +kernel) (by decide +kernel)) <|
  jx_all1 (sd_aload_n (pc := 10) (q := 0) (by decide +kernel) rfl) <|
  jx_all1 (sd_gR (pc := 11) kf_14 (f := 10) (q := (jx_f1 18 0)) (idx := 21) (by decide +kernel) rfl wd_189 rfl) <|
  jx_all1 (sd_iload_n (pc := 14) (q := 2) (by decide +kernel) rfl) <|
  jx_all1 (sd_aload_n (pc := 15) (q := 0) (by decide +kernel) rfl) <|
  jx_all1 (sd_gI (pc := 16) kf_14 (f := 6) (q := jx_f0) (idx := 53) (by decide +kernel) rfl wd_181 rfl) <|
  jx_all1 (sd_ishl (pc := 19) (by decide +kernel)) <|
  jx_all1 (sd_iaload (pc := 20) (by decide +kernel)) <|
  jx_all1 (sd_iload_n (pc := 21) (q := 1) (by decide +kernel) rfl) <|
  jx_all1 (sd_iand (pc := 22) (by decide +kernel)) <|
  jx_all1 (sd_ifne (pc := 23) (off := 5) (by decide +kernel) (by decide +kernel)) <|
  jx_all1 (sd_iconst (pc := 26) (n := 0) (by decide +kernel) (by decide +kernel)) <|
  jx_all1 (sd_zreturn (pc := 27) (by decide +kernel) rfl) <|
  jx_all1 (sd_iinc (pc := 28) (n := 1) (by decide +kernel) (by decide +kernel)) <|
  jx_all1 (sd_goto (pc := 31) (off := (-29)) (by decide +kernel) (by decide +kernel)) <|
  jx_all1 (sd_aload_n (pc := 34) (q := 0) (by decide +kernel) rfl) <|
  jx_all1 (sd_gI (pc := 35) kf_14 (f := 0) (q := jx_f0) (idx := 30) (by decide +kernel) rfl wd_166 rfl) <|
  jx_all1 (sd_ifle (pc := 38) (off := 7) (by decide +kernel) (by decide +kernel)) <|
  jx_all1 (sd_iconst (pc := 41) (n := 1) (by decide +kernel) (by decide +kernel)) <|
  jx_all1 (sd_goto (pc := 42) (off := 4) (by decide +kernel) (by decide +kernel)) <|
  jx_all1 (sd_iconst (pc := 45) (n := 0) (by decide +kernel) (by decide +kernel)) <|
  jx_all1 (sd_zreturn (pc := 46) (by decide +kernel) rfl) <|
  jx_all0
set_option maxRecDepth 100000 in
theorem sn_56 (D : jx_D) : jx_all (fun q => jx_Snd cX9_bridges 1 RX9 (some .int) D q.1 q.2) (tb_56 D) := by
  unfold tb_56
  exact jx_all1 (sd_aload_n (pc := 0) (q := 0) (by decide +kernel) rfl) <|
  jx_all1 (sd_gR (pc := 1) kf_0 (f := 0) (q := (jx_f1 1 0)) (idx := 12) (by decide +kernel) rfl wd_301 rfl) <|
  jx_all1 (sd_gI (pc := 4) kf_1 (f := 2) (q := jx_f0) (idx := 212) (by decide +kernel) rfl wd_88 rfl) <|
  jx_all1 (sd_ifeq (pc := 7) (off := 10) (by decide +kernel) (by decide +kernel)) <|
  jx_all1 (sd_aload_n (pc := 10) (q := 0) (by decide +kernel) rfl) <|
  jx_all1 (sd_bipush (pc := 11) (n := (-8)) (by decide +kernel) (by decide +kernel)) <|
  jx_all1 (sd_vI (pc := 13) (idx := 95) (kd := 0) (by decide +kernel) mf_8 wd_370 rfl rfl) <|
  jx_all1 (sd_ireturn (pc := 16) (by decide +kernel) rfl) <|
  jx_all1 (sd_aload_n (pc := 17) (q := 0) (by decide +kernel) rfl) <|
  jx_all1 (sd_gR (pc := 18) kf_0 (f := 8) (q := (jx_f1 14 0)) (idx := 44) (by decide +kernel) rfl wd_309 rfl) <|
  jx_all1 (sd_aload_n (pc := 21) (q := 0) (by decide +kernel) rfl) <|
  jx_all1 (sd_gR (pc := 22) kf_0 (f := 0) (q := (jx_f1 1 0)) (idx := 12) (by decide +kernel) rfl wd_301 rfl) <|
  jx_all1 (sd_vV (pc := 25) (idx := 188) (kd := 14) (by decide +kernel) mf_38 wd_489 rfl rfl) <|
  jx_all1 (sd_aload_n (pc := 28) (q := 0) (by decide +kernel) rfl) <|
  jx_all1 (sd_gR (pc := 29) kf_0 (f := 8) (q := (jx_f1 14 0)) (idx := 44) (by decide +kernel) rfl wd_309 rfl) <|
  jx_all1 (sd_vI (pc := 32) (idx := 228) (kd := 14) (by decide +kernel) mf_57 wd_575 rfl rfl) <|
  jx_all1 (sd_ireturn (pc := 35) (by decide +kernel) rfl) <|
  jx_all0
set_option maxRecDepth 100000 in
theorem sn_57 (D : jx_D) : jx_all (fun q => jx_Snd cX6_loneRoads 3 RX6 (some .int) D q.1 q.2) (tb_57 D) := by
  unfold tb_57
  exact jx_all1 (sd_iconst (pc := 0) (n := 0) (by decide +kernel) (by decide +kernel)) <|
  jx_all1 (sd_istore_n (pc := 1) (q := 1) (by decide +kernel) rfl) <|
  jx_all1 (sd_iconst (pc := 2) (n := 1) (by decide +kernel) (by decide +kernel)) <|
  jx_all1 (sd_istore_n (pc := 3) (q := 2) (by decide +kernel) rfl) <|
  jx_all1 (sd_iload_n (pc := 4) (q := 2) (by decide +kernel) rfl) <|
  jx_all1 (sd_aload_n (pc := 5) (q := 0) (by decide +kernel) rfl) <|
  jx_all1 (sd_gI (pc := 6) kf_14 (f := 5) (q := jx_f0) (idx := 50) (by decide +kernel) rfl wd_180 rfl) <|
  jx_all1 (sd_icge (pc := 9) (off := 41) (by decide +kernel) (by decide +kernel)) <|
  jx_all1 (sd_aload_n (pc := 12) (q := 0) (by decide +kernel) rfl) <|
  jx_all1 (sd_gR (pc := 13) kf_14 (f := 10) (q := (jx_f1 18 0)) (idx := 21) (by decide +kernel) rfl wd_189 rfl) <|
  jx_all1 (sd_iload_n (pc := 16) (q := 2) (by decide +kernel) rfl) <|
  jx_all1 (sd_aload_n (pc := 17) (q := 0) (by decide +kernel) rfl) <|
  jx_all1 (sd_gI (pc := 18) kf_14 (f := 6) (q := jx_f0) (idx := 53) (by decide +kernel) rfl wd_181 rfl) <|
  jx_all1 (sd_ishl (pc := 21) (by decide +kernel)) <|
  jx_all1 (sd_iaload (pc := 22) (by decide +kernel)) <|
  jx_all1 (sd_cI (pc := 23) (idx := 70) (by decide +kernel) mf_1 (Or.inl wd_503)) <|
  jx_all1 (sd_iconst (pc := 26) (n := 1) (by decide +kernel) (by decide +kernel)) <|
  jx_all1 (sd_icne (pc := 27) (off := 17) (by decide +kernel) (by decide +kernel)) <|
  jx_all1 (sd_iload_n (pc := 30) (q := 1) (by decide +kernel) rfl) <|
  jx_all1 (sd_aload_n (pc := 31) (q := 0) (by decide +kernel) rfl) <|
  jx_all1 (sd_gR (pc := 32) kf_14 (f := 10) (q := (jx_f1 18 0)) (idx := 21) (by decide +kernel) rfl wd_189 rfl) <|
  jx_all1 (sd_iload_n (pc := 35) (q := 2) (by decide +kernel) rfl) <|
  jx_all1 (sd_aload_n (pc := 36) (q := 0) (by decide +kernel) rfl) <|
  jx_all1 (sd_gI (pc := 37) kf_14 (f := 6) (q := jx_f0) (idx := 53) (by decide +kernel) rfl wd_181 rfl) <|
  jx_all1 (sd_ishl (pc := 40) (by decide +kernel)) <|
  jx_all1 (sd_iaload (pc := 41) (by decide +kernel)) <|
  jx_all1 (sd_ior (pc := 42) (by decide +kernel)) <|
  jx_all1 (sd_istore_n (pc := 43) (q := 1) (by decide +kernel) rfl) <|
  jx_all1 (sd_iinc (pc := 44) (n := 1) (by decide +kernel) (by decide +kernel)) <|
  jx_all1 (sd_goto (pc := 47) (off := (-43)) (by decide +kernel) (by decide +kernel)) <|
  jx_all1 (sd_iload_n (pc := 50) (q := 1) (by decide +kernel) rfl) <|
  jx_all1 (sd_ireturn (pc := 51) (by decide +kernel) rfl) <|
  jx_all0
set_option maxRecDepth 100000 in
theorem sn_58 (D : jx_D) : jx_all (fun q => jx_Snd cX9_joints 1 RX9 (some .int) D q.1 q.2) (tb_58 D) := by
  unfold tb_58
  exact jx_all1 (sd_aload_n (pc := 0) (q := 0) (by decide +kernel) rfl) <|
  jx_all1 (sd_gR (pc := 1) kf_0 (f := 0) (q := (jx_f1 1 0)) (idx := 12) (by decide +kernel) rfl wd_301 rfl) <|
  jx_all1 (sd_gI (pc := 4) kf_1 (f := 2) (q := jx_f0) (idx := 212) (by decide +kernel) rfl wd_88 rfl) <|
  jx_all1 (sd_ifeq (pc := 7) (off := 10) (by decide +kernel) (by decide +kernel)) <|
  jx_all1 (sd_aload_n (pc := 10) (q := 0) (by decide +kernel) rfl) <|
  jx_all1 (sd_bipush (pc := 11) (n := (-8)) (by decide +kernel) (by decide +kernel)) <|
  jx_all1 (sd_vI (pc := 13) (idx := 95) (kd := 0) (by decide +kernel) mf_8 wd_370 rfl rfl) <|
  jx_all1 (sd_ireturn (pc := 16) (by decide +kernel) rfl) <|
  jx_all1 (sd_aload_n (pc := 17) (q := 0) (by decide +kernel) rfl) <|
  jx_all1 (sd_gR (pc := 18) kf_0 (f := 8) (q := (jx_f1 14 0)) (idx := 44) (by decide +kernel) rfl wd_309 rfl) <|
  jx_all1 (sd_aload_n (pc := 21) (q := 0) (by decide +kernel) rfl) <|
  jx_all1 (sd_gR (pc := 22) kf_0 (f := 0) (q := (jx_f1 1 0)) (idx := 12) (by decide +kernel) rfl wd_301 rfl) <|
  jx_all1 (sd_vV (pc := 25) (idx := 188) (kd := 14) (by decide +kernel) mf_38 wd_489 rfl rfl) <|
  jx_all1 (sd_aload_n (pc := 28) (q := 0) (by decide +kernel) rfl) <|
  jx_all1 (sd_gR (pc := 29) kf_0 (f := 8) (q := (jx_f1 14 0)) (idx := 44) (by decide +kernel) rfl wd_309 rfl) <|
  jx_all1 (sd_vI (pc := 32) (idx := 231) (kd := 14) (by decide +kernel) mf_59 wd_583 rfl rfl) <|
  jx_all1 (sd_ireturn (pc := 35) (by decide +kernel) rfl) <|
  jx_all0
set_option maxRecDepth 100000 in
theorem sn_59 (D : jx_D) : jx_all (fun q => jx_Snd cX6_partingPosts 5 RX6 (some .int) D q.1 q.2) (tb_59 D) := by
  unfold tb_59
  exact jx_all1 (sd_iconst (pc := 0) (n := 0) (by decide +kernel) (by decide +kernel)) <|
  jx_all1 (sd_istore_n (pc := 1) (q := 1) (by decide +kernel) rfl) <|
  jx_all1 (sd_iconst (pc := 2) (n := 0) (by decide +kernel) (by decide +kernel)) <|
  jx_all1 (sd_istore_n (pc := 3) (q := 2) (by decide +kernel) rfl) <|
  jx_all1 (sd_iload_n (pc := 4) (q := 2) (by decide +kernel) rfl) <|
  jx_all1 (sd_aload_n (pc := 5) (q := 0) (by decide +kernel) rfl) <|
  jx_all1 (sd_gI (pc := 6) kf_14 (f := 0) (q := jx_f0) (idx := 30) (by decide +kernel) rfl wd_166 rfl) <|
  jx_all1 (sd_icge (pc := 9) (off := 57) (by decide +kernel) (by decide +kernel)) <|
  jx_all1 (sd_aload_n (pc := 12) (q := 0) (by decide +kernel) rfl) <|
  jx_all1 (sd_gI (pc := 13) kf_14 (f := 3) (q := jx_f0) (idx := 44) (by decide +kernel) rfl wd_173 rfl) <|
  jx_all1 (sd_iconst (pc := 16) (n := 1) (by decide +kernel) (by decide +kernel)) <|
  jx_all1 (sd_iload_n (pc := 17) (q := 2) (by decide +kernel) rfl) <|
  jx_all1 (sd_ishl (pc := 18) (by decide +kernel)) <|
  jx_all1 (sd_iconst (pc := 19) (n := (-1)) (by decide +kernel) (by decide +kernel)) <|
  jx_all1 (sd_ixor (pc := 20) (by decide +kernel)) <|
  jx_all1 (sd_iand (pc := 21) (by decide +kernel)) <|
  jx_all1 (sd_istore_n (pc := 22) (q := 3) (by decide +kernel) rfl) <|
  jx_all1 (sd_aload_n (pc := 23) (q := 0) (by decide +kernel) rfl) <|
  jx_all1 (sd_iconst (pc := 24) (n := 1) (by decide +kernel) (by decide +kernel)) <|
  jx_all1 (sd_iload_n (pc := 25) (q := 2) (by decide +kernel) rfl) <|
  jx_all1 (sd_ishl (pc := 26) (by decide +kernel)) <|
  jx_all1 (sd_aload_n (pc := 27) (q := 0) (by decide +kernel) rfl) <|
  jx_all1 (sd_gI (pc := 28) kf_14 (f := 3) (q := jx_f0) (idx := 44) (by decide +kernel) rfl wd_173 rfl) <|
  jx_all1 (sd_vI (pc := 31) (idx := 87) (kd := 14) (by decide +kernel) mf_60 wd_587 rfl rfl) <|
  jx_all1 (sd_iload_n (pc := 34) (q := 3) (by decide +kernel) rfl) <|
  jx_all1 (sd_iand (pc := 35) (by decide +kernel)) <|
  jx_all1 (sd_istore (pc := 36) (by decide +kernel)) <|
  jx_all1 (sd_aload_n (pc := 38) (q := 0) (by decide +kernel) rfl) <|
  jx_all1 (sd_iload (pc := 39) (by decide +kernel)) <|
  jx_all1 (sd_iload (pc := 41) (by decide +kernel)) <|
  jx_all1 (sd_ineg (pc := 43) (by decide +kernel)) <|
  jx_all1 (sd_iand (pc := 44) (by decide +kernel)) <|
  jx_all1 (sd_iload_n (pc := 45) (q := 3) (by decide +kernel) rfl) <|
  jx_all1 (sd_vI (pc := 46) (idx := 87) (kd := 14) (by decide +kernel) mf_60 wd_587 rfl rfl) <|
  jx_all1 (sd_iload (pc := 49) (by decide +kernel)) <|
  jx_all1 (sd_iceq (pc := 51) (off := 9) (by decide +kernel) (by decide +kernel)) <|
  jx_all1 (sd_iload_n (pc := 54) (q := 1) (by decide +kernel) rfl) <|
  jx_all1 (sd_iconst (pc := 55) (n := 1) (by decide +kernel) (by decide +kernel)) <|
  jx_all1 (sd_iload_n (pc := 56) (q := 2) (by decide +kernel) rfl) <|
  jx_all1 (sd_ishl (pc := 57) (by decide +kernel)) <|
  jx_all1 (sd_ior (pc := 58) (by decide +kernel)) <|
  jx_all1 (sd_istore_n (pc := 59) (q := 1) (by decide +kernel) rfl) <|
  jx_all1 (sd_iinc (pc := 60) (n := 1) (by decide +kernel) (by decide +kernel)) <|
  jx_all1 (sd_goto (pc := 63) (off := (-59)) (by decide +kernel) (by decide +kernel)) <|
  jx_all1 (sd_iload_n (pc := 66) (q := 1) (by decide +kernel) rfl) <|
  jx_all1 (sd_ireturn (pc := 67) (by decide +kernel) rfl) <|
  jx_all0
set_option maxRecDepth 100000 in
theorem sn_60 (D : jx_D) : jx_all (fun q => jx_Snd cX6_reach 5 RX6 (some .int) D q.1 q.2) (tb_60 D) := by
  unfold tb_60
  exact jx_all1 (sd_iload_n (pc := 0) (q := 1) (by decide +kernel) rfl) <|
  jx_all1 (sd_iload_n (pc := 1) (q := 2) (by decide +kernel) rfl) <|
  jx_all1 (sd_iand (pc := 2) (by decide +kernel)) <|
  jx_all1 (sd_istore_n (pc := 3) (q := 3) (by decide +kernel) rfl) <|
  jx_all1 (sd_iconst (pc := 4) (n := 0) (by decide +kernel) (by decide +kernel)) <|
  jx_all1 (sd_istore (pc := 5) (by decide +kernel)) <|
  jx_all1 (sd_iload (pc := 7) (by decide +kernel)) <|
  jx_all1 (sd_aload_n (pc := 9) (q := 0) (by decide +kernel) rfl) <|
  jx_all1 (sd_gI (pc := 10) kf_14 (f := 0) (q := jx_f0) (idx := 30) (by decide +kernel) rfl wd_166 rfl) <|
  jx_all1 (sd_icge (pc := 13) (off := 20) (by decide +kernel) (by decide +kernel)) <|
  jx_all1 (sd_iload_n (pc := 16) (q := 3) (by decide +kernel) rfl) <|
  jx_all1 (sd_aload_n (pc := 17) (q := 0) (by decide +kernel) rfl) <|
  jx_all1 (sd_gR (pc := 18) kf_14 (f := 9) (q := (jx_f1 17 0)) (idx := 18) (by decide +kernel) rfl wd_188 rfl) <|
  jx_all1 (sd_iload_n (pc := 21) (q := 3) (by decide +kernel) rfl) <|
  jx_all1 (sd_iaload (pc := 22) (by decide +kernel)) <|
  jx_all1 (sd_iload_n (pc := 23) (q := 2) (by decide +kernel) rfl) <|
  jx_all1 (sd_iand (pc := 24) (by decide +kernel)) <|
  jx_all1 (sd_ior (pc := 25) (by decide +kernel)) <|
  jx_all1 (sd_istore_n (pc := 26) (q := 3) (by decide +kernel) rfl) <|
  jx_all1 (sd_iinc (pc := 27) (n := 1) (by decide +kernel) (by decide +kernel)) <|
  jx_all1 (sd_goto (pc := 30) (off := (-23)) (by decide +kernel) (by decide +kernel)) <|
  jx_all1 (sd_iload_n (pc := 33) (q := 3) (by decide +kernel) rfl) <|
  jx_all1 (sd_ireturn (pc := 34) (by decide +kernel) rfl) <|
  jx_all0
set_option maxRecDepth 100000 in
theorem sn_61 (D : jx_D) : jx_all (fun q => jx_Snd cX9_block 2 RX9 (some .int) D q.1 q.2) (tb_61 D) := by
  unfold tb_61
  exact jx_all1 (sd_aload_n (pc := 0) (q := 0) (by decide +kernel) rfl) <|
  jx_all1 (sd_iload_n (pc := 1) (q := 1) (by decide +kernel) rfl) <|
  jx_all1 (sd_vI (pc := 2) (idx := 113) (kd := 0) (by decide +kernel) mf_15 wd_398 rfl rfl) <|
  jx_all1 (sd_ifeq (pc := 5) (off := 9) (by decide +kernel) (by decide +kernel)) <|
  jx_all1 (sd_aload_n (pc := 8) (q := 0) (by decide +kernel) rfl) <|
  jx_all1 (sd_iconst (pc := 9) (n := (-1)) (by decide +kernel) (by decide +kernel)) <|
  jx_all1 (sd_vI (pc := 10) (idx := 95) (kd := 0) (by decide +kernel) mf_8 wd_370 rfl rfl) <|
  jx_all1 (sd_ireturn (pc := 13) (by decide +kernel) rfl) <|
  jx_all1 (sd_aload_n (pc := 14) (q := 0) (by decide +kernel) rfl) <|
  jx_all1 (sd_gR (pc := 15) kf_0 (f := 0) (q := (jx_f1 1 0)) (idx := 12) (by decide +kernel) rfl wd_301 rfl) <|
  jx_all1 (sd_gI (pc := 18) kf_1 (f := 2) (q := jx_f0) (idx := 212) (by decide +kernel) rfl wd_88 rfl) <|
  jx_all1 (sd_ifeq (pc := 21) (off := 10) (by decide +kernel) (by decide +kernel)) <|
  jx_all1 (sd_aload_n (pc := 24) (q := 0) (by decide +kernel) rfl) <|
  jx_all1 (sd_bipush (pc := 25) (n := (-8)) (by decide +kernel) (by decide +kernel)) <|
  jx_all1 (sd_vI (pc := 27) (idx := 95) (kd := 0) (by decide +kernel) mf_8 wd_370 rfl rfl) <|
  jx_all1 (sd_ireturn (pc := 30) (by decide +kernel) rfl) <|
  jx_all1 (sd_aload_n (pc := 31) (q := 0) (by decide +kernel) rfl) <|
  jx_all1 (sd_gR (pc := 32) kf_0 (f := 8) (q := (jx_f1 14 0)) (idx := 44) (by decide +kernel) rfl wd_309 rfl) <|
  jx_all1 (sd_aload_n (pc := 35) (q := 0) (by decide +kernel) rfl) <|
  jx_all1 (sd_gR (pc := 36) kf_0 (f := 0) (q := (jx_f1 1 0)) (idx := 12) (by decide +kernel) rfl wd_301 rfl) <|
  jx_all1 (sd_vV (pc := 39) (idx := 188) (kd := 14) (by decide +kernel) mf_38 wd_489 rfl rfl) <|
  jx_all1 (sd_aload_n (pc := 42) (q := 0) (by decide +kernel) rfl) <|
  jx_all1 (sd_gR (pc := 43) kf_0 (f := 8) (q := (jx_f1 14 0)) (idx := 44) (by decide +kernel) rfl wd_309 rfl) <|
  jx_all1 (sd_iload_n (pc := 46) (q := 1) (by decide +kernel) rfl) <|
  jx_all1 (sd_aload_n (pc := 47) (q := 0) (by decide +kernel) rfl) <|
  jx_all1 (sd_gR (pc := 48) kf_0 (f := 0) (q := (jx_f1 1 0)) (idx := 12) (by decide +kernel) rfl wd_301 rfl) <|
  jx_all1 (sd_vI (pc := 51) (idx := 234) (kd := 14) (by decide +kernel) mf_62 wd_595 rfl rfl) <|
  jx_all1 (sd_cI (pc := 54) (idx := 238) (by decide +kernel) mf_63 (Or.inl wd_607)) <|
  jx_all1 (sd_ireturn (pc := 57) (by decide +kernel) rfl) <|
  jx_all0
set_option maxRecDepth 100000 in
theorem sn_62 (D : jx_D) : jx_all (fun q => jx_Snd cX6_blockOf 10 RX6 (some .int) D q.1 q.2) (tb_62 D) := by
  unfold tb_62
  exact jx_all1 (sd_iconst (pc := 0) (n := 1) (by decide +kernel) (by decide +kernel)) <|
  jx_all1 (sd_iload_n (pc := 1) (q := 1) (by decide +kernel) rfl) <|
  jx_all1 (sd_ishl (pc := 2) (by decide +kernel)) <|
  jx_all1 (sd_istore_n (pc := 3) (q := 3) (by decide +kernel) rfl) <|
  jx_all1 (sd_iload_n (pc := 4) (q := 3) (by decide +kernel) rfl) <|
  jx_all1 (sd_istore (pc := 5) (by decide +kernel)) <|
  jx_all1 (sd_iconst (pc := 7) (n := 0) (by decide +kernel) (by decide +kernel)) <|
  jx_all1 (sd_istore (pc := 8) (by decide +kernel)) <|
  jx_all1 (sd_iload (pc := 10) (by decide +kernel)) <|
  jx_all1 (sd_aload_n (pc := 12) (q := 0) (by decide +kernel) rfl) <|
  jx_all1 (sd_gI (pc := 13) kf_14 (f := 1) (q := jx_f0) (idx := 34) (by decide +kernel) rfl wd_167 rfl) <|
  jx_all1 (sd_icge (pc := 16) (off := 85) (by decide +kernel) (by decide +kernel)) <|
  jx_all1 (sd_iload (pc := 19) (by decide +kernel)) <|
  jx_all1 (sd_ifeq (pc := 21) (off := 80) (by decide +kernel) (by decide +kernel)) <|
  jx_all1 (sd_iload (pc := 24) (by decide +kernel)) <|
  jx_all1 (sd_cI (pc := 26) (idx := 90) (by decide +kernel) mf_63 (Or.inr ⟨RX9, by decide +kernel⟩)) <|
  jx_all1 (sd_istore (pc := 29) (by decide +kernel)) <|
  jx_all1 (sd_iconst (pc := 31) (n := 1) (by decide +kernel) (by decide +kernel)) <|
  jx_all1 (sd_aload_n (pc := 32) (q := 2) (by decide +kernel) rfl) <|
  jx_all1 (sd_gR (pc := 33) kf_1 (f := 3) (q := (jx_fi 2)) (idx := 60) (by decide +kernel) rfl wd_91 rfl) <|
  jx_all1 (sd_iload (pc := 36) (by decide +kernel)) <|
  jx_all1 (sd_iaload (pc := 38) (by decide +kernel)) <|
  jx_all1 (sd_ishl (pc := 39) (by decide +kernel)) <|
  jx_all1 (sd_istore (pc := 40) (by decide +kernel)) <|
  jx_all1 (sd_iconst (pc := 42) (n := 1) (by decide +kernel) (by decide +kernel)) <|
  jx_all1 (sd_aload_n (pc := 43) (q := 2) (by decide +kernel) rfl) <|
  jx_all1 (sd_gR (pc := 44) kf_1 (f := 4) (q := (jx_fi 3)) (idx := 63) (by decide +kernel) rfl wd_94 rfl) <|
  jx_all1 (sd_iload (pc := 47) (by decide +kernel)) <|
  jx_all1 (sd_iaload (pc := 49) (by decide +kernel)) <|
  jx_all1 (sd_ishl (pc := 50) (by decide +kernel)) <|
  jx_all1 (sd_istore (pc := 51) (by decide +kernel)) <|
  jx_all1 (sd_aload_n (pc := 53) (q := 0) (by decide +kernel) rfl) <|
  jx_all1 (sd_iload (pc := 54) (by decide +kernel)) <|
  jx_all1 (sd_iload (pc := 56) (by decide +kernel)) <|
  jx_all1 (sd_vI (pc := 58) (idx := 93) (kd := 14) (by decide +kernel) mf_64 wd_603 rfl rfl) <|
  jx_all1 (sd_aload_n (pc := 61) (q := 0) (by decide +kernel) rfl) <|
  jx_all1 (sd_iload (pc := 62) (by decide +kernel)) <|
  jx_all1 (sd_iload (pc := 64) (by decide +kernel)) <|
  jx_all1 (sd_vI (pc := 66) (idx := 93) (kd := 14) (by decide +kernel) mf_64 wd_603 rfl rfl) <|
  jx_all1 (sd_ior (pc := 69) (by decide +kernel)) <|
  jx_all1 (sd_iload_n (pc := 70) (q := 3) (by decide +kernel) rfl) <|
  jx_all1 (sd_iconst (pc := 71) (n := (-1)) (by decide +kernel) (by decide +kernel)) <|
  jx_all1 (sd_ixor (pc := 72) (by decide +kernel)) <|
  jx_all1 (sd_iand (pc := 73) (by decide +kernel)) <|
  jx_all1 (sd_istore (pc := 74) (by decide +kernel)) <|
  jx_all1 (sd_iload_n (pc := 76) (q := 3) (by decide +kernel) rfl) <|
  jx_all1 (sd_iload (pc := 77) (by decide +kernel)) <|
  jx_all1 (sd_ior (pc := 79) (by decide +kernel)) <|
  jx_all1 (sd_istore_n (pc := 80) (q := 3) (by decide +kernel) rfl) <|
  jx_all1 (sd_iload (pc := 81) (by decide +kernel)) <|
  jx_all1 (sd_iconst (pc := 83) (n := 1) (by decide +kernel) (by decide +kernel)) <|
  jx_all1 (sd_iload (pc := 84) (by decide +kernel)) <|
  jx_all1 (sd_ishl (pc := 86) (by decide +kernel)) <|
  jx_all1 (sd_iconst (pc := 87) (n := (-1)) (by decide +kernel) (by decide +kernel)) <|
  jx_all1 (sd_ixor (pc := 88) (by decide +kernel)) <|
  jx_all1 (sd_iand (pc := 89) (by decide +kernel)) <|
  jx_all1 (sd_iload (pc := 90) (by decide +kernel)) <|
  jx_all1 (sd_ior (pc := 92) (by decide +kernel)) <|
  jx_all1 (sd_istore (pc := 93) (by decide +kernel)) <|
  jx_all1 (sd_iinc (pc := 95) (n := 1) (by decide +kernel) (by decide +kernel)) <|
  jx_all1 (sd_goto (pc := 98) (off := (-88)) (by decide +kernel) (by decide +kernel)) <|
  jx_all1 (sd_iload_n (pc := 101) (q := 3) (by decide +kernel) rfl) <|
  jx_all1 (sd_ireturn (pc := 102) (by decide +kernel) rfl) <|
  jx_all0
set_option maxRecDepth 100000 in
theorem sn_63 (D : jx_D) : jx_all (fun q => jx_Snd cX9_lowest 1 RX9 (some .int) D q.1 q.2) (tb_63 D) := by
  unfold tb_63
  exact jx_all1 (sd_iload_n (pc := 0) (q := 0) (by decide +kernel) rfl) <|
  jx_all1 (sd_iload_n (pc := 1) (q := 0) (by decide +kernel) rfl) <|
  jx_all1 (sd_ineg (pc := 2) (by decide +kernel)) <|
  jx_all1 (sd_iand (pc := 3) (by decide +kernel)) <|
  jx_all1 (sd_iconst (pc := 4) (n := 1) (by decide +kernel) (by decide +kernel)) <|
  jx_all1 (sd_isub (pc := 5) (by decide +kernel)) <|
  jx_all1 (sd_cI (pc := 6) (idx := 307) (by decide +kernel) mf_1 (Or.inl wd_602)) <|
  jx_all1 (sd_ireturn (pc := 9) (by decide +kernel) rfl) <|
  jx_all0
set_option maxRecDepth 100000 in
theorem sn_64 (D : jx_D) : jx_all (fun q => jx_Snd cX6_ringRoads 3 RX6 (some .int) D q.1 q.2) (tb_64 D) := by
  unfold tb_64
  exact jx_all1 (sd_aload_n (pc := 0) (q := 0) (by decide +kernel) rfl) <|
  jx_all1 (sd_iload_n (pc := 1) (q := 1) (by decide +kernel) rfl) <|
  jx_all1 (sd_aload_n (pc := 2) (q := 0) (by decide +kernel) rfl) <|
  jx_all1 (sd_iload_n (pc := 3) (q := 2) (by decide +kernel) rfl) <|
  jx_all1 (sd_aload_n (pc := 4) (q := 0) (by decide +kernel) rfl) <|
  jx_all1 (sd_gI (pc := 5) kf_14 (f := 3) (q := jx_f0) (idx := 44) (by decide +kernel) rfl wd_173 rfl) <|
  jx_all1 (sd_iload_n (pc := 8) (q := 1) (by decide +kernel) rfl) <|
  jx_all1 (sd_iconst (pc := 9) (n := (-1)) (by decide +kernel) (by decide +kernel)) <|
  jx_all1 (sd_ixor (pc := 10) (by decide +kernel)) <|
  jx_all1 (sd_iand (pc := 11) (by decide +kernel)) <|
  jx_all1 (sd_vI (pc := 12) (idx := 87) (kd := 14) (by decide +kernel) mf_60 wd_587 rfl rfl) <|
  jx_all1 (sd_vI (pc := 15) (idx := 84) (kd := 14) (by decide +kernel) mf_50 wd_547 rfl rfl) <|
  jx_all1 (sd_ireturn (pc := 18) (by decide +kernel) rfl) <|
  jx_all0
set_option maxRecDepth 100000 in
theorem sn_65 (D : jx_D) : jx_all (fun q => jx_Snd cX9_harder 2 RX9 (some .int) D q.1 q.2) (tb_65 D) := by
  unfold tb_65
  exact jx_all1 (sd_iload_n (pc := 0) (q := 1) (by decide +kernel) rfl) <|
  jx_all1 (sd_iconst (pc := 1) (n := 1) (by decide +kernel) (by decide +kernel)) <|
  jx_all1 (sd_iclt (pc := 2) (off := 9) (by decide +kernel) (by decide +kernel)) <|
  jx_all1 (sd_iload_n (pc := 5) (q := 1) (by decide +kernel) rfl) <|
  jx_all1 (sd_bipush (pc := 6) (n := 8) (by decide +kernel) (by decide +kernel)) <|
  jx_all1 (sd_icle (pc := 8) (off := 9) (by decide +kernel) (by decide +kernel)) <|
  jx_all1 (sd_aload_n (pc := 11) (q := 0) (by decide +kernel) rfl) <|
  jx_all1 (sd_iconst (pc := 12) (n := (-1)) (by decide +kernel) (by decide +kernel)) <|
  jx_all1 (sd_vI (pc := 13) (idx := 95) (kd := 0) (by decide +kernel) mf_8 wd_370 rfl rfl) <|
  jx_all1 (sd_ireturn (pc := 16) (by decide +kernel) rfl) <|
  jx_all1 (sd_aload_n (pc := 17) (q := 0) (by decide +kernel) rfl) <|
  jx_all1 (sd_gR (pc := 18) kf_0 (f := 0) (q := (jx_f1 1 0)) (idx := 12) (by decide +kernel) rfl wd_301 rfl) <|
  jx_all1 (sd_gI (pc := 21) kf_1 (f := 2) (q := jx_f0) (idx := 212) (by decide +kernel) rfl wd_88 rfl) <|
  jx_all1 (sd_ifeq (pc := 24) (off := 10) (by decide +kernel) (by decide +kernel)) <|
  jx_all1 (sd_aload_n (pc := 27) (q := 0) (by decide +kernel) rfl) <|
  jx_all1 (sd_bipush (pc := 28) (n := (-8)) (by decide +kernel) (by decide +kernel)) <|
  jx_all1 (sd_vI (pc := 30) (idx := 95) (kd := 0) (by decide +kernel) mf_8 wd_370 rfl rfl) <|
  jx_all1 (sd_ireturn (pc := 33) (by decide +kernel) rfl) <|
  jx_all1 (sd_aload_n (pc := 34) (q := 0) (by decide +kernel) rfl) <|
  jx_all1 (sd_gR (pc := 35) kf_0 (f := 0) (q := (jx_f1 1 0)) (idx := 12) (by decide +kernel) rfl wd_301 rfl) <|
  jx_all1 (sd_gI (pc := 38) kf_1 (f := 0) (q := jx_f0) (idx := 83) (by decide +kernel) rfl wd_79 rfl) <|
  jx_all1 (sd_iconst (pc := 41) (n := 2) (by decide +kernel) (by decide +kernel)) <|
  jx_all1 (sd_icge (pc := 42) (off := 10) (by decide +kernel) (by decide +kernel)) <|
  jx_all1 (sd_aload_n (pc := 45) (q := 0) (by decide +kernel) rfl) <|
  jx_all1 (sd_bipush (pc := 46) (n := (-6)) (by decide +kernel) (by decide +kernel)) <|
  jx_all1 (sd_vI (pc := 48) (idx := 95) (kd := 0) (by decide +kernel) mf_8 wd_370 rfl rfl) <|
  jx_all1 (sd_ireturn (pc := 51) (by decide +kernel) rfl) <|
  jx_all1 (sd_aload_n (pc := 52) (q := 0) (by decide +kernel) rfl) <|
  jx_all1 (sd_gR (pc := 53) kf_0 (f := 8) (q := (jx_f1 14 0)) (idx := 44) (by decide +kernel) rfl wd_309 rfl) <|
  jx_all1 (sd_aload_n (pc := 56) (q := 0) (by decide +kernel) rfl) <|
  jx_all1 (sd_gR (pc := 57) kf_0 (f := 0) (q := (jx_f1 1 0)) (idx := 12) (by decide +kernel) rfl wd_301 rfl) <|
  jx_all1 (sd_vV (pc := 60) (idx := 188) (kd := 14) (by decide +kernel) mf_38 wd_489 rfl rfl) <|
  jx_all1 (sd_aload_n (pc := 63) (q := 0) (by decide +kernel) rfl) <|
  jx_all1 (sd_gR (pc := 64) kf_0 (f := 9) (q := (jx_f1 19 0)) (idx := 51) (by decide +kernel) rfl wd_310 rfl) <|
  jx_all1 (sd_aload_n (pc := 67) (q := 0) (by decide +kernel) rfl) <|
  jx_all1 (sd_gR (pc := 68) kf_0 (f := 8) (q := (jx_f1 14 0)) (idx := 44) (by decide +kernel) rfl wd_309 rfl) <|
  jx_all1 (sd_iload_n (pc := 71) (q := 1) (by decide +kernel) rfl) <|
  jx_all1 (sd_vI (pc := 72) (idx := 241) (kd := 19) (by decide +kernel) mf_66 wd_612 rfl rfl) <|
  jx_all1 (sd_ireturn (pc := 75) (by decide +kernel) rfl) <|
  jx_all0
set_option maxRecDepth 100000 in
theorem sn_66 (D : jx_D) : jx_all (fun q => jx_Snd cX2_fewestRoads 4 RX2 (some .int) D q.1 q.2) (tb_66 D) := by
  unfold tb_66
  exact jx_all1 (sd_aload_n (pc := 0) (q := 0) (by decide +kernel) rfl) <|
  jx_all1 (sd_gR (pc := 1) kf_19 (f := 0) (q := (jx_f1 20 0)) (idx := 9) (by decide +kernel) rfl wd_220 rfl) <|
  jx_all1 (sd_iconst (pc := 4) (n := 0) (by decide +kernel) (by decide +kernel)) <|
  jx_all1 (sd_iconst (pc := 5) (n := 0) (by decide +kernel) (by decide +kernel)) <|
  jx_all1 (sd_iastore (pc := 6) (by decide +kernel)) <|
  jx_all1 (sd_iconst (pc := 7) (n := 1) (by decide +kernel) (by decide +kernel)) <|
  jx_all1 (sd_istore_n (pc := 8) (q := 3) (by decide +kernel) rfl) <|
  jx_all1 (sd_iload_n (pc := 9) (q := 3) (by decide +kernel) rfl) <|
  jx_all1 (sd_aload_n (pc := 10) (q := 1) (by decide +kernel) rfl) <|
  jx_all1 (sd_gI (pc := 11) kf_14 (f := 3) (q := jx_f0) (idx := 15) (by decide +kernel) rfl wd_172 rfl) <|
  jx_all1 (sd_icgt (pc := 14) (off := 22) (by decide +kernel) (by decide +kernel)) <|
  jx_all1 (sd_aload_n (pc := 17) (q := 0) (by decide +kernel) rfl) <|
  jx_all1 (sd_gR (pc := 18) kf_19 (f := 0) (q := (jx_f1 20 0)) (idx := 9) (by decide +kernel) rfl wd_220 rfl) <|
  jx_all1 (sd_iload_n (pc := 21) (q := 3) (by decide +kernel) rfl) <|
  jx_all1 (sd_aload_n (pc := 22) (q := 0) (by decide +kernel) rfl) <|
  jx_all1 (sd_aload_n (pc := 23) (q := 1) (by decide +kernel) rfl) <|
  jx_all1 (sd_iload_n (pc := 24) (q := 2) (by decide +kernel) rfl) <|
  jx_all1 (sd_iload_n (pc := 25) (q := 3) (by decide +kernel) rfl) <|
  jx_all1 (sd_vI (pc := 26) (idx := 21) (kd := 19) (by decide +kernel) mf_67 wd_616 rfl rfl) <|
  jx_all1 (sd_iastore (pc := 29) (by decide +kernel)) <|
  jx_all1 (sd_iinc (pc := 30) (n := 1) (by decide +kernel) (by decide +kernel)) <|
  jx_all1 (sd_goto (pc := 33) (off := (-24)) (by decide +kernel) (by decide +kernel)) <|
  jx_all1 (sd_aload_n (pc := 36) (q := 0) (by decide +kernel) rfl) <|
  jx_all1 (sd_gR (pc := 37) kf_19 (f := 0) (q := (jx_f1 20 0)) (idx := 9) (by decide +kernel) rfl wd_220 rfl) <|
  jx_all1 (sd_aload_n (pc := 40) (q := 1) (by decide +kernel) rfl) <|
  jx_all1 (sd_gI (pc := 41) kf_14 (f := 3) (q := jx_f0) (idx := 15) (by decide +kernel) rfl wd_172 rfl) <|
  jx_all1 (sd_iaload (pc := 44) (by decide +kernel)) <|
  jx_all1 (sd_istore_n (pc := 45) (q := 3) (by decide +kernel) rfl) <|
  jx_all1 (sd_iload_n (pc := 46) (q := 2) (by decide +kernel) rfl) <|
  jx_all1 (sd_iconst (pc := 47) (n := 1) (by decide +kernel) (by decide +kernel)) <|
  jx_all1 (sd_icne (pc := 48) (off := 13) (by decide +kernel) (by decide +kernel)) <|
  jx_all1 (sd_iconst (pc := 51) (n := 0) (by decide +kernel) (by decide +kernel)) <|
  jx_all1 (sd_iload_n (pc := 52) (q := 3) (by decide +kernel) rfl) <|
  jx_all1 (sd_iconst (pc := 53) (n := 1) (by decide +kernel) (by decide +kernel)) <|
  jx_all1 (sd_isub (pc := 54) (by decide +kernel)) <|
  jx_all1 (sd_mmax (pc := 55) (idx := 25) (by decide +kernel) wd_624 wd_625 wd_61 wd_626) <|
  jx_all1 (sd_goto (pc := 58) (off := 8) (by decide +kernel) (by decide +kernel)) <|
  jx_all1 (sd_iload_n (pc := 61) (q := 3) (by decide +kernel) rfl) <|
  jx_all1 (sd_iconst (pc := 62) (n := 1) (by decide +kernel) (by decide +kernel)) <|
  jx_all1 (sd_iadd (pc := 63) (by decide +kernel)) <|
  jx_all1 (sd_iconst (pc := 64) (n := 2) (by decide +kernel) (by decide +kernel)) <|
  jx_all1 (sd_idiv (pc := 65) (by decide +kernel)) <|
  jx_all1 (sd_ireturn (pc := 66) (by decide +kernel) rfl) <|
  jx_all0
set_option maxRecDepth 100000 in
theorem sn_67 (D : jx_D) : jx_all (fun q => jx_Snd cX2_mostLacking 8 RX2 (some .int) D q.1 q.2) (tb_67 D) := by
  unfold tb_67
  exact jx_all1 (sd_iload_n (pc := 0) (q := 3) (by decide +kernel) rfl) <|
  jx_all1 (sd_iload_n (pc := 1) (q := 3) (by decide +kernel) rfl) <|
  jx_all1 (sd_ineg (pc := 2) (by decide +kernel)) <|
  jx_all1 (sd_iand (pc := 3) (by decide +kernel)) <|
  jx_all1 (sd_istore (pc := 4) (by decide +kernel)) <|
  jx_all1 (sd_iload_n (pc := 6) (q := 3) (by decide +kernel) rfl) <|
  jx_all1 (sd_iload (pc := 7) (by decide +kernel)) <|
  jx_all1 (sd_ixor (pc := 9) (by decide +kernel)) <|
  jx_all1 (sd_istore (pc := 10) (by decide +kernel)) <|
  jx_all1 (sd_aload_n (pc := 12) (q := 0) (by decide +kernel) rfl) <|
  jx_all1 (sd_gR (pc := 13) kf_19 (f := 0) (q := (jx_f1 20 0)) (idx := 9) (by decide +kernel) rfl wd_220 rfl) <|
  jx_all1 (sd_iload (pc := 16) (by decide +kernel)) <|
  jx_all1 (sd_iaload (pc := 18) (by decide +kernel)) <|
  jx_all1 (sd_iconst (pc := 19) (n := 0) (by decide +kernel) (by decide +kernel)) <|
  jx_all1 (sd_aload_n (pc := 20) (q := 1) (by decide +kernel) rfl) <|
  jx_all1 (sd_iload_n (pc := 21) (q := 2) (by decide +kernel) rfl) <|
  jx_all1 (sd_iload (pc := 22) (by decide +kernel)) <|
  jx_all1 (sd_cI (pc := 24) (idx := 31) (by decide +kernel) mf_68 (Or.inl wd_620)) <|
  jx_all1 (sd_mmax (pc := 27) (idx := 25) (by decide +kernel) wd_624 wd_625 wd_61 wd_626) <|
  jx_all1 (sd_iadd (pc := 30) (by decide +kernel)) <|
  jx_all1 (sd_istore (pc := 31) (by decide +kernel)) <|
  jx_all1 (sd_iload (pc := 33) (by decide +kernel)) <|
  jx_all1 (sd_istore (pc := 35) (by decide +kernel)) <|
  jx_all1 (sd_iload (pc := 37) (by decide +kernel)) <|
  jx_all1 (sd_ifle (pc := 39) (off := 55) (by decide +kernel) (by decide +kernel)) <|
  jx_all1 (sd_iload (pc := 42) (by decide +kernel)) <|
  jx_all1 (sd_iload (pc := 44) (by decide +kernel)) <|
  jx_all1 (sd_ior (pc := 46) (by decide +kernel)) <|
  jx_all1 (sd_aload_n (pc := 47) (q := 1) (by decide +kernel) rfl) <|
  jx_all1 (sd_gI (pc := 48) kf_14 (f := 3) (q := jx_f0) (idx := 15) (by decide +kernel) rfl wd_172 rfl) <|
  jx_all1 (sd_iceq (pc := 51) (off := 31) (by decide +kernel) (by decide +kernel)) <|
  jx_all1 (sd_iload (pc := 54) (by decide +kernel)) <|
  jx_all1 (sd_aload_n (pc := 56) (q := 1) (by decide +kernel) rfl) <|
  jx_all1 (sd_iload_n (pc := 57) (q := 2) (by decide +kernel) rfl) <|
  jx_all1 (sd_iload (pc := 58) (by decide +kernel)) <|
  jx_all1 (sd_iload (pc := 60) (by decide +kernel)) <|
  jx_all1 (sd_ior (pc := 62) (by decide +kernel)) <|
  jx_all1 (sd_cI (pc := 63) (idx := 31) (by decide +kernel) mf_68 (Or.inl wd_620)) <|
  jx_all1 (sd_aload_n (pc := 66) (q := 0) (by decide +kernel) rfl) <|
  jx_all1 (sd_gR (pc := 67) kf_19 (f := 0) (q := (jx_f1 20 0)) (idx := 9) (by decide +kernel) rfl wd_220 rfl) <|
  jx_all1 (sd_iload (pc := 70) (by decide +kernel)) <|
  jx_all1 (sd_iload (pc := 72) (by decide +kernel)) <|
  jx_all1 (sd_ixor (pc := 74) (by decide +kernel)) <|
  jx_all1 (sd_iaload (pc := 75) (by decide +kernel)) <|
  jx_all1 (sd_iadd (pc := 76) (by decide +kernel)) <|
  jx_all1 (sd_mmax (pc := 77) (idx := 25) (by decide +kernel) wd_624 wd_625 wd_61 wd_626) <|
  jx_all1 (sd_istore (pc := 80) (by decide +kernel)) <|
  jx_all1 (sd_iload (pc := 82) (by decide +kernel)) <|
  jx_all1 (sd_iconst (pc := 84) (n := 1) (by decide +kernel) (by decide +kernel)) <|
  jx_all1 (sd_isub (pc := 85) (by decide +kernel)) <|
  jx_all1 (sd_iload (pc := 86) (by decide +kernel)) <|
  jx_all1 (sd_iand (pc := 88) (by decide +kernel)) <|
  jx_all1 (sd_istore (pc := 89) (by decide +kernel)) <|
  jx_all1 (sd_goto (pc := 91) (off := (-54)) (by decide +kernel) (by decide +kernel)) <|
  jx_all1 (sd_iload (pc := 94) (by decide +kernel)) <|
  jx_all1 (sd_ireturn (pc := 96) (by decide +kernel) rfl) <|
  jx_all0
set_option maxRecDepth 100000 in
theorem sn_68 (D : jx_D) : jx_all (fun q => jx_Snd cX2_lack 3 RX2 (some .int) D q.1 q.2) (tb_68 D) := by
  unfold tb_68
  exact jx_all1 (sd_iload_n (pc := 0) (q := 1) (by decide +kernel) rfl) <|
  jx_all1 (sd_aload_n (pc := 1) (q := 0) (by decide +kernel) rfl) <|
  jx_all1 (sd_gR (pc := 2) kf_14 (f := 10) (q := (jx_f1 18 0)) (idx := 34) (by decide +kernel) rfl wd_190 rfl) <|
  jx_all1 (sd_iload_n (pc := 5) (q := 2) (by decide +kernel) rfl) <|
  jx_all1 (sd_iaload (pc := 6) (by decide +kernel)) <|
  jx_all1 (sd_cI (pc := 7) (idx := 37) (by decide +kernel) mf_1 (Or.inl wd_623)) <|
  jx_all1 (sd_isub (pc := 10) (by decide +kernel)) <|
  jx_all1 (sd_ireturn (pc := 11) (by decide +kernel) rfl) <|
  jx_all0
set_option maxRecDepth 100000 in
theorem sn_69 (D : jx_D) : jx_all (fun q => jx_Snd cX9_best 2 RX9 (some .int) D q.1 q.2) (tb_69 D) := by
  unfold tb_69
  exact jx_all1 (sd_iload_n (pc := 0) (q := 1) (by decide +kernel) rfl) <|
  jx_all1 (sd_iconst (pc := 1) (n := 1) (by decide +kernel) (by decide +kernel)) <|
  jx_all1 (sd_iclt (pc := 2) (off := 9) (by decide +kernel) (by decide +kernel)) <|
  jx_all1 (sd_iload_n (pc := 5) (q := 1) (by decide +kernel) rfl) <|
  jx_all1 (sd_bipush (pc := 6) (n := 8) (by decide +kernel) (by decide +kernel)) <|
  jx_all1 (sd_icle (pc := 8) (off := 9) (by decide +kernel) (by decide +kernel)) <|
  jx_all1 (sd_aload_n (pc := 11) (q := 0) (by decide +kernel) rfl) <|
  jx_all1 (sd_iconst (pc := 12) (n := (-1)) (by decide +kernel) (by decide +kernel)) <|
  jx_all1 (sd_vI (pc := 13) (idx := 95) (kd := 0) (by decide +kernel) mf_8 wd_370 rfl rfl) <|
  jx_all1 (sd_ireturn (pc := 16) (by decide +kernel) rfl) <|
  jx_all1 (sd_aload_n (pc := 17) (q := 0) (by decide +kernel) rfl) <|
  jx_all1 (sd_gR (pc := 18) kf_0 (f := 0) (q := (jx_f1 1 0)) (idx := 12) (by decide +kernel) rfl wd_301 rfl) <|
  jx_all1 (sd_gI (pc := 21) kf_1 (f := 1) (q := jx_f0) (idx := 107) (by decide +kernel) rfl wd_85 rfl) <|
  jx_all1 (sd_bipush (pc := 24) (n := 12) (by decide +kernel) (by decide +kernel)) <|
  jx_all1 (sd_icle (pc := 26) (off := 10) (by decide +kernel) (by decide +kernel)) <|
  jx_all1 (sd_aload_n (pc := 29) (q := 0) (by decide +kernel) rfl) <|
  jx_all1 (sd_bipush (pc := 30) (n := (-7)) (by decide +kernel) (by decide +kernel)) <|
  jx_all1 (sd_vI (pc := 32) (idx := 95) (kd := 0) (by decide +kernel) mf_8 wd_370 rfl rfl) <|
  jx_all1 (sd_ireturn (pc := 35) (by decide +kernel) rfl) <|
  jx_all1 (sd_aload_n (pc := 36) (q := 0) (by decide +kernel) rfl) <|
  jx_all1 (sd_gR (pc := 37) kf_0 (f := 8) (q := (jx_f1 14 0)) (idx := 44) (by decide +kernel) rfl wd_309 rfl) <|
  jx_all1 (sd_aload_n (pc := 40) (q := 0) (by decide +kernel) rfl) <|
  jx_all1 (sd_gR (pc := 41) kf_0 (f := 0) (q := (jx_f1 1 0)) (idx := 12) (by decide +kernel) rfl wd_301 rfl) <|
  jx_all1 (sd_vV (pc := 44) (idx := 188) (kd := 14) (by decide +kernel) mf_38 wd_489 rfl rfl) <|
  jx_all1 (sd_aload_n (pc := 47) (q := 0) (by decide +kernel) rfl) <|
  jx_all1 (sd_gR (pc := 48) kf_0 (f := 8) (q := (jx_f1 14 0)) (idx := 44) (by decide +kernel) rfl wd_309 rfl) <|
  jx_all1 (sd_aload_n (pc := 51) (q := 0) (by decide +kernel) rfl) <|
  jx_all1 (sd_gR (pc := 52) kf_0 (f := 8) (q := (jx_f1 14 0)) (idx := 44) (by decide +kernel) rfl wd_309 rfl) <|
  jx_all1 (sd_gI (pc := 55) kf_14 (f := 4) (q := jx_f0) (idx := 197) (by decide +kernel) rfl wd_179 rfl) <|
  jx_all1 (sd_iload_n (pc := 58) (q := 1) (by decide +kernel) rfl) <|
  jx_all1 (sd_vI (pc := 59) (idx := 245) (kd := 14) (by decide +kernel) mf_70 wd_631 rfl rfl) <|
  jx_all1 (sd_ifne (pc := 62) (off := 10) (by decide +kernel) (by decide +kernel)) <|
  jx_all1 (sd_aload_n (pc := 65) (q := 0) (by decide +kernel) rfl) <|
  jx_all1 (sd_bipush (pc := 66) (n := (-6)) (by decide +kernel) (by decide +kernel)) <|
  jx_all1 (sd_vI (pc := 68) (idx := 95) (kd := 0) (by decide +kernel) mf_8 wd_370 rfl rfl) <|
  jx_all1 (sd_ireturn (pc := 71) (by decide +kernel) rfl) <|
  jx_all1 (sd_aload_n (pc := 72) (q := 0) (by decide +kernel) rfl) <|
  jx_all1 (sd_gR (pc := 73) kf_0 (f := 10) (q := (jx_f1 21 0)) (idx := 58) (by decide +kernel) rfl wd_311 rfl) <|
  jx_all1 (sd_aload_n (pc := 76) (q := 0) (by decide +kernel) rfl) <|
  jx_all1 (sd_gR (pc := 77) kf_0 (f := 8) (q := (jx_f1 14 0)) (idx := 44) (by decide +kernel) rfl wd_309 rfl) <|
  jx_all1 (sd_aload_n (pc := 80) (q := 0) (by decide +kernel) rfl) <|
  jx_all1 (sd_gR (pc := 81) kf_0 (f := 0) (q := (jx_f1 1 0)) (idx := 12) (by decide +kernel) rfl wd_301 rfl) <|
  jx_all1 (sd_iload_n (pc := 84) (q := 1) (by decide +kernel) rfl) <|
  jx_all1 (sd_vI (pc := 85) (idx := 248) (kd := 21) (by decide +kernel) mf_71 wd_635 rfl rfl) <|
  jx_all1 (sd_ireturn (pc := 88) (by decide +kernel) rfl) <|
  jx_all0
set_option maxRecDepth 100000 in
theorem sn_70 (D : jx_D) : jx_all (fun q => jx_Snd cX6_isHard 4 RX6 (some .boolean) D q.1 q.2) (tb_70 D) := by
  unfold tb_70
  exact jx_all1 (sd_iconst (pc := 0) (n := 1) (by decide +kernel) (by decide +kernel)) <|
  jx_all1 (sd_istore_n (pc := 1) (q := 3) (by decide +kernel) rfl) <|
  jx_all1 (sd_iload_n (pc := 2) (q := 3) (by decide +kernel) rfl) <|
  jx_all1 (sd_aload_n (pc := 3) (q := 0) (by decide +kernel) rfl) <|
  jx_all1 (sd_gI (pc := 4) kf_14 (f := 5) (q := jx_f0) (idx := 50) (by decide +kernel) rfl wd_180 rfl) <|
  jx_all1 (sd_icge (pc := 7) (off := 31) (by decide +kernel) (by decide +kernel)) <|
  jx_all1 (sd_aload_n (pc := 10) (q := 0) (by decide +kernel) rfl) <|
  jx_all1 (sd_gR (pc := 11) kf_14 (f := 10) (q := (jx_f1 18 0)) (idx := 21) (by decide +kernel) rfl wd_189 rfl) <|
  jx_all1 (sd_iload_n (pc := 14) (q := 3) (by decide +kernel) rfl) <|
  jx_all1 (sd_aload_n (pc := 15) (q := 0) (by decide +kernel) rfl) <|
  jx_all1 (sd_gI (pc := 16) kf_14 (f := 6) (q := jx_f0) (idx := 53) (by decide +kernel) rfl wd_181 rfl) <|
  jx_all1 (sd_ishl (pc := 19) (by decide +kernel)) <|
  jx_all1 (sd_iaload (pc := 20) (by decide +kernel)) <|
  jx_all1 (sd_iload_n (pc := 21) (q := 1) (by decide +kernel) rfl) <|
  jx_all1 (sd_iand (pc := 22) (by decide +kernel)) <|
  jx_all1 (sd_cI (pc := 23) (idx := 70) (by decide +kernel) mf_1 (Or.inl wd_503)) <|
  jx_all1 (sd_iload_n (pc := 26) (q := 2) (by decide +kernel) rfl) <|
  jx_all1 (sd_icge (pc := 27) (off := 5) (by decide +kernel) (by decide +kernel)) <|
  jx_all1 (sd_iconst (pc := 30) (n := 0) (by decide +kernel) (by decide +kernel)) <|
  jx_all1 (sd_zreturn (pc := 31) (by decide +kernel) rfl) <|
  jx_all1 (sd_iinc (pc := 32) (n := 1) (by decide +kernel) (by decide +kernel)) <|
  jx_all1 (sd_goto (pc := 35) (off := (-33)) (by decide +kernel) (by decide +kernel)) <|
  jx_all1 (sd_aload_n (pc := 38) (q := 0) (by decide +kernel) rfl) <|
  jx_all1 (sd_gI (pc := 39) kf_14 (f := 0) (q := jx_f0) (idx := 30) (by decide +kernel) rfl wd_166 rfl) <|
  jx_all1 (sd_iconst (pc := 42) (n := 1) (by decide +kernel) (by decide +kernel)) <|
  jx_all1 (sd_icle (pc := 43) (off := 7) (by decide +kernel) (by decide +kernel)) <|
  jx_all1 (sd_iconst (pc := 46) (n := 1) (by decide +kernel) (by decide +kernel)) <|
  jx_all1 (sd_goto (pc := 47) (off := 4) (by decide +kernel) (by decide +kernel)) <|
  jx_all1 (sd_iconst (pc := 50) (n := 0) (by decide +kernel) (by decide +kernel)) <|
  jx_all1 (sd_zreturn (pc := 51) (by decide +kernel) rfl) <|
  jx_all0
set_option maxRecDepth 100000 in
theorem sn_71 (D : jx_D) : jx_all (fun q => jx_Snd cX1_find 4 RX1 (some .int) D q.1 q.2) (tb_71 D) := by
  unfold tb_71
  exact jx_all1 (sd_aload_n (pc := 0) (q := 0) (by decide +kernel) rfl) <|
  jx_all1 (sd_aload_n (pc := 1) (q := 1) (by decide +kernel) rfl) <|
  jx_all1 (sd_pM (pc := 2) kf_21 (f := 0) (q := (jx_f2 14 0)) (idx := 9) (by decide +kernel) rfl wd_230 rfl rfl rfl) <|
  jx_all1 (sd_aload_n (pc := 5) (q := 0) (by decide +kernel) rfl) <|
  jx_all1 (sd_aload_n (pc := 6) (q := 2) (by decide +kernel) rfl) <|
  jx_all1 (sd_pM (pc := 7) kf_21 (f := 1) (q := (jx_f2 1 0)) (idx := 15) (by decide +kernel) rfl wd_231 rfl rfl rfl) <|
  jx_all1 (sd_aload_n (pc := 10) (q := 0) (by decide +kernel) rfl) <|
  jx_all1 (sd_iload_n (pc := 11) (q := 3) (by decide +kernel) rfl) <|
  jx_all1 (sd_pI (pc := 12) kf_21 (f := 2) (q := jx_f0) (idx := 19) (by decide +kernel) rfl wd_232 rfl rfl rfl) <|
  jx_all1 (sd_aload_n (pc := 15) (q := 0) (by decide +kernel) rfl) <|
  jx_all1 (sd_sipush (pc := 16) (n := 20001) (by decide +kernel) (by decide +kernel)) <|
  jx_all1 (sd_pI (pc := 19) kf_21 (f := 3) (q := jx_f0) (idx := 23) (by decide +kernel) rfl wd_233 rfl rfl rfl) <|
  jx_all1 (sd_aload_n (pc := 22) (q := 0) (by decide +kernel) rfl) <|
  jx_all1 (sd_iconst (pc := 23) (n := 0) (by decide +kernel) (by decide +kernel)) <|
  jx_all1 (sd_pI (pc := 24) kf_21 (f := 4) (q := jx_f0) (idx := 26) (by decide +kernel) rfl wd_234 rfl rfl rfl) <|
  jx_all1 (sd_aload_n (pc := 27) (q := 0) (by decide +kernel) rfl) <|
  jx_all1 (sd_aload_n (pc := 28) (q := 0) (by decide +kernel) rfl) <|
  jx_all1 (sd_gM (pc := 29) kf_21 (f := 1) (q := (jx_f2 1 0)) (idx := 15) (by decide +kernel) rfl wd_231 rfl) <|
  jx_all1 (sd_gI (pc := 32) kf_1 (f := 1) (q := jx_f0) (idx := 29) (by decide +kernel) rfl wd_83 rfl) <|
  jx_all1 (sd_iconst (pc := 35) (n := 1) (by decide +kernel) (by decide +kernel)) <|
  jx_all1 (sd_isub (pc := 36) (by decide +kernel)) <|
  jx_all1 (sd_iconst (pc := 37) (n := 0) (by decide +kernel) (by decide +kernel)) <|
  jx_all1 (sd_iconst (pc := 38) (n := 0) (by decide +kernel) (by decide +kernel)) <|
  jx_all1 (sd_vV (pc := 39) (idx := 34) (kd := 21) (by decide +kernel) mf_72 wd_639 rfl rfl) <|
  jx_all1 (sd_aload_n (pc := 42) (q := 0) (by decide +kernel) rfl) <|
  jx_all1 (sd_gI (pc := 43) kf_21 (f := 4) (q := jx_f0) (idx := 26) (by decide +kernel) rfl wd_234 rfl) <|
  jx_all1 (sd_ireturn (pc := 46) (by decide +kernel) rfl) <|
  jx_all0
set_option maxRecDepth 100000 in
theorem sn_72 (D : jx_D) : jx_all (fun q => jx_Snd cX1_search 4 RX1 none D q.1 q.2) (tb_72 D) := by
  unfold tb_72
  exact jx_all1 (sd_iload_n (pc := 0) (q := 3) (by decide +kernel) rfl) <|
  jx_all1 (sd_aload_n (pc := 1) (q := 0) (by decide +kernel) rfl) <|
  jx_all1 (sd_gI (pc := 2) kf_21 (f := 3) (q := jx_f0) (idx := 23) (by decide +kernel) rfl wd_233 rfl) <|
  jx_all1 (sd_iclt (pc := 5) (off := 4) (by decide +kernel) (by decide +kernel)) <|
  jx_all1 (sd_return (pc := 8) (by decide +kernel) rfl) <|
  jx_all1 (sd_iload_n (pc := 9) (q := 1) (by decide +kernel) rfl) <|
  jx_all1 (sd_ifge (pc := 10) (off := 14) (by decide +kernel) (by decide +kernel)) <|
  jx_all1 (sd_aload_n (pc := 13) (q := 0) (by decide +kernel) rfl) <|
  jx_all1 (sd_iload_n (pc := 14) (q := 3) (by decide +kernel) rfl) <|
  jx_all1 (sd_pI (pc := 15) kf_21 (f := 3) (q := jx_f0) (idx := 23) (by decide +kernel) rfl wd_233 rfl rfl rfl) <|
  jx_all1 (sd_aload_n (pc := 18) (q := 0) (by decide +kernel) rfl) <|
  jx_all1 (sd_iload_n (pc := 19) (q := 2) (by decide +kernel) rfl) <|
  jx_all1 (sd_pI (pc := 20) kf_21 (f := 4) (q := jx_f0) (idx := 26) (by decide +kernel) rfl wd_234 rfl rfl rfl) <|
  jx_all1 (sd_return (pc := 23) (by decide +kernel) rfl) <|
  jx_all1 (sd_aload_n (pc := 24) (q := 0) (by decide +kernel) rfl) <|
  jx_all1 (sd_gM (pc := 25) kf_21 (f := 0) (q := (jx_f2 14 0)) (idx := 9) (by decide +kernel) rfl wd_230 rfl) <|
  jx_all1 (sd_iload_n (pc := 28) (q := 2) (by decide +kernel) rfl) <|
  jx_all1 (sd_iload_n (pc := 29) (q := 1) (by decide +kernel) rfl) <|
  jx_all1 (sd_cI (pc := 30) (idx := 38) (by decide +kernel) mf_17 (Or.inr ⟨RX9, by decide +kernel⟩)) <|
  jx_all1 (sd_ior (pc := 33) (by decide +kernel)) <|
  jx_all1 (sd_aload_n (pc := 34) (q := 0) (by decide +kernel) rfl) <|
  jx_all1 (sd_gI (pc := 35) kf_21 (f := 2) (q := jx_f0) (idx := 19) (by decide +kernel) rfl wd_232 rfl) <|
  jx_all1 (sd_vI (pc := 38) (idx := 42) (kd := 14) (by decide +kernel) mf_70 wd_644 rfl rfl) <|
  jx_all1 (sd_ifeq (pc := 41) (off := 12) (by decide +kernel) (by decide +kernel)) <|
  jx_all1 (sd_aload_n (pc := 44) (q := 0) (by decide +kernel) rfl) <|
  jx_all1 (sd_iload_n (pc := 45) (q := 1) (by decide +kernel) rfl) <|
  jx_all1 (sd_iconst (pc := 46) (n := 1) (by decide +kernel) (by decide +kernel)) <|
  jx_all1 (sd_isub (pc := 47) (by decide +kernel)) <|
  jx_all1 (sd_iload_n (pc := 48) (q := 2) (by decide +kernel) rfl) <|
  jx_all1 (sd_iload_n (pc := 49) (q := 3) (by decide +kernel) rfl) <|
  jx_all1 (sd_vV (pc := 50) (idx := 34) (kd := 21) (by decide +kernel) mf_72 wd_639 rfl rfl) <|
  jx_all1 (sd_aload_n (pc := 53) (q := 0) (by decide +kernel) rfl) <|
  jx_all1 (sd_iload_n (pc := 54) (q := 1) (by decide +kernel) rfl) <|
  jx_all1 (sd_iconst (pc := 55) (n := 1) (by decide +kernel) (by decide +kernel)) <|
  jx_all1 (sd_isub (pc := 56) (by decide +kernel)) <|
  jx_all1 (sd_iload_n (pc := 57) (q := 2) (by decide +kernel) rfl) <|
  jx_all1 (sd_iconst (pc := 58) (n := 1) (by decide +kernel) (by decide +kernel)) <|
  jx_all1 (sd_iload_n (pc := 59) (q := 1) (by decide +kernel) rfl) <|
  jx_all1 (sd_ishl (pc := 60) (by decide +kernel)) <|
  jx_all1 (sd_ior (pc := 61) (by decide +kernel)) <|
  jx_all1 (sd_iload_n (pc := 62) (q := 3) (by decide +kernel) rfl) <|
  jx_all1 (sd_aload_n (pc := 63) (q := 0) (by decide +kernel) rfl) <|
  jx_all1 (sd_gM (pc := 64) kf_21 (f := 1) (q := (jx_f2 1 0)) (idx := 15) (by decide +kernel) rfl wd_231 rfl) <|
  jx_all1 (sd_gR (pc := 67) kf_1 (f := 5) (q := (jx_fi 4)) (idx := 48) (by decide +kernel) rfl wd_98 rfl) <|
  jx_all1 (sd_iload_n (pc := 70) (q := 1) (by decide +kernel) rfl) <|
  jx_all1 (sd_iaload (pc := 71) (by decide +kernel)) <|
  jx_all1 (sd_iadd (pc := 72) (by decide +kernel)) <|
  jx_all1 (sd_vV (pc := 73) (idx := 34) (kd := 21) (by decide +kernel) mf_72 wd_639 rfl rfl) <|
  jx_all1 (sd_return (pc := 76) (by decide +kernel) rfl) <|
  jx_all0
set_option maxRecDepth 100000 in
theorem sn_73 (D : jx_D) : jx_all (fun q => jx_Snd cX9_take 6 RX9 (some .int) D q.1 q.2) (tb_73 D) := by
  unfold tb_73
  exact jx_all1 (sd_aload_n (pc := 0) (q := 0) (by decide +kernel) rfl) <|
  jx_all1 (sd_gR (pc := 1) kf_0 (f := 1) (q := (jx_f1 6 0)) (idx := 19) (by decide +kernel) rfl wd_302 rfl) <|
  jx_all1 (sd_aload_n (pc := 4) (q := 0) (by decide +kernel) rfl) <|
  jx_all1 (sd_gR (pc := 5) kf_0 (f := 0) (q := (jx_f1 1 0)) (idx := 12) (by decide +kernel) rfl wd_301 rfl) <|
  jx_all1 (sd_vV (pc := 8) (idx := 87) (kd := 6) (by decide +kernel) mf_4 wd_348 rfl rfl) <|
  jx_all1 (sd_aload_n (pc := 11) (q := 0) (by decide +kernel) rfl) <|
  jx_all1 (sd_gR (pc := 12) kf_0 (f := 8) (q := (jx_f1 14 0)) (idx := 44) (by decide +kernel) rfl wd_309 rfl) <|
  jx_all1 (sd_aload_n (pc := 15) (q := 0) (by decide +kernel) rfl) <|
  jx_all1 (sd_gR (pc := 16) kf_0 (f := 0) (q := (jx_f1 1 0)) (idx := 12) (by decide +kernel) rfl wd_301 rfl) <|
  jx_all1 (sd_vV (pc := 19) (idx := 188) (kd := 14) (by decide +kernel) mf_38 wd_489 rfl rfl) <|
  jx_all1 (sd_aload_n (pc := 22) (q := 0) (by decide +kernel) rfl) <|
  jx_all1 (sd_gR (pc := 23) kf_0 (f := 8) (q := (jx_f1 14 0)) (idx := 44) (by decide +kernel) rfl wd_309 rfl) <|
  jx_all1 (sd_aload_n (pc := 26) (q := 0) (by decide +kernel) rfl) <|
  jx_all1 (sd_gR (pc := 27) kf_0 (f := 8) (q := (jx_f1 14 0)) (idx := 44) (by decide +kernel) rfl wd_309 rfl) <|
  jx_all1 (sd_gI (pc := 30) kf_14 (f := 4) (q := jx_f0) (idx := 197) (by decide +kernel) rfl wd_179 rfl) <|
  jx_all1 (sd_vI (pc := 33) (idx := 200) (kd := 14) (by decide +kernel) mf_44 wd_523 rfl rfl) <|
  jx_all1 (sd_istore_n (pc := 36) (q := 1) (by decide +kernel) rfl) <|
  jx_all1 (sd_aload_n (pc := 37) (q := 0) (by decide +kernel) rfl) <|
  jx_all1 (sd_gR (pc := 38) kf_0 (f := 0) (q := (jx_f1 1 0)) (idx := 12) (by decide +kernel) rfl wd_301 rfl) <|
  jx_all1 (sd_gI (pc := 41) kf_1 (f := 1) (q := jx_f0) (idx := 107) (by decide +kernel) rfl wd_85 rfl) <|
  jx_all1 (sd_istore_n (pc := 44) (q := 2) (by decide +kernel) rfl) <|
  jx_all1 (sd_aload_n (pc := 45) (q := 0) (by decide +kernel) rfl) <|
  jx_all1 (sd_gR (pc := 46) kf_0 (f := 8) (q := (jx_f1 14 0)) (idx := 44) (by decide +kernel) rfl wd_309 rfl) <|
  jx_all1 (sd_gI (pc := 49) kf_14 (f := 4) (q := jx_f0) (idx := 197) (by decide +kernel) rfl wd_179 rfl) <|
  jx_all1 (sd_istore_n (pc := 52) (q := 3) (by decide +kernel) rfl) <|
  jx_all1 (sd_iconst (pc := 53) (n := 0) (by decide +kernel) (by decide +kernel)) <|
  jx_all1 (sd_istore (pc := 54) (by decide +kernel)) <|
  jx_all1 (sd_iload (pc := 56) (by decide +kernel)) <|
  jx_all1 (sd_iload_n (pc := 58) (q := 2) (by decide +kernel) rfl) <|
  jx_all1 (sd_icge (pc := 59) (off := 35) (by decide +kernel) (by decide +kernel)) <|
  jx_all1 (sd_iload_n (pc := 62) (q := 3) (by decide +kernel) rfl) <|
  jx_all1 (sd_iconst (pc := 63) (n := 1) (by decide +kernel) (by decide +kernel)) <|
  jx_all1 (sd_iload (pc := 64) (by decide +kernel)) <|
  jx_all1 (sd_ishl (pc := 66) (by decide +kernel)) <|
  jx_all1 (sd_iconst (pc := 67) (n := (-1)) (by decide +kernel) (by decide +kernel)) <|
  jx_all1 (sd_ixor (pc := 68) (by decide +kernel)) <|
  jx_all1 (sd_iand (pc := 69) (by decide +kernel)) <|
  jx_all1 (sd_istore (pc := 70) (by decide +kernel)) <|
  jx_all1 (sd_aload_n (pc := 72) (q := 0) (by decide +kernel) rfl) <|
  jx_all1 (sd_gR (pc := 73) kf_0 (f := 8) (q := (jx_f1 14 0)) (idx := 44) (by decide +kernel) rfl wd_309 rfl) <|
  jx_all1 (sd_iload (pc := 76) (by decide +kernel)) <|
  jx_all1 (sd_vI (pc := 78) (idx := 200) (kd := 14) (by decide +kernel) mf_44 wd_523 rfl rfl) <|
  jx_all1 (sd_iload_n (pc := 81) (q := 1) (by decide +kernel) rfl) <|
  jx_all1 (sd_icne (pc := 82) (off := 6) (by decide +kernel) (by decide +kernel)) <|
  jx_all1 (sd_iload (pc := 85) (by decide +kernel)) <|
  jx_all1 (sd_istore_n (pc := 87) (q := 3) (by decide +kernel) rfl) <|
  jx_all1 (sd_iinc (pc := 88) (n := 1) (by decide +kernel) (by decide +kernel)) <|
  jx_all1 (sd_goto (pc := 91) (off := (-35)) (by decide +kernel) (by decide +kernel)) <|
  jx_all1 (sd_aload_n (pc := 94) (q := 0) (by decide +kernel) rfl) <|
  jx_all1 (sd_gR (pc := 95) kf_0 (f := 0) (q := (jx_f1 1 0)) (idx := 12) (by decide +kernel) rfl wd_301 rfl) <|
  jx_all1 (sd_iload_n (pc := 98) (q := 3) (by decide +kernel) rfl) <|
  jx_all1 (sd_vV (pc := 99) (idx := 126) (kd := 1) (by decide +kernel) mf_18 wd_409 rfl rfl) <|
  jx_all1 (sd_iload_n (pc := 102) (q := 2) (by decide +kernel) rfl) <|
  jx_all1 (sd_aload_n (pc := 103) (q := 0) (by decide +kernel) rfl) <|
  jx_all1 (sd_gR (pc := 104) kf_0 (f := 0) (q := (jx_f1 1 0)) (idx := 12) (by decide +kernel) rfl wd_301 rfl) <|
  jx_all1 (sd_gI (pc := 107) kf_1 (f := 1) (q := jx_f0) (idx := 107) (by decide +kernel) rfl wd_85 rfl) <|
  jx_all1 (sd_isub (pc := 110) (by decide +kernel)) <|
  jx_all1 (sd_ireturn (pc := 111) (by decide +kernel) rfl) <|
  jx_all0
set_option maxRecDepth 100000 in
theorem sn_74 (D : jx_D) : jx_all (fun q => jx_Snd cX9_pack 1 RX9 (some .int) D q.1 q.2) (tb_74 D) := by
  unfold tb_74
  exact jx_all1 (sd_aload_n (pc := 0) (q := 0) (by decide +kernel) rfl) <|
  jx_all1 (sd_gR (pc := 1) kf_0 (f := 0) (q := (jx_f1 1 0)) (idx := 12) (by decide +kernel) rfl wd_301 rfl) <|
  jx_all1 (sd_gI (pc := 4) kf_1 (f := 2) (q := jx_f0) (idx := 212) (by decide +kernel) rfl wd_88 rfl) <|
  jx_all1 (sd_ifeq (pc := 7) (off := 10) (by decide +kernel) (by decide +kernel)) <|
  jx_all1 (sd_aload_n (pc := 10) (q := 0) (by decide +kernel) rfl) <|
  jx_all1 (sd_bipush (pc := 11) (n := (-8)) (by decide +kernel) (by decide +kernel)) <|
  jx_all1 (sd_vI (pc := 13) (idx := 95) (kd := 0) (by decide +kernel) mf_8 wd_370 rfl rfl) <|
  jx_all1 (sd_ireturn (pc := 16) (by decide +kernel) rfl) <|
  jx_all1 (sd_aload_n (pc := 17) (q := 0) (by decide +kernel) rfl) <|
  jx_all1 (sd_gR (pc := 18) kf_0 (f := 8) (q := (jx_f1 14 0)) (idx := 44) (by decide +kernel) rfl wd_309 rfl) <|
  jx_all1 (sd_aload_n (pc := 21) (q := 0) (by decide +kernel) rfl) <|
  jx_all1 (sd_gR (pc := 22) kf_0 (f := 0) (q := (jx_f1 1 0)) (idx := 12) (by decide +kernel) rfl wd_301 rfl) <|
  jx_all1 (sd_vV (pc := 25) (idx := 188) (kd := 14) (by decide +kernel) mf_38 wd_489 rfl rfl) <|
  jx_all1 (sd_aload_n (pc := 28) (q := 0) (by decide +kernel) rfl) <|
  jx_all1 (sd_gR (pc := 29) kf_0 (f := 11) (q := (jx_f1 22 0)) (idx := 65) (by decide +kernel) rfl wd_312 rfl) <|
  jx_all1 (sd_aload_n (pc := 32) (q := 0) (by decide +kernel) rfl) <|
  jx_all1 (sd_gR (pc := 33) kf_0 (f := 8) (q := (jx_f1 14 0)) (idx := 44) (by decide +kernel) rfl wd_309 rfl) <|
  jx_all1 (sd_vI (pc := 36) (idx := 252) (kd := 22) (by decide +kernel) mf_75 wd_653 rfl rfl) <|
  jx_all1 (sd_ireturn (pc := 39) (by decide +kernel) rfl) <|
  jx_all0
set_option maxRecDepth 100000 in
theorem sn_75 (D : jx_D) : jx_all (fun q => jx_Snd cX4_mostTrees 2 RX4 (some .int) D q.1 q.2) (tb_75 D) := by
  unfold tb_75
  exact jx_all1 (sd_aload_n (pc := 0) (q := 1) (by decide +kernel) rfl) <|
  jx_all1 (sd_gI (pc := 1) kf_14 (f := 0) (q := jx_f0) (idx := 19) (by decide +kernel) rfl wd_165 rfl) <|
  jx_all1 (sd_iconst (pc := 4) (n := 2) (by decide +kernel) (by decide +kernel)) <|
  jx_all1 (sd_icge (pc := 5) (off := 5) (by decide +kernel) (by decide +kernel)) <|
  jx_all1 (sd_iconst (pc := 8) (n := 0) (by decide +kernel) (by decide +kernel)) <|
  jx_all1 (sd_ireturn (pc := 9) (by decide +kernel) rfl) <|
  jx_all1 (sd_aload_n (pc := 10) (q := 0) (by decide +kernel) rfl) <|
  jx_all1 (sd_aload_n (pc := 11) (q := 1) (by decide +kernel) rfl) <|
  jx_all1 (sd_pM (pc := 12) kf_22 (f := 0) (q := (jx_f2 14 0)) (idx := 25) (by decide +kernel) rfl wd_252 rfl rfl rfl) <|
  jx_all1 (sd_aload_n (pc := 15) (q := 0) (by decide +kernel) rfl) <|
  jx_all1 (sd_aload_n (pc := 16) (q := 0) (by decide +kernel) rfl) <|
  jx_all1 (sd_gM (pc := 17) kf_22 (f := 0) (q := (jx_f2 14 0)) (idx := 25) (by decide +kernel) rfl wd_252 rfl) <|
  jx_all1 (sd_gI (pc := 20) kf_14 (f := 1) (q := jx_f0) (idx := 29) (by decide +kernel) rfl wd_168 rfl) <|
  jx_all1 (sd_pI (pc := 23) kf_22 (f := 1) (q := jx_f0) (idx := 32) (by decide +kernel) rfl wd_253 rfl rfl rfl) <|
  jx_all1 (sd_aload_n (pc := 26) (q := 0) (by decide +kernel) rfl) <|
  jx_all1 (sd_iconst (pc := 27) (n := 0) (by decide +kernel) (by decide +kernel)) <|
  jx_all1 (sd_iconst (pc := 28) (n := 0) (by decide +kernel) (by decide +kernel)) <|
  jx_all1 (sd_iconst (pc := 29) (n := 0) (by decide +kernel) (by decide +kernel)) <|
  jx_all1 (sd_vV (pc := 30) (idx := 35) (kd := 22) (by decide +kernel) mf_76 wd_657 rfl rfl) <|
  jx_all1 (sd_aload_n (pc := 33) (q := 0) (by decide +kernel) rfl) <|
  jx_all1 (sd_gI (pc := 34) kf_22 (f := 1) (q := jx_f0) (idx := 32) (by decide +kernel) rfl wd_253 rfl) <|
  jx_all1 (sd_ireturn (pc := 37) (by decide +kernel) rfl) <|
  jx_all0
set_option maxRecDepth 100000 in
theorem sn_76 (D : jx_D) : jx_all (fun q => jx_Snd cX4_part 10 RX4 none D q.1 q.2) (tb_76 D) := by
  unfold tb_76
  exact jx_all1 (sd_iload_n (pc := 0) (q := 2) (by decide +kernel) rfl) <|
  jx_all1 (sd_aload_n (pc := 1) (q := 0) (by decide +kernel) rfl) <|
  jx_all1 (sd_gM (pc := 2) kf_22 (f := 0) (q := (jx_f2 14 0)) (idx := 25) (by decide +kernel) rfl wd_252 rfl) <|
  jx_all1 (sd_gI (pc := 5) kf_14 (f := 0) (q := jx_f0) (idx := 19) (by decide +kernel) rfl wd_165 rfl) <|
  jx_all1 (sd_iadd (pc := 8) (by decide +kernel)) <|
  jx_all1 (sd_iload_n (pc := 9) (q := 1) (by decide +kernel) rfl) <|
  jx_all1 (sd_isub (pc := 10) (by decide +kernel)) <|
  jx_all1 (sd_istore (pc := 11) (by decide +kernel)) <|
  jx_all1 (sd_iload (pc := 13) (by decide +kernel)) <|
  jx_all1 (sd_iconst (pc := 15) (n := 2) (by decide +kernel) (by decide +kernel)) <|
  jx_all1 (sd_iclt (pc := 16) (off := 16) (by decide +kernel) (by decide +kernel)) <|
  jx_all1 (sd_iload_n (pc := 19) (q := 3) (by decide +kernel) rfl) <|
  jx_all1 (sd_iload (pc := 20) (by decide +kernel)) <|
  jx_all1 (sd_iconst (pc := 22) (n := 1) (by decide +kernel) (by decide +kernel)) <|
  jx_all1 (sd_isub (pc := 23) (by decide +kernel)) <|
  jx_all1 (sd_idiv (pc := 24) (by decide +kernel)) <|
  jx_all1 (sd_aload_n (pc := 25) (q := 0) (by decide +kernel) rfl) <|
  jx_all1 (sd_gI (pc := 26) kf_22 (f := 1) (q := jx_f0) (idx := 32) (by decide +kernel) rfl wd_253 rfl) <|
  jx_all1 (sd_iclt (pc := 29) (off := 4) (by decide +kernel) (by decide +kernel)) <|
  jx_all1 (sd_return (pc := 32) (by decide +kernel) rfl) <|
  jx_all1 (sd_iload_n (pc := 33) (q := 1) (by decide +kernel) rfl) <|
  jx_all1 (sd_aload_n (pc := 34) (q := 0) (by decide +kernel) rfl) <|
  jx_all1 (sd_gM (pc := 35) kf_22 (f := 0) (q := (jx_f2 14 0)) (idx := 25) (by decide +kernel) rfl wd_252 rfl) <|
  jx_all1 (sd_gI (pc := 38) kf_14 (f := 0) (q := jx_f0) (idx := 19) (by decide +kernel) rfl wd_165 rfl) <|
  jx_all1 (sd_iclt (pc := 41) (off := 13) (by decide +kernel) (by decide +kernel)) <|
  jx_all1 (sd_aload_n (pc := 44) (q := 0) (by decide +kernel) rfl) <|
  jx_all1 (sd_iload_n (pc := 45) (q := 3) (by decide +kernel) rfl) <|
  jx_all1 (sd_iload_n (pc := 46) (q := 2) (by decide +kernel) rfl) <|
  jx_all1 (sd_iconst (pc := 47) (n := 1) (by decide +kernel) (by decide +kernel)) <|
  jx_all1 (sd_isub (pc := 48) (by decide +kernel)) <|
  jx_all1 (sd_idiv (pc := 49) (by decide +kernel)) <|
  jx_all1 (sd_pI (pc := 50) kf_22 (f := 1) (q := jx_f0) (idx := 32) (by decide +kernel) rfl wd_253 rfl rfl rfl) <|
  jx_all1 (sd_return (pc := 53) (by decide +kernel) rfl) <|
  jx_all1 (sd_iload_n (pc := 54) (q := 1) (by decide +kernel) rfl) <|
  jx_all1 (sd_cI (pc := 55) (idx := 39) (by decide +kernel) mf_17 (Or.inr ⟨RX9, by decide +kernel⟩)) <|
  jx_all1 (sd_istore (pc := 58) (by decide +kernel)) <|
  jx_all1 (sd_iconst (pc := 60) (n := 0) (by decide +kernel) (by decide +kernel)) <|
  jx_all1 (sd_istore (pc := 61) (by decide +kernel)) <|
  jx_all1 (sd_iload (pc := 63) (by decide +kernel)) <|
  jx_all1 (sd_iload_n (pc := 65) (q := 2) (by decide +kernel) rfl) <|
  jx_all1 (sd_icgt (pc := 66) (off := 114) (by decide +kernel) (by decide +kernel)) <|
  jx_all1 (sd_iload (pc := 69) (by decide +kernel)) <|
  jx_all1 (sd_bipush (pc := 71) (n := 8) (by decide +kernel) (by decide +kernel)) <|
  jx_all1 (sd_icge (pc := 73) (off := 107) (by decide +kernel) (by decide +kernel)) <|
  jx_all1 (sd_iload (pc := 76) (by decide +kernel)) <|
  jx_all1 (sd_iload_n (pc := 78) (q := 2) (by decide +kernel) rfl) <|
  jx_all1 (sd_icne (pc := 79) (off := 7) (by decide +kernel) (by decide +kernel)) <|
  jx_all1 (sd_iconst (pc := 82) (n := 1) (by decide +kernel) (by decide +kernel)) <|
  jx_all1 (sd_goto (pc := 83) (off := 4) (by decide +kernel) (by decide +kernel)) <|
  jx_all1 (sd_iconst (pc := 86) (n := 0) (by decide +kernel) (by decide +kernel)) <|
  jx_all1 (sd_istore (pc := 87) (by decide +kernel)) <|
  jx_all1 (sd_iload (pc := 89) (by decide +kernel)) <|
  jx_all1 (sd_ifeq (pc := 91) (off := 7) (by decide +kernel) (by decide +kernel)) <|
  jx_all1 (sd_iconst (pc := 94) (n := 0) (by decide +kernel) (by decide +kernel)) <|
  jx_all1 (sd_goto (pc := 95) (off := 10) (by decide +kernel) (by decide +kernel)) <|
  jx_all1 (sd_aload_n (pc := 98) (q := 0) (by decide +kernel) rfl) <|
  jx_all1 (sd_gR (pc := 99) kf_22 (f := 2) (q := (jx_f1 23 0)) (idx := 9) (by decide +kernel) rfl wd_254 rfl) <|
  jx_all1 (sd_iload (pc := 102) (by decide +kernel)) <|
  jx_all1 (sd_iaload (pc := 104) (by decide +kernel)) <|
  jx_all1 (sd_istore (pc := 105) (by decide +kernel)) <|
  jx_all1 (sd_aload_n (pc := 107) (q := 0) (by decide +kernel) rfl) <|
  jx_all1 (sd_gM (pc := 108) kf_22 (f := 0) (q := (jx_f2 14 0)) (idx := 25) (by decide +kernel) rfl wd_252 rfl) <|
  jx_all1 (sd_iconst (pc := 111) (n := 1) (by decide +kernel) (by decide +kernel)) <|
  jx_all1 (sd_iload_n (pc := 112) (q := 1) (by decide +kernel) rfl) <|
  jx_all1 (sd_ishl (pc := 113) (by decide +kernel)) <|
  jx_all1 (sd_iload (pc := 114) (by decide +kernel)) <|
  jx_all1 (sd_iload (pc := 116) (by decide +kernel)) <|
  jx_all1 (sd_iconst (pc := 118) (n := (-1)) (by decide +kernel) (by decide +kernel)) <|
  jx_all1 (sd_ixor (pc := 119) (by decide +kernel)) <|
  jx_all1 (sd_iand (pc := 120) (by decide +kernel)) <|
  jx_all1 (sd_vI (pc := 121) (idx := 43) (kd := 14) (by decide +kernel) mf_50 wd_662 rfl rfl) <|
  jx_all1 (sd_cI (pc := 124) (idx := 47) (by decide +kernel) mf_1 (Or.inl wd_663)) <|
  jx_all1 (sd_istore (pc := 127) (by decide +kernel)) <|
  jx_all1 (sd_aload_n (pc := 129) (q := 0) (by decide +kernel) rfl) <|
  jx_all1 (sd_gR (pc := 130) kf_22 (f := 2) (q := (jx_f1 23 0)) (idx := 9) (by decide +kernel) rfl wd_254 rfl) <|
  jx_all1 (sd_iload (pc := 133) (by decide +kernel)) <|
  jx_all1 (sd_iload (pc := 135) (by decide +kernel)) <|
  jx_all1 (sd_iconst (pc := 137) (n := 1) (by decide +kernel) (by decide +kernel)) <|
  jx_all1 (sd_iload_n (pc := 138) (q := 1) (by decide +kernel) rfl) <|
  jx_all1 (sd_ishl (pc := 139) (by decide +kernel)) <|
  jx_all1 (sd_ior (pc := 140) (by decide +kernel)) <|
  jx_all1 (sd_iastore (pc := 141) (by decide +kernel)) <|
  jx_all1 (sd_aload_n (pc := 142) (q := 0) (by decide +kernel) rfl) <|
  jx_all1 (sd_iload_n (pc := 143) (q := 1) (by decide +kernel) rfl) <|
  jx_all1 (sd_iconst (pc := 144) (n := 1) (by decide +kernel) (by decide +kernel)) <|
  jx_all1 (sd_iadd (pc := 145) (by decide +kernel)) <|
  jx_all1 (sd_iload (pc := 146) (by decide +kernel)) <|
  jx_all1 (sd_ifeq (pc := 148) (off := 9) (by decide +kernel) (by decide +kernel)) <|
  jx_all1 (sd_iload_n (pc := 151) (q := 2) (by decide +kernel) rfl) <|
  jx_all1 (sd_iconst (pc := 152) (n := 1) (by decide +kernel) (by decide +kernel)) <|
  jx_all1 (sd_iadd (pc := 153) (by decide +kernel)) <|
  jx_all1 (sd_goto (pc := 154) (off := 4) (by decide +kernel) (by decide +kernel)) <|
  jx_all1 (sd_iload_n (pc := 157) (q := 2) (by decide +kernel) rfl) <|
  jx_all1 (sd_iload_n (pc := 158) (q := 3) (by decide +kernel) rfl) <|
  jx_all1 (sd_iload (pc := 159) (by decide +kernel)) <|
  jx_all1 (sd_iadd (pc := 161) (by decide +kernel)) <|
  jx_all1 (sd_vV (pc := 162) (idx := 35) (kd := 22) (by decide +kernel) mf_76 wd_657 rfl rfl) <|
  jx_all1 (sd_aload_n (pc := 165) (q := 0) (by decide +kernel) rfl) <|
  jx_all1 (sd_gR (pc := 166) kf_22 (f := 2) (q := (jx_f1 23 0)) (idx := 9) (by decide +kernel) rfl wd_254 rfl) <|
  jx_all1 (sd_iload (pc := 169) (by decide +kernel)) <|
  jx_all1 (sd_iload (pc := 171) (by decide +kernel)) <|
  jx_all1 (sd_iastore (pc := 173) (by decide +kernel)) <|
  jx_all1 (sd_iinc (pc := 174) (n := 1) (by decide +kernel) (by decide +kernel)) <|
  jx_all1 (sd_goto (pc := 177) (off := (-114)) (by decide +kernel) (by decide +kernel)) <|
  jx_all1 (sd_return (pc := 180) (by decide +kernel) rfl) <|
  jx_all0
set_option maxRecDepth 100000 in
theorem sn_77 (D : jx_D) : jx_all (fun q => jx_Snd cX9_forests 1 RX9 (some .int) D q.1 q.2) (tb_77 D) := by
  unfold tb_77
  exact jx_all1 (sd_aload_n (pc := 0) (q := 0) (by decide +kernel) rfl) <|
  jx_all1 (sd_gR (pc := 1) kf_0 (f := 0) (q := (jx_f1 1 0)) (idx := 12) (by decide +kernel) rfl wd_301 rfl) <|
  jx_all1 (sd_gI (pc := 4) kf_1 (f := 2) (q := jx_f0) (idx := 212) (by decide +kernel) rfl wd_88 rfl) <|
  jx_all1 (sd_ifeq (pc := 7) (off := 10) (by decide +kernel) (by decide +kernel)) <|
  jx_all1 (sd_aload_n (pc := 10) (q := 0) (by decide +kernel) rfl) <|
  jx_all1 (sd_bipush (pc := 11) (n := (-8)) (by decide +kernel) (by decide +kernel)) <|
  jx_all1 (sd_vI (pc := 13) (idx := 95) (kd := 0) (by decide +kernel) mf_8 wd_370 rfl rfl) <|
  jx_all1 (sd_ireturn (pc := 16) (by decide +kernel) rfl) <|
  jx_all1 (sd_aload_n (pc := 17) (q := 0) (by decide +kernel) rfl) <|
  jx_all1 (sd_gR (pc := 18) kf_0 (f := 8) (q := (jx_f1 14 0)) (idx := 44) (by decide +kernel) rfl wd_309 rfl) <|
  jx_all1 (sd_aload_n (pc := 21) (q := 0) (by decide +kernel) rfl) <|
  jx_all1 (sd_gR (pc := 22) kf_0 (f := 0) (q := (jx_f1 1 0)) (idx := 12) (by decide +kernel) rfl wd_301 rfl) <|
  jx_all1 (sd_vV (pc := 25) (idx := 188) (kd := 14) (by decide +kernel) mf_38 wd_489 rfl rfl) <|
  jx_all1 (sd_aload_n (pc := 28) (q := 0) (by decide +kernel) rfl) <|
  jx_all1 (sd_gR (pc := 29) kf_0 (f := 11) (q := (jx_f1 22 0)) (idx := 65) (by decide +kernel) rfl wd_312 rfl) <|
  jx_all1 (sd_aload_n (pc := 32) (q := 0) (by decide +kernel) rfl) <|
  jx_all1 (sd_gR (pc := 33) kf_0 (f := 8) (q := (jx_f1 14 0)) (idx := 44) (by decide +kernel) rfl wd_309 rfl) <|
  jx_all1 (sd_vI (pc := 36) (idx := 256) (kd := 22) (by decide +kernel) mf_78 wd_668 rfl rfl) <|
  jx_all1 (sd_ireturn (pc := 39) (by decide +kernel) rfl) <|
  jx_all0
set_option maxRecDepth 100000 in
theorem sn_78 (D : jx_D) : jx_all (fun q => jx_Snd cX4_fewestForests 6 RX4 (some .int) D q.1 q.2) (tb_78 D) := by
  unfold tb_78
  exact jx_all1 (sd_iconst (pc := 0) (n := 0) (by decide +kernel) (by decide +kernel)) <|
  jx_all1 (sd_istore_n (pc := 1) (q := 2) (by decide +kernel) rfl) <|
  jx_all1 (sd_iconst (pc := 2) (n := 1) (by decide +kernel) (by decide +kernel)) <|
  jx_all1 (sd_istore_n (pc := 3) (q := 3) (by decide +kernel) rfl) <|
  jx_all1 (sd_iload_n (pc := 4) (q := 3) (by decide +kernel) rfl) <|
  jx_all1 (sd_aload_n (pc := 5) (q := 1) (by decide +kernel) rfl) <|
  jx_all1 (sd_gI (pc := 6) kf_14 (f := 3) (q := jx_f0) (idx := 52) (by decide +kernel) rfl wd_174 rfl) <|
  jx_all1 (sd_icgt (pc := 9) (off := 55) (by decide +kernel) (by decide +kernel)) <|
  jx_all1 (sd_iload_n (pc := 12) (q := 3) (by decide +kernel) rfl) <|
  jx_all1 (sd_cI (pc := 13) (idx := 47) (by decide +kernel) mf_1 (Or.inl wd_663)) <|
  jx_all1 (sd_iconst (pc := 16) (n := 1) (by decide +kernel) (by decide +kernel)) <|
  jx_all1 (sd_isub (pc := 17) (by decide +kernel)) <|
  jx_all1 (sd_istore (pc := 18) (by decide +kernel)) <|
  jx_all1 (sd_iload (pc := 20) (by decide +kernel)) <|
  jx_all1 (sd_ifle (pc := 22) (off := 36) (by decide +kernel) (by decide +kernel)) <|
  jx_all1 (sd_aload_n (pc := 25) (q := 1) (by decide +kernel) rfl) <|
  jx_all1 (sd_gR (pc := 26) kf_14 (f := 7) (q := (jx_f1 15 0)) (idx := 55) (by decide +kernel) rfl wd_183 rfl) <|
  jx_all1 (sd_iload_n (pc := 29) (q := 3) (by decide +kernel) rfl) <|
  jx_all1 (sd_iaload (pc := 30) (by decide +kernel)) <|
  jx_all1 (sd_aload_n (pc := 31) (q := 1) (by decide +kernel) rfl) <|
  jx_all1 (sd_gR (pc := 32) kf_14 (f := 8) (q := (jx_f1 16 0)) (idx := 58) (by decide +kernel) rfl wd_186 rfl) <|
  jx_all1 (sd_iload_n (pc := 35) (q := 3) (by decide +kernel) rfl) <|
  jx_all1 (sd_iaload (pc := 36) (by decide +kernel)) <|
  jx_all1 (sd_iand (pc := 37) (by decide +kernel)) <|
  jx_all1 (sd_cI (pc := 38) (idx := 47) (by decide +kernel) mf_1 (Or.inl wd_663)) <|
  jx_all1 (sd_istore (pc := 41) (by decide +kernel)) <|
  jx_all1 (sd_iload_n (pc := 43) (q := 2) (by decide +kernel) rfl) <|
  jx_all1 (sd_iload (pc := 44) (by decide +kernel)) <|
  jx_all1 (sd_iload (pc := 46) (by decide +kernel)) <|
  jx_all1 (sd_iadd (pc := 48) (by decide +kernel)) <|
  jx_all1 (sd_iconst (pc := 49) (n := 1) (by decide +kernel) (by decide +kernel)) <|
  jx_all1 (sd_isub (pc := 50) (by decide +kernel)) <|
  jx_all1 (sd_iload (pc := 51) (by decide +kernel)) <|
  jx_all1 (sd_idiv (pc := 53) (by decide +kernel)) <|
  jx_all1 (sd_mmax (pc := 54) (idx := 61) (by decide +kernel) wd_672 wd_625 wd_61 wd_626) <|
  jx_all1 (sd_istore_n (pc := 57) (q := 2) (by decide +kernel) rfl) <|
  jx_all1 (sd_iinc (pc := 58) (n := 1) (by decide +kernel) (by decide +kernel)) <|
  jx_all1 (sd_goto (pc := 61) (off := (-57)) (by decide +kernel) (by decide +kernel)) <|
  jx_all1 (sd_iload_n (pc := 64) (q := 2) (by decide +kernel) rfl) <|
  jx_all1 (sd_ireturn (pc := 65) (by decide +kernel) rfl) <|
  jx_all0
set_option maxRecDepth 100000 in
theorem sn_79 (D : jx_D) : jx_all (fun q => jx_Snd cX9_trees 1 RX9 (some .long) D q.1 q.2) (tb_79 D) := by
  unfold tb_79
  exact jx_all1 (sd_aload_n (pc := 0) (q := 0) (by decide +kernel) rfl) <|
  jx_all1 (sd_gR (pc := 1) kf_0 (f := 0) (q := (jx_f1 1 0)) (idx := 12) (by decide +kernel) rfl wd_301 rfl) <|
  jx_all1 (sd_gI (pc := 4) kf_1 (f := 2) (q := jx_f0) (idx := 212) (by decide +kernel) rfl wd_88 rfl) <|
  jx_all1 (sd_ifeq (pc := 7) (off := 11) (by decide +kernel) (by decide +kernel)) <|
  jx_all1 (sd_aload_n (pc := 10) (q := 0) (by decide +kernel) rfl) <|
  jx_all1 (sd_bipush (pc := 11) (n := (-8)) (by decide +kernel) (by decide +kernel)) <|
  jx_all1 (sd_vI (pc := 13) (idx := 95) (kd := 0) (by decide +kernel) mf_8 wd_370 rfl rfl) <|
  jx_all1 (sd_i2l (pc := 16) (by decide +kernel)) <|
  jx_all1 (sd_lreturn (pc := 17) (by decide +kernel) rfl) <|
  jx_all1 (sd_aload_n (pc := 18) (q := 0) (by decide +kernel) rfl) <|
  jx_all1 (sd_gR (pc := 19) kf_0 (f := 8) (q := (jx_f1 14 0)) (idx := 44) (by decide +kernel) rfl wd_309 rfl) <|
  jx_all1 (sd_aload_n (pc := 22) (q := 0) (by decide +kernel) rfl) <|
  jx_all1 (sd_gR (pc := 23) kf_0 (f := 0) (q := (jx_f1 1 0)) (idx := 12) (by decide +kernel) rfl wd_301 rfl) <|
  jx_all1 (sd_vV (pc := 26) (idx := 188) (kd := 14) (by decide +kernel) mf_38 wd_489 rfl rfl) <|
  jx_all1 (sd_aload_n (pc := 29) (q := 0) (by decide +kernel) rfl) <|
  jx_all1 (sd_gR (pc := 30) kf_0 (f := 11) (q := (jx_f1 22 0)) (idx := 65) (by decide +kernel) rfl wd_312 rfl) <|
  jx_all1 (sd_aload_n (pc := 33) (q := 0) (by decide +kernel) rfl) <|
  jx_all1 (sd_gR (pc := 34) kf_0 (f := 8) (q := (jx_f1 14 0)) (idx := 44) (by decide +kernel) rfl wd_309 rfl) <|
  jx_all1 (sd_vL (pc := 37) (idx := 259) (kd := 22) (by decide +kernel) mf_80 wd_677 rfl rfl) <|
  jx_all1 (sd_lreturn (pc := 40) (by decide +kernel) rfl) <|
  jx_all0
set_option maxRecDepth 100000 in
theorem sn_80 (D : jx_D) : jx_all (fun q => jx_Snd cX4_howManyTrees 3 RX4 (some .long) D q.1 q.2) (tb_80 D) := by
  unfold tb_80
  exact jx_all1 (sd_aload_n (pc := 0) (q := 1) (by decide +kernel) rfl) <|
  jx_all1 (sd_gI (pc := 1) kf_14 (f := 0) (q := jx_f0) (idx := 19) (by decide +kernel) rfl wd_165 rfl) <|
  jx_all1 (sd_ifne (pc := 4) (off := 5) (by decide +kernel) (by decide +kernel)) <|
  jx_all1 (sd_lconst (pc := 7) (n := 0) (by decide +kernel) (by decide +kernel)) <|
  jx_all1 (sd_lreturn (pc := 8) (by decide +kernel) rfl) <|
  jx_all1 (sd_iconst (pc := 9) (n := 1) (by decide +kernel) (by decide +kernel)) <|
  jx_all1 (sd_istore_n (pc := 10) (q := 2) (by decide +kernel) rfl) <|
  jx_all1 (sd_iload_n (pc := 11) (q := 2) (by decide +kernel) rfl) <|
  jx_all1 (sd_aload_n (pc := 12) (q := 1) (by decide +kernel) rfl) <|
  jx_all1 (sd_gI (pc := 13) kf_14 (f := 3) (q := jx_f0) (idx := 52) (by decide +kernel) rfl wd_174 rfl) <|
  jx_all1 (sd_icgt (pc := 16) (off := 21) (by decide +kernel) (by decide +kernel)) <|
  jx_all1 (sd_aload_n (pc := 19) (q := 0) (by decide +kernel) rfl) <|
  jx_all1 (sd_gR (pc := 20) kf_22 (f := 3) (q := (jx_f1 24 0)) (idx := 15) (by decide +kernel) rfl wd_255 rfl) <|
  jx_all1 (sd_iload_n (pc := 23) (q := 2) (by decide +kernel) rfl) <|
  jx_all1 (sd_aload_n (pc := 24) (q := 0) (by decide +kernel) rfl) <|
  jx_all1 (sd_aload_n (pc := 25) (q := 1) (by decide +kernel) rfl) <|
  jx_all1 (sd_iload_n (pc := 26) (q := 2) (by decide +kernel) rfl) <|
  jx_all1 (sd_vL (pc := 27) (idx := 66) (kd := 22) (by decide +kernel) mf_81 wd_681 rfl rfl) <|
  jx_all1 (sd_lastore (pc := 30) (by decide +kernel)) <|
  jx_all1 (sd_iinc (pc := 31) (n := 1) (by decide +kernel) (by decide +kernel)) <|
  jx_all1 (sd_goto (pc := 34) (off := (-23)) (by decide +kernel) (by decide +kernel)) <|
  jx_all1 (sd_aload_n (pc := 37) (q := 0) (by decide +kernel) rfl) <|
  jx_all1 (sd_gR (pc := 38) kf_22 (f := 3) (q := (jx_f1 24 0)) (idx := 15) (by decide +kernel) rfl wd_255 rfl) <|
  jx_all1 (sd_aload_n (pc := 41) (q := 1) (by decide +kernel) rfl) <|
  jx_all1 (sd_gI (pc := 42) kf_14 (f := 3) (q := jx_f0) (idx := 52) (by decide +kernel) rfl wd_174 rfl) <|
  jx_all1 (sd_laload (pc := 45) (by decide +kernel)) <|
  jx_all1 (sd_lreturn (pc := 46) (by decide +kernel) rfl) <|
  jx_all0
set_option maxRecDepth 100000 in
theorem sn_81 (D : jx_D) : jx_all (fun q => jx_Snd cX4_treesWithin 10 RX4 (some .long) D q.1 q.2) (tb_81 D) := by
  unfold tb_81
  exact jx_all1 (sd_iload_n (pc := 0) (q := 2) (by decide +kernel) rfl) <|
  jx_all1 (sd_iload_n (pc := 1) (q := 2) (by decide +kernel) rfl) <|
  jx_all1 (sd_ineg (pc := 2) (by decide +kernel)) <|
  jx_all1 (sd_iand (pc := 3) (by decide +kernel)) <|
  jx_all1 (sd_istore_n (pc := 4) (q := 3) (by decide +kernel) rfl) <|
  jx_all1 (sd_iload_n (pc := 5) (q := 2) (by decide +kernel) rfl) <|
  jx_all1 (sd_iload_n (pc := 6) (q := 3) (by decide +kernel) rfl) <|
  jx_all1 (sd_ixor (pc := 7) (by decide +kernel)) <|
  jx_all1 (sd_istore (pc := 8) (by decide +kernel)) <|
  jx_all1 (sd_iload (pc := 10) (by decide +kernel)) <|
  jx_all1 (sd_ifne (pc := 12) (off := 5) (by decide +kernel) (by decide +kernel)) <|
  jx_all1 (sd_lconst (pc := 15) (n := 1) (by decide +kernel) (by decide +kernel)) <|
  jx_all1 (sd_lreturn (pc := 16) (by decide +kernel) rfl) <|
  jx_all1 (sd_iload (pc := 17) (by decide +kernel)) <|
  jx_all1 (sd_iload (pc := 19) (by decide +kernel)) <|
  jx_all1 (sd_ineg (pc := 21) (by decide +kernel)) <|
  jx_all1 (sd_iand (pc := 22) (by decide +kernel)) <|
  jx_all1 (sd_istore (pc := 23) (by decide +kernel)) <|
  jx_all1 (sd_iload (pc := 25) (by decide +kernel)) <|
  jx_all1 (sd_iload (pc := 27) (by decide +kernel)) <|
  jx_all1 (sd_ixor (pc := 29) (by decide +kernel)) <|
  jx_all1 (sd_istore (pc := 30) (by decide +kernel)) <|
  jx_all1 (sd_aload_n (pc := 32) (q := 0) (by decide +kernel) rfl) <|
  jx_all1 (sd_aload_n (pc := 33) (q := 1) (by decide +kernel) rfl) <|
  jx_all1 (sd_iload_n (pc := 34) (q := 3) (by decide +kernel) rfl) <|
  jx_all1 (sd_iload (pc := 35) (by decide +kernel)) <|
  jx_all1 (sd_iload_n (pc := 37) (q := 2) (by decide +kernel) rfl) <|
  jx_all1 (sd_vL (pc := 38) (idx := 70) (kd := 22) (by decide +kernel) mf_82 wd_685 rfl rfl) <|
  jx_all1 (sd_lstore (pc := 41) (by decide +kernel)) <|
  jx_all1 (sd_iload (pc := 43) (by decide +kernel)) <|
  jx_all1 (sd_istore (pc := 45) (by decide +kernel)) <|
  jx_all1 (sd_iload (pc := 47) (by decide +kernel)) <|
  jx_all1 (sd_ifle (pc := 49) (off := 32) (by decide +kernel) (by decide +kernel)) <|
  jx_all1 (sd_lload (pc := 52) (by decide +kernel)) <|
  jx_all1 (sd_aload_n (pc := 54) (q := 0) (by decide +kernel) rfl) <|
  jx_all1 (sd_aload_n (pc := 55) (q := 1) (by decide +kernel) rfl) <|
  jx_all1 (sd_iload_n (pc := 56) (q := 3) (by decide +kernel) rfl) <|
  jx_all1 (sd_iload (pc := 57) (by decide +kernel)) <|
  jx_all1 (sd_iload (pc := 59) (by decide +kernel)) <|
  jx_all1 (sd_ior (pc := 61) (by decide +kernel)) <|
  jx_all1 (sd_iload_n (pc := 62) (q := 2) (by decide +kernel) rfl) <|
  jx_all1 (sd_vL (pc := 63) (idx := 70) (kd := 22) (by decide +kernel) mf_82 wd_685 rfl rfl) <|
  jx_all1 (sd_ladd (pc := 66) (by decide +kernel)) <|
  jx_all1 (sd_lstore (pc := 67) (by decide +kernel)) <|
  jx_all1 (sd_iload (pc := 69) (by decide +kernel)) <|
  jx_all1 (sd_iconst (pc := 71) (n := 1) (by decide +kernel) (by decide +kernel)) <|
  jx_all1 (sd_isub (pc := 72) (by decide +kernel)) <|
  jx_all1 (sd_iload (pc := 73) (by decide +kernel)) <|
  jx_all1 (sd_iand (pc := 75) (by decide +kernel)) <|
  jx_all1 (sd_istore (pc := 76) (by decide +kernel)) <|
  jx_all1 (sd_goto (pc := 78) (off := (-31)) (by decide +kernel) (by decide +kernel)) <|
  jx_all1 (sd_lload (pc := 81) (by decide +kernel)) <|
  jx_all1 (sd_lreturn (pc := 83) (by decide +kernel) rfl) <|
  jx_all0
set_option maxRecDepth 100000 in
theorem sn_82 (D : jx_D) : jx_all (fun q => jx_Snd cX4_treesByBranch 6 RX4 (some .long) D q.1 q.2) (tb_82 D) := by
  unfold tb_82
  exact jx_all1 (sd_aload_n (pc := 0) (q := 1) (by decide +kernel) rfl) <|
  jx_all1 (sd_iload_n (pc := 1) (q := 2) (by decide +kernel) rfl) <|
  jx_all1 (sd_iload_n (pc := 2) (q := 3) (by decide +kernel) rfl) <|
  jx_all1 (sd_vI (pc := 3) (idx := 43) (kd := 14) (by decide +kernel) mf_50 wd_662 rfl rfl) <|
  jx_all1 (sd_cI (pc := 6) (idx := 47) (by decide +kernel) mf_1 (Or.inl wd_663)) <|
  jx_all1 (sd_istore (pc := 9) (by decide +kernel)) <|
  jx_all1 (sd_iload (pc := 11) (by decide +kernel)) <|
  jx_all1 (sd_i2l (pc := 13) (by decide +kernel)) <|
  jx_all1 (sd_aload_n (pc := 14) (q := 0) (by decide +kernel) rfl) <|
  jx_all1 (sd_gR (pc := 15) kf_22 (f := 3) (q := (jx_f1 24 0)) (idx := 15) (by decide +kernel) rfl wd_255 rfl) <|
  jx_all1 (sd_iload_n (pc := 18) (q := 3) (by decide +kernel) rfl) <|
  jx_all1 (sd_laload (pc := 19) (by decide +kernel)) <|
  jx_all1 (sd_lmul (pc := 20) (by decide +kernel)) <|
  jx_all1 (sd_aload_n (pc := 21) (q := 0) (by decide +kernel) rfl) <|
  jx_all1 (sd_gR (pc := 22) kf_22 (f := 3) (q := (jx_f1 24 0)) (idx := 15) (by decide +kernel) rfl wd_255 rfl) <|
  jx_all1 (sd_iload (pc := 25) (by decide +kernel)) <|
  jx_all1 (sd_iload_n (pc := 27) (q := 3) (by decide +kernel) rfl) <|
  jx_all1 (sd_ixor (pc := 28) (by decide +kernel)) <|
  jx_all1 (sd_laload (pc := 29) (by decide +kernel)) <|
  jx_all1 (sd_lmul (pc := 30) (by decide +kernel)) <|
  jx_all1 (sd_lreturn (pc := 31) (by decide +kernel) rfl) <|
  jx_all0
set_option maxRecDepth 100000 in
theorem sn_83 (D : jx_D) : jx_all (fun q => jx_Snd cX9_arms 2 RX9 (some .int) D q.1 q.2) (tb_83 D) := by
  unfold tb_83
  exact jx_all1 (sd_aload_n (pc := 0) (q := 0) (by decide +kernel) rfl) <|
  jx_all1 (sd_iload_n (pc := 1) (q := 1) (by decide +kernel) rfl) <|
  jx_all1 (sd_vI (pc := 2) (idx := 130) (kd := 0) (by decide +kernel) mf_12 wd_386 rfl rfl) <|
  jx_all1 (sd_ifeq (pc := 5) (off := 9) (by decide +kernel) (by decide +kernel)) <|
  jx_all1 (sd_aload_n (pc := 8) (q := 0) (by decide +kernel) rfl) <|
  jx_all1 (sd_iconst (pc := 9) (n := (-1)) (by decide +kernel) (by decide +kernel)) <|
  jx_all1 (sd_vI (pc := 10) (idx := 95) (kd := 0) (by decide +kernel) mf_8 wd_370 rfl rfl) <|
  jx_all1 (sd_ireturn (pc := 13) (by decide +kernel) rfl) <|
  jx_all1 (sd_aload_n (pc := 14) (q := 0) (by decide +kernel) rfl) <|
  jx_all1 (sd_gR (pc := 15) kf_0 (f := 0) (q := (jx_f1 1 0)) (idx := 12) (by decide +kernel) rfl wd_301 rfl) <|
  jx_all1 (sd_gI (pc := 18) kf_1 (f := 2) (q := jx_f0) (idx := 212) (by decide +kernel) rfl wd_88 rfl) <|
  jx_all1 (sd_ifne (pc := 21) (off := 10) (by decide +kernel) (by decide +kernel)) <|
  jx_all1 (sd_aload_n (pc := 24) (q := 0) (by decide +kernel) rfl) <|
  jx_all1 (sd_bipush (pc := 25) (n := (-4)) (by decide +kernel) (by decide +kernel)) <|
  jx_all1 (sd_vI (pc := 27) (idx := 95) (kd := 0) (by decide +kernel) mf_8 wd_370 rfl rfl) <|
  jx_all1 (sd_ireturn (pc := 30) (by decide +kernel) rfl) <|
  jx_all1 (sd_aload_n (pc := 31) (q := 0) (by decide +kernel) rfl) <|
  jx_all1 (sd_gR (pc := 32) kf_0 (f := 0) (q := (jx_f1 1 0)) (idx := 12) (by decide +kernel) rfl wd_301 rfl) <|
  jx_all1 (sd_gI (pc := 35) kf_1 (f := 0) (q := jx_f0) (idx := 83) (by decide +kernel) rfl wd_79 rfl) <|
  jx_all1 (sd_iconst (pc := 38) (n := 1) (by decide +kernel) (by decide +kernel)) <|
  jx_all1 (sd_icne (pc := 39) (off := 10) (by decide +kernel) (by decide +kernel)) <|
  jx_all1 (sd_aload_n (pc := 42) (q := 0) (by decide +kernel) rfl) <|
  jx_all1 (sd_bipush (pc := 43) (n := (-3)) (by decide +kernel) (by decide +kernel)) <|
  jx_all1 (sd_vI (pc := 45) (idx := 95) (kd := 0) (by decide +kernel) mf_8 wd_370 rfl rfl) <|
  jx_all1 (sd_ireturn (pc := 48) (by decide +kernel) rfl) <|
  jx_all1 (sd_aload_n (pc := 49) (q := 0) (by decide +kernel) rfl) <|
  jx_all1 (sd_gR (pc := 50) kf_0 (f := 8) (q := (jx_f1 14 0)) (idx := 44) (by decide +kernel) rfl wd_309 rfl) <|
  jx_all1 (sd_aload_n (pc := 53) (q := 0) (by decide +kernel) rfl) <|
  jx_all1 (sd_gR (pc := 54) kf_0 (f := 0) (q := (jx_f1 1 0)) (idx := 12) (by decide +kernel) rfl wd_301 rfl) <|
  jx_all1 (sd_vV (pc := 57) (idx := 188) (kd := 14) (by decide +kernel) mf_38 wd_489 rfl rfl) <|
  jx_all1 (sd_aload_n (pc := 60) (q := 0) (by decide +kernel) rfl) <|
  jx_all1 (sd_gR (pc := 61) kf_0 (f := 8) (q := (jx_f1 14 0)) (idx := 44) (by decide +kernel) rfl wd_309 rfl) <|
  jx_all1 (sd_iload_n (pc := 64) (q := 1) (by decide +kernel) rfl) <|
  jx_all1 (sd_vI (pc := 65) (idx := 263) (kd := 14) (by decide +kernel) mf_84 wd_693 rfl rfl) <|
  jx_all1 (sd_ireturn (pc := 68) (by decide +kernel) rfl) <|
  jx_all0
set_option maxRecDepth 100000 in
theorem sn_84 (D : jx_D) : jx_all (fun q => jx_Snd cX6_leastHoldFrom 4 RX6 (some .int) D q.1 q.2) (tb_84 D) := by
  unfold tb_84
  exact jx_all1 (sd_aload_n (pc := 0) (q := 0) (by decide +kernel) rfl) <|
  jx_all1 (sd_gI (pc := 1) kf_14 (f := 1) (q := jx_f0) (idx := 34) (by decide +kernel) rfl wd_167 rfl) <|
  jx_all1 (sd_istore_n (pc := 4) (q := 2) (by decide +kernel) rfl) <|
  jx_all1 (sd_iconst (pc := 5) (n := 1) (by decide +kernel) (by decide +kernel)) <|
  jx_all1 (sd_istore_n (pc := 6) (q := 3) (by decide +kernel) rfl) <|
  jx_all1 (sd_iload_n (pc := 7) (q := 3) (by decide +kernel) rfl) <|
  jx_all1 (sd_aload_n (pc := 8) (q := 0) (by decide +kernel) rfl) <|
  jx_all1 (sd_gI (pc := 9) kf_14 (f := 3) (q := jx_f0) (idx := 44) (by decide +kernel) rfl wd_173 rfl) <|
  jx_all1 (sd_icge (pc := 12) (off := 31) (by decide +kernel) (by decide +kernel)) <|
  jx_all1 (sd_iload_n (pc := 15) (q := 3) (by decide +kernel) rfl) <|
  jx_all1 (sd_iload_n (pc := 16) (q := 1) (by decide +kernel) rfl) <|
  jx_all1 (sd_cI (pc := 17) (idx := 66) (by decide +kernel) mf_19 (Or.inr ⟨RX9, by decide +kernel⟩)) <|
  jx_all1 (sd_ifeq (pc := 20) (off := 17) (by decide +kernel) (by decide +kernel)) <|
  jx_all1 (sd_iload_n (pc := 23) (q := 2) (by decide +kernel) rfl) <|
  jx_all1 (sd_aload_n (pc := 24) (q := 0) (by decide +kernel) rfl) <|
  jx_all1 (sd_gR (pc := 25) kf_14 (f := 10) (q := (jx_f1 18 0)) (idx := 21) (by decide +kernel) rfl wd_189 rfl) <|
  jx_all1 (sd_iload_n (pc := 28) (q := 3) (by decide +kernel) rfl) <|
  jx_all1 (sd_iaload (pc := 29) (by decide +kernel)) <|
  jx_all1 (sd_cI (pc := 30) (idx := 70) (by decide +kernel) mf_1 (Or.inl wd_503)) <|
  jx_all1 (sd_mmin (pc := 33) (idx := 75) (by decide +kernel) wd_509 wd_360 wd_61 wd_361) <|
  jx_all1 (sd_istore_n (pc := 36) (q := 2) (by decide +kernel) rfl) <|
  jx_all1 (sd_iinc (pc := 37) (n := 1) (by decide +kernel) (by decide +kernel)) <|
  jx_all1 (sd_goto (pc := 40) (off := (-33)) (by decide +kernel) (by decide +kernel)) <|
  jx_all1 (sd_iload_n (pc := 43) (q := 2) (by decide +kernel) rfl) <|
  jx_all1 (sd_ireturn (pc := 44) (by decide +kernel) rfl) <|
  jx_all0
set_option maxRecDepth 100000 in
theorem sn_85 (D : jx_D) : jx_all (fun q => jx_Snd cX9_turns 1 RX9 (some .int) D q.1 q.2) (tb_85 D) := by
  unfold tb_85
  exact jx_all1 (sd_aload_n (pc := 0) (q := 0) (by decide +kernel) rfl) <|
  jx_all1 (sd_gR (pc := 1) kf_0 (f := 0) (q := (jx_f1 1 0)) (idx := 12) (by decide +kernel) rfl wd_301 rfl) <|
  jx_all1 (sd_gI (pc := 4) kf_1 (f := 2) (q := jx_f0) (idx := 212) (by decide +kernel) rfl wd_88 rfl) <|
  jx_all1 (sd_ifeq (pc := 7) (off := 10) (by decide +kernel) (by decide +kernel)) <|
  jx_all1 (sd_aload_n (pc := 10) (q := 0) (by decide +kernel) rfl) <|
  jx_all1 (sd_bipush (pc := 11) (n := (-8)) (by decide +kernel) (by decide +kernel)) <|
  jx_all1 (sd_vI (pc := 13) (idx := 95) (kd := 0) (by decide +kernel) mf_8 wd_370 rfl rfl) <|
  jx_all1 (sd_ireturn (pc := 16) (by decide +kernel) rfl) <|
  jx_all1 (sd_aload_n (pc := 17) (q := 0) (by decide +kernel) rfl) <|
  jx_all1 (sd_gR (pc := 18) kf_0 (f := 0) (q := (jx_f1 1 0)) (idx := 12) (by decide +kernel) rfl wd_301 rfl) <|
  jx_all1 (sd_gI (pc := 21) kf_1 (f := 1) (q := jx_f0) (idx := 107) (by decide +kernel) rfl wd_85 rfl) <|
  jx_all1 (sd_ifne (pc := 24) (off := 10) (by decide +kernel) (by decide +kernel)) <|
  jx_all1 (sd_aload_n (pc := 27) (q := 0) (by decide +kernel) rfl) <|
  jx_all1 (sd_bipush (pc := 28) (n := (-6)) (by decide +kernel) (by decide +kernel)) <|
  jx_all1 (sd_vI (pc := 30) (idx := 95) (kd := 0) (by decide +kernel) mf_8 wd_370 rfl rfl) <|
  jx_all1 (sd_ireturn (pc := 33) (by decide +kernel) rfl) <|
  jx_all1 (sd_aload_n (pc := 34) (q := 0) (by decide +kernel) rfl) <|
  jx_all1 (sd_gR (pc := 35) kf_0 (f := 12) (q := (jx_f1 25 0)) (idx := 72) (by decide +kernel) rfl wd_313 rfl) <|
  jx_all1 (sd_aload_n (pc := 38) (q := 0) (by decide +kernel) rfl) <|
  jx_all1 (sd_gR (pc := 39) kf_0 (f := 0) (q := (jx_f1 1 0)) (idx := 12) (by decide +kernel) rfl wd_301 rfl) <|
  jx_all1 (sd_vI (pc := 42) (idx := 266) (kd := 25) (by decide +kernel) mf_86 wd_701 rfl rfl) <|
  jx_all1 (sd_ireturn (pc := 45) (by decide +kernel) rfl) <|
  jx_all0
set_option maxRecDepth 100000 in
theorem sn_86 (D : jx_D) : jx_all (fun q => jx_Snd cX8_roadsTurnedBack 3 RX8 (some .int) D q.1 q.2) (tb_86 D) := by
  unfold tb_86
  exact jx_all1 (sd_aload_n (pc := 0) (q := 0) (by decide +kernel) rfl) <|
  jx_all1 (sd_aload_n (pc := 1) (q := 1) (by decide +kernel) rfl) <|
  jx_all1 (sd_pM (pc := 2) kf_25 (f := 0) (q := (jx_f2 1 0)) (idx := 9) (by decide +kernel) rfl wd_272 rfl rfl rfl) <|
  jx_all1 (sd_aload_n (pc := 5) (q := 0) (by decide +kernel) rfl) <|
  jx_all1 (sd_iconst (pc := 6) (n := 0) (by decide +kernel) (by decide +kernel)) <|
  jx_all1 (sd_pI (pc := 7) kf_25 (f := 1) (q := jx_f0) (idx := 15) (by decide +kernel) rfl wd_273 rfl rfl rfl) <|
  jx_all1 (sd_aload_n (pc := 10) (q := 0) (by decide +kernel) rfl) <|
  jx_all1 (sd_iconst (pc := 11) (n := 0) (by decide +kernel) (by decide +kernel)) <|
  jx_all1 (sd_pI (pc := 12) kf_25 (f := 2) (q := jx_f0) (idx := 19) (by decide +kernel) rfl wd_274 rfl rfl rfl) <|
  jx_all1 (sd_aload_n (pc := 15) (q := 0) (by decide +kernel) rfl) <|
  jx_all1 (sd_iconst (pc := 16) (n := 0) (by decide +kernel) (by decide +kernel)) <|
  jx_all1 (sd_pI (pc := 17) kf_25 (f := 3) (q := jx_f0) (idx := 22) (by decide +kernel) rfl wd_275 rfl rfl rfl) <|
  jx_all1 (sd_iconst (pc := 20) (n := 0) (by decide +kernel) (by decide +kernel)) <|
  jx_all1 (sd_istore_n (pc := 21) (q := 2) (by decide +kernel) rfl) <|
  jx_all1 (sd_iload_n (pc := 22) (q := 2) (by decide +kernel) rfl) <|
  jx_all1 (sd_aload_n (pc := 23) (q := 0) (by decide +kernel) rfl) <|
  jx_all1 (sd_gM (pc := 24) kf_25 (f := 0) (q := (jx_f2 1 0)) (idx := 9) (by decide +kernel) rfl wd_272 rfl) <|
  jx_all1 (sd_gI (pc := 27) kf_1 (f := 0) (q := jx_f0) (idx := 25) (by decide +kernel) rfl wd_80 rfl) <|
  jx_all1 (sd_icge (pc := 30) (off := 26) (by decide +kernel) (by decide +kernel)) <|
  jx_all1 (sd_aload_n (pc := 33) (q := 0) (by decide +kernel) rfl) <|
  jx_all1 (sd_gI (pc := 34) kf_25 (f := 1) (q := jx_f0) (idx := 15) (by decide +kernel) rfl wd_273 rfl) <|
  jx_all1 (sd_iload_n (pc := 37) (q := 2) (by decide +kernel) rfl) <|
  jx_all1 (sd_cI (pc := 38) (idx := 30) (by decide +kernel) mf_19 (Or.inr ⟨RX9, by decide +kernel⟩)) <|
  jx_all1 (sd_ifne (pc := 41) (off := 9) (by decide +kernel) (by decide +kernel)) <|
  jx_all1 (sd_aload_n (pc := 44) (q := 0) (by decide +kernel) rfl) <|
  jx_all1 (sd_iload_n (pc := 45) (q := 2) (by decide +kernel) rfl) <|
  jx_all1 (sd_iconst (pc := 46) (n := 0) (by decide +kernel) (by decide +kernel)) <|
  jx_all1 (sd_vV (pc := 47) (idx := 34) (kd := 25) (by decide +kernel) mf_87 wd_706 rfl rfl) <|
  jx_all1 (sd_iinc (pc := 50) (n := 1) (by decide +kernel) (by decide +kernel)) <|
  jx_all1 (sd_goto (pc := 53) (off := (-31)) (by decide +kernel) (by decide +kernel)) <|
  jx_all1 (sd_aload_n (pc := 56) (q := 0) (by decide +kernel) rfl) <|
  jx_all1 (sd_gI (pc := 57) kf_25 (f := 3) (q := jx_f0) (idx := 22) (by decide +kernel) rfl wd_275 rfl) <|
  jx_all1 (sd_ireturn (pc := 60) (by decide +kernel) rfl) <|
  jx_all0
set_option maxRecDepth 100000 in
theorem sn_87 (D : jx_D) : jx_all (fun q => jx_Snd cX8_visit 6 RX8 none D q.1 q.2) (tb_87 D) := by
  unfold tb_87
  exact jx_all1 (sd_aload_n (pc := 0) (q := 0) (by decide +kernel) rfl) <|
  jx_all1 (sd_dup (pc := 1) (by decide +kernel)) <|
  jx_all1 (sd_gI (pc := 2) kf_25 (f := 1) (q := jx_f0) (idx := 15) (by decide +kernel) rfl wd_273 rfl) <|
  jx_all1 (sd_iconst (pc := 5) (n := 1) (by decide +kernel) (by decide +kernel)) <|
  jx_all1 (sd_iload_n (pc := 6) (q := 1) (by decide +kernel) rfl) <|
  jx_all1 (sd_ishl (pc := 7) (by decide +kernel)) <|
  jx_all1 (sd_ior (pc := 8) (by decide +kernel)) <|
  jx_all1 (sd_pI (pc := 9) kf_25 (f := 1) (q := jx_f0) (idx := 15) (by decide +kernel) rfl wd_273 rfl rfl rfl) <|
  jx_all1 (sd_iload_n (pc := 12) (q := 2) (by decide +kernel) rfl) <|
  jx_all1 (sd_bipush (pc := 13) (n := 8) (by decide +kernel) (by decide +kernel)) <|
  jx_all1 (sd_iclt (pc := 15) (off := 4) (by decide +kernel) (by decide +kernel)) <|
  jx_all1 (sd_return (pc := 18) (by decide +kernel) rfl) <|
  jx_all1 (sd_iconst (pc := 19) (n := 0) (by decide +kernel) (by decide +kernel)) <|
  jx_all1 (sd_istore_n (pc := 20) (q := 3) (by decide +kernel) rfl) <|
  jx_all1 (sd_iload_n (pc := 21) (q := 3) (by decide +kernel) rfl) <|
  jx_all1 (sd_aload_n (pc := 22) (q := 0) (by decide +kernel) rfl) <|
  jx_all1 (sd_gM (pc := 23) kf_25 (f := 0) (q := (jx_f2 1 0)) (idx := 9) (by decide +kernel) rfl wd_272 rfl) <|
  jx_all1 (sd_gI (pc := 26) kf_1 (f := 1) (q := jx_f0) (idx := 38) (by decide +kernel) rfl wd_84 rfl) <|
  jx_all1 (sd_icge (pc := 29) (off := 139) (by decide +kernel) (by decide +kernel)) <|
  jx_all1 (sd_aload_n (pc := 32) (q := 0) (by decide +kernel) rfl) <|
  jx_all1 (sd_gM (pc := 33) kf_25 (f := 0) (q := (jx_f2 1 0)) (idx := 9) (by decide +kernel) rfl wd_272 rfl) <|
  jx_all1 (sd_gR (pc := 36) kf_1 (f := 3) (q := (jx_fi 2)) (idx := 41) (by decide +kernel) rfl wd_90 rfl) <|
  jx_all1 (sd_iload_n (pc := 39) (q := 3) (by decide +kernel) rfl) <|
  jx_all1 (sd_iaload (pc := 40) (by decide +kernel)) <|
  jx_all1 (sd_iload_n (pc := 41) (q := 1) (by decide +kernel) rfl) <|
  jx_all1 (sd_icne (pc := 42) (off := 7) (by decide +kernel) (by decide +kernel)) <|
  jx_all1 (sd_iconst (pc := 45) (n := 1) (by decide +kernel) (by decide +kernel)) <|
  jx_all1 (sd_goto (pc := 46) (off := 4) (by decide +kernel) (by decide +kernel)) <|
  jx_all1 (sd_iconst (pc := 49) (n := 0) (by decide +kernel) (by decide +kernel)) <|
  jx_all1 (sd_istore (pc := 50) (by decide +kernel)) <|
  jx_all1 (sd_aload_n (pc := 52) (q := 0) (by decide +kernel) rfl) <|
  jx_all1 (sd_gI (pc := 53) kf_25 (f := 2) (q := jx_f0) (idx := 19) (by decide +kernel) rfl wd_274 rfl) <|
  jx_all1 (sd_iload_n (pc := 56) (q := 3) (by decide +kernel) rfl) <|
  jx_all1 (sd_cI (pc := 57) (idx := 30) (by decide +kernel) mf_19 (Or.inr ⟨RX9, by decide +kernel⟩)) <|
  jx_all1 (sd_ifne (pc := 60) (off := 102) (by decide +kernel) (by decide +kernel)) <|
  jx_all1 (sd_iload (pc := 63) (by decide +kernel)) <|
  jx_all1 (sd_ifne (pc := 65) (off := 19) (by decide +kernel) (by decide +kernel)) <|
  jx_all1 (sd_aload_n (pc := 68) (q := 0) (by decide +kernel) rfl) <|
  jx_all1 (sd_gM (pc := 69) kf_25 (f := 0) (q := (jx_f2 1 0)) (idx := 9) (by decide +kernel) rfl wd_272 rfl) <|
  jx_all1 (sd_gR (pc := 72) kf_1 (f := 4) (q := (jx_fi 3)) (idx := 45) (by decide +kernel) rfl wd_95 rfl) <|
  jx_all1 (sd_iload_n (pc := 75) (q := 3) (by decide +kernel) rfl) <|
  jx_all1 (sd_iaload (pc := 76) (by decide +kernel)) <|
  jx_all1 (sd_iload_n (pc := 77) (q := 1) (by decide +kernel) rfl) <|
  jx_all1 (sd_iceq (pc := 78) (off := 6) (by decide +kernel) (by decide +kernel)) <|
  jx_all1 (sd_goto (pc := 81) (off := 81) (by decide +kernel) (by decide +kernel)) <|
  jx_all1 (sd_aload_n (pc := 84) (q := 0) (by decide +kernel) rfl) <|
  jx_all1 (sd_dup (pc := 85) (by decide +kernel)) <|
  jx_all1 (sd_gI (pc := 86) kf_25 (f := 2) (q := jx_f0) (idx := 19) (by decide +kernel) rfl wd_274 rfl) <|
  jx_all1 (sd_iconst (pc := 89) (n := 1) (by decide +kernel) (by decide +kernel)) <|
  jx_all1 (sd_iload_n (pc := 90) (q := 3) (by decide +kernel) rfl) <|
  jx_all1 (sd_ishl (pc := 91) (by decide +kernel)) <|
  jx_all1 (sd_ior (pc := 92) (by decide +kernel)) <|
  jx_all1 (sd_pI (pc := 93) kf_25 (f := 2) (q := jx_f0) (idx := 19) (by decide +kernel) rfl wd_274 rfl rfl rfl) <|
  jx_all1 (sd_iload (pc := 96) (by decide +kernel)) <|
  jx_all1 (sd_ifne (pc := 98) (off := 15) (by decide +kernel) (by decide +kernel)) <|
  jx_all1 (sd_aload_n (pc := 101) (q := 0) (by decide +kernel) rfl) <|
  jx_all1 (sd_dup (pc := 102) (by decide +kernel)) <|
  jx_all1 (sd_gI (pc := 103) kf_25 (f := 3) (q := jx_f0) (idx := 22) (by decide +kernel) rfl wd_275 rfl) <|
  jx_all1 (sd_iconst (pc := 106) (n := 1) (by decide +kernel) (by decide +kernel)) <|
  jx_all1 (sd_iload_n (pc := 107) (q := 3) (by decide +kernel) rfl) <|
  jx_all1 (sd_ishl (pc := 108) (by decide +kernel)) <|
  jx_all1 (sd_ior (pc := 109) (by decide +kernel)) <|
  jx_all1 (sd_pI (pc := 110) kf_25 (f := 3) (q := jx_f0) (idx := 22) (by decide +kernel) rfl wd_275 rfl rfl rfl) <|
  jx_all1 (sd_iload (pc := 113) (by decide +kernel)) <|
  jx_all1 (sd_ifeq (pc := 115) (off := 15) (by decide +kernel) (by decide +kernel)) <|
  jx_all1 (sd_aload_n (pc := 118) (q := 0) (by decide +kernel) rfl) <|
  jx_all1 (sd_gM (pc := 119) kf_25 (f := 0) (q := (jx_f2 1 0)) (idx := 9) (by decide +kernel) rfl wd_272 rfl) <|
  jx_all1 (sd_gR (pc := 122) kf_1 (f := 4) (q := (jx_fi 3)) (idx := 45) (by decide +kernel) rfl wd_95 rfl) <|
  jx_all1 (sd_iload_n (pc := 125) (q := 3) (by decide +kernel) rfl) <|
  jx_all1 (sd_iaload (pc := 126) (by decide +kernel)) <|
  jx_all1 (sd_goto (pc := 127) (off := 12) (by decide +kernel) (by decide +kernel)) <|
  jx_all1 (sd_aload_n (pc := 130) (q := 0) (by decide +kernel) rfl) <|
  jx_all1 (sd_gM (pc := 131) kf_25 (f := 0) (q := (jx_f2 1 0)) (idx := 9) (by decide +kernel) rfl wd_272 rfl) <|
  jx_all1 (sd_gR (pc := 134) kf_1 (f := 3) (q := (jx_fi 2)) (idx := 41) (by decide +kernel) rfl wd_90 rfl) <|
  jx_all1 (sd_iload_n (pc := 137) (q := 3) (by decide +kernel) rfl) <|
  jx_all1 (sd_iaload (pc := 138) (by decide +kernel)) <|
  jx_all1 (sd_istore (pc := 139) (by decide +kernel)) <|
  jx_all1 (sd_aload_n (pc := 141) (q := 0) (by decide +kernel) rfl) <|
  jx_all1 (sd_gI (pc := 142) kf_25 (f := 1) (q := jx_f0) (idx := 15) (by decide +kernel) rfl wd_273 rfl) <|
  jx_all1 (sd_iload (pc := 145) (by decide +kernel)) <|
  jx_all1 (sd_cI (pc := 147) (idx := 30) (by decide +kernel) mf_19 (Or.inr ⟨RX9, by decide +kernel⟩)) <|
  jx_all1 (sd_ifne (pc := 150) (off := 12) (by decide +kernel) (by decide +kernel)) <|
  jx_all1 (sd_aload_n (pc := 153) (q := 0) (by decide +kernel) rfl) <|
  jx_all1 (sd_iload (pc := 154) (by decide +kernel)) <|
  jx_all1 (sd_iload_n (pc := 156) (q := 2) (by decide +kernel) rfl) <|
  jx_all1 (sd_iconst (pc := 157) (n := 1) (by decide +kernel) (by decide +kernel)) <|
  jx_all1 (sd_iadd (pc := 158) (by decide +kernel)) <|
  jx_all1 (sd_vV (pc := 159) (idx := 34) (kd := 25) (by decide +kernel) mf_87 wd_706 rfl rfl) <|
  jx_all1 (sd_iinc (pc := 162) (n := 1) (by decide +kernel) (by decide +kernel)) <|
  jx_all1 (sd_goto (pc := 165) (off := (-144)) (by decide +kernel) (by decide +kernel)) <|
  jx_all1 (sd_return (pc := 168) (by decide +kernel) rfl) <|
  jx_all0
set_option maxRecDepth 100000 in
theorem sn_88 (D : jx_D) : jx_all (fun q => jx_Snd cX9_strong 1 RX9 (some .int) D q.1 q.2) (tb_88 D) := by
  unfold tb_88
  exact jx_all1 (sd_aload_n (pc := 0) (q := 0) (by decide +kernel) rfl) <|
  jx_all1 (sd_gR (pc := 1) kf_0 (f := 0) (q := (jx_f1 1 0)) (idx := 12) (by decide +kernel) rfl wd_301 rfl) <|
  jx_all1 (sd_gI (pc := 4) kf_1 (f := 2) (q := jx_f0) (idx := 212) (by decide +kernel) rfl wd_88 rfl) <|
  jx_all1 (sd_ifeq (pc := 7) (off := 10) (by decide +kernel) (by decide +kernel)) <|
  jx_all1 (sd_aload_n (pc := 10) (q := 0) (by decide +kernel) rfl) <|
  jx_all1 (sd_bipush (pc := 11) (n := (-8)) (by decide +kernel) (by decide +kernel)) <|
  jx_all1 (sd_vI (pc := 13) (idx := 95) (kd := 0) (by decide +kernel) mf_8 wd_370 rfl rfl) <|
  jx_all1 (sd_ireturn (pc := 16) (by decide +kernel) rfl) <|
  jx_all1 (sd_aload_n (pc := 17) (q := 0) (by decide +kernel) rfl) <|
  jx_all1 (sd_gR (pc := 18) kf_0 (f := 8) (q := (jx_f1 14 0)) (idx := 44) (by decide +kernel) rfl wd_309 rfl) <|
  jx_all1 (sd_aload_n (pc := 21) (q := 0) (by decide +kernel) rfl) <|
  jx_all1 (sd_gR (pc := 22) kf_0 (f := 0) (q := (jx_f1 1 0)) (idx := 12) (by decide +kernel) rfl wd_301 rfl) <|
  jx_all1 (sd_vV (pc := 25) (idx := 188) (kd := 14) (by decide +kernel) mf_38 wd_489 rfl rfl) <|
  jx_all1 (sd_aload_n (pc := 28) (q := 0) (by decide +kernel) rfl) <|
  jx_all1 (sd_gR (pc := 29) kf_0 (f := 8) (q := (jx_f1 14 0)) (idx := 44) (by decide +kernel) rfl wd_309 rfl) <|
  jx_all1 (sd_aload_n (pc := 32) (q := 0) (by decide +kernel) rfl) <|
  jx_all1 (sd_gR (pc := 33) kf_0 (f := 12) (q := (jx_f1 25 0)) (idx := 72) (by decide +kernel) rfl wd_313 rfl) <|
  jx_all1 (sd_aload_n (pc := 36) (q := 0) (by decide +kernel) rfl) <|
  jx_all1 (sd_gR (pc := 37) kf_0 (f := 0) (q := (jx_f1 1 0)) (idx := 12) (by decide +kernel) rfl wd_301 rfl) <|
  jx_all1 (sd_vI (pc := 40) (idx := 266) (kd := 25) (by decide +kernel) mf_86 wd_701 rfl rfl) <|
  jx_all1 (sd_vI (pc := 43) (idx := 270) (kd := 14) (by decide +kernel) mf_89 wd_714 rfl rfl) <|
  jx_all1 (sd_ifeq (pc := 46) (off := 7) (by decide +kernel) (by decide +kernel)) <|
  jx_all1 (sd_iconst (pc := 49) (n := 1) (by decide +kernel) (by decide +kernel)) <|
  jx_all1 (sd_goto (pc := 50) (off := 4) (by decide +kernel) (by decide +kernel)) <|
  jx_all1 (sd_iconst (pc := 53) (n := 0) (by decide +kernel) (by decide +kernel)) <|
  jx_all1 (sd_ireturn (pc := 54) (by decide +kernel) rfl) <|
  jx_all0
set_option maxRecDepth 100000 in
theorem sn_89 (D : jx_D) : jx_all (fun q => jx_Snd cX6_hangsTurned 4 RX6 (some .boolean) D q.1 q.2) (tb_89 D) := by
  unfold tb_89
  exact jx_all1 (sd_iconst (pc := 0) (n := 1) (by decide +kernel) (by decide +kernel)) <|
  jx_all1 (sd_istore_n (pc := 1) (q := 2) (by decide +kernel) rfl) <|
  jx_all1 (sd_iload_n (pc := 2) (q := 2) (by decide +kernel) rfl) <|
  jx_all1 (sd_aload_n (pc := 3) (q := 0) (by decide +kernel) rfl) <|
  jx_all1 (sd_gI (pc := 4) kf_14 (f := 3) (q := jx_f0) (idx := 44) (by decide +kernel) rfl wd_173 rfl) <|
  jx_all1 (sd_icge (pc := 7) (off := 53) (by decide +kernel) (by decide +kernel)) <|
  jx_all1 (sd_aload_n (pc := 10) (q := 0) (by decide +kernel) rfl) <|
  jx_all1 (sd_gR (pc := 11) kf_14 (f := 7) (q := (jx_f1 15 0)) (idx := 9) (by decide +kernel) rfl wd_182 rfl) <|
  jx_all1 (sd_iload_n (pc := 14) (q := 2) (by decide +kernel) rfl) <|
  jx_all1 (sd_iaload (pc := 15) (by decide +kernel)) <|
  jx_all1 (sd_aload_n (pc := 16) (q := 0) (by decide +kernel) rfl) <|
  jx_all1 (sd_gR (pc := 17) kf_14 (f := 8) (q := (jx_f1 16 0)) (idx := 15) (by decide +kernel) rfl wd_185 rfl) <|
  jx_all1 (sd_iload_n (pc := 20) (q := 2) (by decide +kernel) rfl) <|
  jx_all1 (sd_iaload (pc := 21) (by decide +kernel)) <|
  jx_all1 (sd_iconst (pc := 22) (n := (-1)) (by decide +kernel) (by decide +kernel)) <|
  jx_all1 (sd_ixor (pc := 23) (by decide +kernel)) <|
  jx_all1 (sd_iand (pc := 24) (by decide +kernel)) <|
  jx_all1 (sd_iload_n (pc := 25) (q := 1) (by decide +kernel) rfl) <|
  jx_all1 (sd_iconst (pc := 26) (n := (-1)) (by decide +kernel) (by decide +kernel)) <|
  jx_all1 (sd_ixor (pc := 27) (by decide +kernel)) <|
  jx_all1 (sd_iand (pc := 28) (by decide +kernel)) <|
  jx_all1 (sd_aload_n (pc := 29) (q := 0) (by decide +kernel) rfl) <|
  jx_all1 (sd_gR (pc := 30) kf_14 (f := 8) (q := (jx_f1 16 0)) (idx := 15) (by decide +kernel) rfl wd_185 rfl) <|
  jx_all1 (sd_iload_n (pc := 33) (q := 2) (by decide +kernel) rfl) <|
  jx_all1 (sd_iaload (pc := 34) (by decide +kernel)) <|
  jx_all1 (sd_aload_n (pc := 35) (q := 0) (by decide +kernel) rfl) <|
  jx_all1 (sd_gR (pc := 36) kf_14 (f := 7) (q := (jx_f1 15 0)) (idx := 9) (by decide +kernel) rfl wd_182 rfl) <|
  jx_all1 (sd_iload_n (pc := 39) (q := 2) (by decide +kernel) rfl) <|
  jx_all1 (sd_iaload (pc := 40) (by decide +kernel)) <|
  jx_all1 (sd_iconst (pc := 41) (n := (-1)) (by decide +kernel) (by decide +kernel)) <|
  jx_all1 (sd_ixor (pc := 42) (by decide +kernel)) <|
  jx_all1 (sd_iand (pc := 43) (by decide +kernel)) <|
  jx_all1 (sd_iload_n (pc := 44) (q := 1) (by decide +kernel) rfl) <|
  jx_all1 (sd_iand (pc := 45) (by decide +kernel)) <|
  jx_all1 (sd_ior (pc := 46) (by decide +kernel)) <|
  jx_all1 (sd_istore_n (pc := 47) (q := 3) (by decide +kernel) rfl) <|
  jx_all1 (sd_iload_n (pc := 48) (q := 3) (by decide +kernel) rfl) <|
  jx_all1 (sd_ifne (pc := 49) (off := 5) (by decide +kernel) (by decide +kernel)) <|
  jx_all1 (sd_iconst (pc := 52) (n := 0) (by decide +kernel) (by decide +kernel)) <|
  jx_all1 (sd_zreturn (pc := 53) (by decide +kernel) rfl) <|
  jx_all1 (sd_iinc (pc := 54) (n := 1) (by decide +kernel) (by decide +kernel)) <|
  jx_all1 (sd_goto (pc := 57) (off := (-55)) (by decide +kernel) (by decide +kernel)) <|
  jx_all1 (sd_aload_n (pc := 60) (q := 0) (by decide +kernel) rfl) <|
  jx_all1 (sd_gI (pc := 61) kf_14 (f := 0) (q := jx_f0) (idx := 30) (by decide +kernel) rfl wd_166 rfl) <|
  jx_all1 (sd_ifle (pc := 64) (off := 7) (by decide +kernel) (by decide +kernel)) <|
  jx_all1 (sd_iconst (pc := 67) (n := 1) (by decide +kernel) (by decide +kernel)) <|
  jx_all1 (sd_goto (pc := 68) (off := 4) (by decide +kernel) (by decide +kernel)) <|
  jx_all1 (sd_iconst (pc := 71) (n := 0) (by decide +kernel) (by decide +kernel)) <|
  jx_all1 (sd_zreturn (pc := 72) (by decide +kernel) rfl) <|
  jx_all0
set_option maxRecDepth 100000 in
theorem sn_90 (D : jx_D) : jx_all (fun q => jx_Snd cX9_chance 1 RX9 (some .long) D q.1 q.2) (tb_90 D) := by
  unfold tb_90
  exact jx_all1 (sd_aload_n (pc := 0) (q := 0) (by decide +kernel) rfl) <|
  jx_all1 (sd_gR (pc := 1) kf_0 (f := 0) (q := (jx_f1 1 0)) (idx := 12) (by decide +kernel) rfl wd_301 rfl) <|
  jx_all1 (sd_gI (pc := 4) kf_1 (f := 2) (q := jx_f0) (idx := 212) (by decide +kernel) rfl wd_88 rfl) <|
  jx_all1 (sd_ifeq (pc := 7) (off := 23) (by decide +kernel) (by decide +kernel)) <|
  jx_all1 (sd_aload_n (pc := 10) (q := 0) (by decide +kernel) rfl) <|
  jx_all1 (sd_gR (pc := 11) kf_0 (f := 0) (q := (jx_f1 1 0)) (idx := 12) (by decide +kernel) rfl wd_301 rfl) <|
  jx_all1 (sd_gI (pc := 14) kf_1 (f := 1) (q := jx_f0) (idx := 107) (by decide +kernel) rfl wd_85 rfl) <|
  jx_all1 (sd_bipush (pc := 17) (n := 12) (by decide +kernel) (by decide +kernel)) <|
  jx_all1 (sd_icle (pc := 19) (off := 11) (by decide +kernel) (by decide +kernel)) <|
  jx_all1 (sd_aload_n (pc := 22) (q := 0) (by decide +kernel) rfl) <|
  jx_all1 (sd_bipush (pc := 23) (n := (-7)) (by decide +kernel) (by decide +kernel)) <|
  jx_all1 (sd_vI (pc := 25) (idx := 95) (kd := 0) (by decide +kernel) mf_8 wd_370 rfl rfl) <|
  jx_all1 (sd_i2l (pc := 28) (by decide +kernel)) <|
  jx_all1 (sd_lreturn (pc := 29) (by decide +kernel) rfl) <|
  jx_all1 (sd_aload_n (pc := 30) (q := 0) (by decide +kernel) rfl) <|
  jx_all1 (sd_gR (pc := 31) kf_0 (f := 8) (q := (jx_f1 14 0)) (idx := 44) (by decide +kernel) rfl wd_309 rfl) <|
  jx_all1 (sd_aload_n (pc := 34) (q := 0) (by decide +kernel) rfl) <|
  jx_all1 (sd_gR (pc := 35) kf_0 (f := 0) (q := (jx_f1 1 0)) (idx := 12) (by decide +kernel) rfl wd_301 rfl) <|
  jx_all1 (sd_vV (pc := 38) (idx := 188) (kd := 14) (by decide +kernel) mf_38 wd_489 rfl rfl) <|
  jx_all1 (sd_aload_n (pc := 41) (q := 0) (by decide +kernel) rfl) <|
  jx_all1 (sd_gR (pc := 42) kf_0 (f := 13) (q := (jx_f1 26 0)) (idx := 79) (by decide +kernel) rfl wd_314 rfl) <|
  jx_all1 (sd_aload_n (pc := 45) (q := 0) (by decide +kernel) rfl) <|
  jx_all1 (sd_gR (pc := 46) kf_0 (f := 8) (q := (jx_f1 14 0)) (idx := 44) (by decide +kernel) rfl wd_309 rfl) <|
  jx_all1 (sd_aload_n (pc := 49) (q := 0) (by decide +kernel) rfl) <|
  jx_all1 (sd_gR (pc := 50) kf_0 (f := 0) (q := (jx_f1 1 0)) (idx := 12) (by decide +kernel) rfl wd_301 rfl) <|
  jx_all1 (sd_vL (pc := 53) (idx := 273) (kd := 26) (by decide +kernel) mf_91 wd_722 rfl rfl) <|
  jx_all1 (sd_lreturn (pc := 56) (by decide +kernel) rfl) <|
  jx_all0
set_option maxRecDepth 100000 in
theorem sn_91 (D : jx_D) : jx_all (fun q => jx_Snd cX0_ofHanging 3 RX0 (some .long) D q.1 q.2) (tb_91 D) := by
  unfold tb_91
  exact jx_all1 (sd_aload_n (pc := 0) (q := 0) (by decide +kernel) rfl) <|
  jx_all1 (sd_aload_n (pc := 1) (q := 1) (by decide +kernel) rfl) <|
  jx_all1 (sd_pM (pc := 2) kf_26 (f := 0) (q := (jx_f2 14 0)) (idx := 15) (by decide +kernel) rfl wd_291 rfl rfl rfl) <|
  jx_all1 (sd_aload_n (pc := 5) (q := 0) (by decide +kernel) rfl) <|
  jx_all1 (sd_aload_n (pc := 6) (q := 2) (by decide +kernel) rfl) <|
  jx_all1 (sd_pM (pc := 7) kf_26 (f := 1) (q := (jx_f2 1 0)) (idx := 19) (by decide +kernel) rfl wd_292 rfl rfl rfl) <|
  jx_all1 (sd_aload_n (pc := 10) (q := 0) (by decide +kernel) rfl) <|
  jx_all1 (sd_gM (pc := 11) kf_26 (f := 0) (q := (jx_f2 14 0)) (idx := 15) (by decide +kernel) rfl wd_291 rfl) <|
  jx_all1 (sd_aload_n (pc := 14) (q := 0) (by decide +kernel) rfl) <|
  jx_all1 (sd_gM (pc := 15) kf_26 (f := 0) (q := (jx_f2 14 0)) (idx := 15) (by decide +kernel) rfl wd_291 rfl) <|
  jx_all1 (sd_gI (pc := 18) kf_14 (f := 4) (q := jx_f0) (idx := 23) (by decide +kernel) rfl wd_177 rfl) <|
  jx_all1 (sd_vI (pc := 21) (idx := 29) (kd := 14) (by decide +kernel) mf_55 wd_726 rfl rfl) <|
  jx_all1 (sd_ifne (pc := 24) (off := 5) (by decide +kernel) (by decide +kernel)) <|
  jx_all1 (sd_lconst (pc := 27) (n := 0) (by decide +kernel) (by decide +kernel)) <|
  jx_all1 (sd_lreturn (pc := 28) (by decide +kernel) rfl) <|
  jx_all1 (sd_aload_n (pc := 29) (q := 0) (by decide +kernel) rfl) <|
  jx_all1 (sd_gM (pc := 30) kf_26 (f := 0) (q := (jx_f2 14 0)) (idx := 15) (by decide +kernel) rfl wd_291 rfl) <|
  jx_all1 (sd_gI (pc := 33) kf_14 (f := 2) (q := jx_f0) (idx := 33) (by decide +kernel) rfl wd_171 rfl) <|
  jx_all1 (sd_ifeq (pc := 36) (off := 12) (by decide +kernel) (by decide +kernel)) <|
  jx_all1 (sd_aload_n (pc := 39) (q := 0) (by decide +kernel) rfl) <|
  jx_all1 (sd_iconst (pc := 40) (n := 0) (by decide +kernel) (by decide +kernel)) <|
  jx_all1 (sd_iconst (pc := 41) (n := 0) (by decide +kernel) (by decide +kernel)) <|
  jx_all1 (sd_vL (pc := 42) (idx := 37) (kd := 26) (by decide +kernel) mf_92 wd_727 rfl rfl) <|
  jx_all1 (sd_goto (pc := 45) (off := 7) (by decide +kernel) (by decide +kernel)) <|
  jx_all1 (sd_aload_n (pc := 48) (q := 0) (by decide +kernel) rfl) <|
  jx_all1 (sd_vL (pc := 49) (idx := 41) (kd := 26) (by decide +kernel) mf_93 wd_732 rfl rfl) <|
  jx_all1 (sd_lreturn (pc := 52) (by decide +kernel) rfl) <|
  jx_all0
set_option maxRecDepth 100000 in
theorem sn_92 (D : jx_D) : jx_all (fun q => jx_Snd cX0_sumOver 7 RX0 (some .long) D q.1 q.2) (tb_92 D) := by
  unfold tb_92
  exact jx_all1 (sd_iload_n (pc := 0) (q := 1) (by decide +kernel) rfl) <|
  jx_all1 (sd_aload_n (pc := 1) (q := 0) (by decide +kernel) rfl) <|
  jx_all1 (sd_gM (pc := 2) kf_26 (f := 0) (q := (jx_f2 14 0)) (idx := 15) (by decide +kernel) rfl wd_291 rfl) <|
  jx_all1 (sd_gI (pc := 5) kf_14 (f := 1) (q := jx_f0) (idx := 45) (by decide +kernel) rfl wd_169 rfl) <|
  jx_all1 (sd_iclt (pc := 8) (off := 5) (by decide +kernel) (by decide +kernel)) <|
  jx_all1 (sd_lconst (pc := 11) (n := 1) (by decide +kernel) (by decide +kernel)) <|
  jx_all1 (sd_lreturn (pc := 12) (by decide +kernel) rfl) <|
  jx_all1 (sd_aload_n (pc := 13) (q := 0) (by decide +kernel) rfl) <|
  jx_all1 (sd_gM (pc := 14) kf_26 (f := 1) (q := (jx_f2 1 0)) (idx := 19) (by decide +kernel) rfl wd_292 rfl) <|
  jx_all1 (sd_gR (pc := 17) kf_1 (f := 6) (q := (jx_fi 5)) (idx := 48) (by decide +kernel) rfl wd_101 rfl) <|
  jx_all1 (sd_iload_n (pc := 20) (q := 1) (by decide +kernel) rfl) <|
  jx_all1 (sd_iaload (pc := 21) (by decide +kernel)) <|
  jx_all1 (sd_istore_n (pc := 22) (q := 3) (by decide +kernel) rfl) <|
  jx_all1 (sd_lconst (pc := 23) (n := 0) (by decide +kernel) (by decide +kernel)) <|
  jx_all1 (sd_lstore (pc := 24) (by decide +kernel)) <|
  jx_all1 (sd_iload_n (pc := 26) (q := 3) (by decide +kernel) rfl) <|
  jx_all1 (sd_ifle (pc := 27) (off := 20) (by decide +kernel) (by decide +kernel)) <|
  jx_all1 (sd_iload_n (pc := 30) (q := 3) (by decide +kernel) rfl) <|
  jx_all1 (sd_i2l (pc := 31) (by decide +kernel)) <|
  jx_all1 (sd_aload_n (pc := 32) (q := 0) (by decide +kernel) rfl) <|
  jx_all1 (sd_iload_n (pc := 33) (q := 1) (by decide +kernel) rfl) <|
  jx_all1 (sd_iconst (pc := 34) (n := 1) (by decide +kernel) (by decide +kernel)) <|
  jx_all1 (sd_iadd (pc := 35) (by decide +kernel)) <|
  jx_all1 (sd_iload_n (pc := 36) (q := 2) (by decide +kernel) rfl) <|
  jx_all1 (sd_iconst (pc := 37) (n := 1) (by decide +kernel) (by decide +kernel)) <|
  jx_all1 (sd_iload_n (pc := 38) (q := 1) (by decide +kernel) rfl) <|
  jx_all1 (sd_ishl (pc := 39) (by decide +kernel)) <|
  jx_all1 (sd_ior (pc := 40) (by decide +kernel)) <|
  jx_all1 (sd_vL (pc := 41) (idx := 37) (kd := 26) (by decide +kernel) mf_92 wd_727 rfl rfl) <|
  jx_all1 (sd_lmul (pc := 44) (by decide +kernel)) <|
  jx_all1 (sd_lstore (pc := 45) (by decide +kernel)) <|
  jx_all1 (sd_iload_n (pc := 47) (q := 2) (by decide +kernel) rfl) <|
  jx_all1 (sd_aload_n (pc := 48) (q := 0) (by decide +kernel) rfl) <|
  jx_all1 (sd_gM (pc := 49) kf_26 (f := 0) (q := (jx_f2 14 0)) (idx := 15) (by decide +kernel) rfl wd_291 rfl) <|
  jx_all1 (sd_gI (pc := 52) kf_14 (f := 4) (q := jx_f0) (idx := 23) (by decide +kernel) rfl wd_177 rfl) <|
  jx_all1 (sd_iload_n (pc := 55) (q := 1) (by decide +kernel) rfl) <|
  jx_all1 (sd_iconst (pc := 56) (n := 1) (by decide +kernel) (by decide +kernel)) <|
  jx_all1 (sd_iadd (pc := 57) (by decide +kernel)) <|
  jx_all1 (sd_cI (pc := 58) (idx := 54) (by decide +kernel) mf_17 (Or.inr ⟨RX9, by decide +kernel⟩)) <|
  jx_all1 (sd_iconst (pc := 61) (n := (-1)) (by decide +kernel) (by decide +kernel)) <|
  jx_all1 (sd_ixor (pc := 62) (by decide +kernel)) <|
  jx_all1 (sd_iand (pc := 63) (by decide +kernel)) <|
  jx_all1 (sd_ior (pc := 64) (by decide +kernel)) <|
  jx_all1 (sd_istore (pc := 65) (by decide +kernel)) <|
  jx_all1 (sd_iload_n (pc := 67) (q := 3) (by decide +kernel) rfl) <|
  jx_all1 (sd_bipush (pc := 68) (n := 8) (by decide +kernel) (by decide +kernel)) <|
  jx_all1 (sd_icge (pc := 70) (off := 34) (by decide +kernel) (by decide +kernel)) <|
  jx_all1 (sd_aload_n (pc := 73) (q := 0) (by decide +kernel) rfl) <|
  jx_all1 (sd_gM (pc := 74) kf_26 (f := 0) (q := (jx_f2 14 0)) (idx := 15) (by decide +kernel) rfl wd_291 rfl) <|
  jx_all1 (sd_iload (pc := 77) (by decide +kernel)) <|
  jx_all1 (sd_vI (pc := 79) (idx := 29) (kd := 14) (by decide +kernel) mf_55 wd_726 rfl rfl) <|
  jx_all1 (sd_ifeq (pc := 82) (off := 22) (by decide +kernel) (by decide +kernel)) <|
  jx_all1 (sd_lload (pc := 85) (by decide +kernel)) <|
  jx_all1 (sd_bipush (pc := 87) (n := 8) (by decide +kernel) (by decide +kernel)) <|
  jx_all1 (sd_iload_n (pc := 89) (q := 3) (by decide +kernel) rfl) <|
  jx_all1 (sd_isub (pc := 90) (by decide +kernel)) <|
  jx_all1 (sd_i2l (pc := 91) (by decide +kernel)) <|
  jx_all1 (sd_aload_n (pc := 92) (q := 0) (by decide +kernel) rfl) <|
  jx_all1 (sd_iload_n (pc := 93) (q := 1) (by decide +kernel) rfl) <|
  jx_all1 (sd_iconst (pc := 94) (n := 1) (by decide +kernel) (by decide +kernel)) <|
  jx_all1 (sd_iadd (pc := 95) (by decide +kernel)) <|
  jx_all1 (sd_iload_n (pc := 96) (q := 2) (by decide +kernel) rfl) <|
  jx_all1 (sd_vL (pc := 97) (idx := 37) (kd := 26) (by decide +kernel) mf_92 wd_727 rfl rfl) <|
  jx_all1 (sd_lmul (pc := 100) (by decide +kernel)) <|
  jx_all1 (sd_ladd (pc := 101) (by decide +kernel)) <|
  jx_all1 (sd_lstore (pc := 102) (by decide +kernel)) <|
  jx_all1 (sd_lload (pc := 104) (by decide +kernel)) <|
  jx_all1 (sd_lreturn (pc := 106) (by decide +kernel) rfl) <|
  jx_all0
set_option maxRecDepth 100000 in
theorem sn_93 (D : jx_D) : jx_all (fun q => jx_Snd cX0_ofPlain 6 RX0 (some .long) D q.1 q.2) (tb_93 D) := by
  unfold tb_93
  exact jx_all1 (sd_iconst (pc := 0) (n := 1) (by decide +kernel) (by decide +kernel)) <|
  jx_all1 (sd_istore_n (pc := 1) (q := 1) (by decide +kernel) rfl) <|
  jx_all1 (sd_iload_n (pc := 2) (q := 1) (by decide +kernel) rfl) <|
  jx_all1 (sd_aload_n (pc := 3) (q := 0) (by decide +kernel) rfl) <|
  jx_all1 (sd_gM (pc := 4) kf_26 (f := 0) (q := (jx_f2 14 0)) (idx := 15) (by decide +kernel) rfl wd_291 rfl) <|
  jx_all1 (sd_gI (pc := 7) kf_14 (f := 3) (q := jx_f0) (idx := 58) (by decide +kernel) rfl wd_175 rfl) <|
  jx_all1 (sd_icgt (pc := 10) (off := 58) (by decide +kernel) (by decide +kernel)) <|
  jx_all1 (sd_iload_n (pc := 13) (q := 1) (by decide +kernel) rfl) <|
  jx_all1 (sd_iconst (pc := 14) (n := 1) (by decide +kernel) (by decide +kernel)) <|
  jx_all1 (sd_ixor (pc := 15) (by decide +kernel)) <|
  jx_all1 (sd_istore_n (pc := 16) (q := 2) (by decide +kernel) rfl) <|
  jx_all1 (sd_aload_n (pc := 17) (q := 0) (by decide +kernel) rfl) <|
  jx_all1 (sd_iload_n (pc := 18) (q := 1) (by decide +kernel) rfl) <|
  jx_all1 (sd_vL (pc := 19) (idx := 61) (kd := 26) (by decide +kernel) mf_94 wd_736 rfl rfl) <|
  jx_all1 (sd_lstore_n (pc := 22) (q := 3) (by decide +kernel) rfl) <|
  jx_all1 (sd_iload_n (pc := 23) (q := 2) (by decide +kernel) rfl) <|
  jx_all1 (sd_istore (pc := 24) (by decide +kernel)) <|
  jx_all1 (sd_iload (pc := 26) (by decide +kernel)) <|
  jx_all1 (sd_ifle (pc := 28) (off := 27) (by decide +kernel) (by decide +kernel)) <|
  jx_all1 (sd_lload_n (pc := 31) (q := 3) (by decide +kernel) rfl) <|
  jx_all1 (sd_aload_n (pc := 32) (q := 0) (by decide +kernel) rfl) <|
  jx_all1 (sd_iload_n (pc := 33) (q := 1) (by decide +kernel) rfl) <|
  jx_all1 (sd_iload (pc := 34) (by decide +kernel)) <|
  jx_all1 (sd_ixor (pc := 36) (by decide +kernel)) <|
  jx_all1 (sd_iload (pc := 37) (by decide +kernel)) <|
  jx_all1 (sd_vL (pc := 39) (idx := 65) (kd := 26) (by decide +kernel) mf_95 wd_741 rfl rfl) <|
  jx_all1 (sd_lsub (pc := 42) (by decide +kernel)) <|
  jx_all1 (sd_lstore_n (pc := 43) (q := 3) (by decide +kernel) rfl) <|
  jx_all1 (sd_iload (pc := 44) (by decide +kernel)) <|
  jx_all1 (sd_iconst (pc := 46) (n := 1) (by decide +kernel) (by decide +kernel)) <|
  jx_all1 (sd_isub (pc := 47) (by decide +kernel)) <|
  jx_all1 (sd_iload_n (pc := 48) (q := 2) (by decide +kernel) rfl) <|
  jx_all1 (sd_iand (pc := 49) (by decide +kernel)) <|
  jx_all1 (sd_istore (pc := 50) (by decide +kernel)) <|
  jx_all1 (sd_goto (pc := 52) (off := (-26)) (by decide +kernel) (by decide +kernel)) <|
  jx_all1 (sd_aload_n (pc := 55) (q := 0) (by decide +kernel) rfl) <|
  jx_all1 (sd_gR (pc := 56) kf_26 (f := 2) (q := (jx_f1 27 0)) (idx := 9) (by decide +kernel) rfl wd_293 rfl) <|
  jx_all1 (sd_iload_n (pc := 59) (q := 1) (by decide +kernel) rfl) <|
  jx_all1 (sd_lload_n (pc := 60) (q := 3) (by decide +kernel) rfl) <|
  jx_all1 (sd_lastore (pc := 61) (by decide +kernel)) <|
  jx_all1 (sd_iinc (pc := 62) (n := 2) (by decide +kernel) (by decide +kernel)) <|
  jx_all1 (sd_goto (pc := 65) (off := (-63)) (by decide +kernel) (by decide +kernel)) <|
  jx_all1 (sd_aload_n (pc := 68) (q := 0) (by decide +kernel) rfl) <|
  jx_all1 (sd_gR (pc := 69) kf_26 (f := 2) (q := (jx_f1 27 0)) (idx := 9) (by decide +kernel) rfl wd_293 rfl) <|
  jx_all1 (sd_aload_n (pc := 72) (q := 0) (by decide +kernel) rfl) <|
  jx_all1 (sd_gM (pc := 73) kf_26 (f := 0) (q := (jx_f2 14 0)) (idx := 15) (by decide +kernel) rfl wd_291 rfl) <|
  jx_all1 (sd_gI (pc := 76) kf_14 (f := 3) (q := jx_f0) (idx := 58) (by decide +kernel) rfl wd_175 rfl) <|
  jx_all1 (sd_laload (pc := 79) (by decide +kernel)) <|
  jx_all1 (sd_lreturn (pc := 80) (by decide +kernel) rfl) <|
  jx_all0
set_option maxRecDepth 100000 in
theorem sn_94 (D : jx_D) : jx_all (fun q => jx_Snd cX0_allWays 2 RX0 (some .long) D q.1 q.2) (tb_94 D) := by
  unfold tb_94
  exact jx_all1 (sd_lconst (pc := 0) (n := 1) (by decide +kernel) (by decide +kernel)) <|
  jx_all1 (sd_iconst (pc := 1) (n := 3) (by decide +kernel) (by decide +kernel)) <|
  jx_all1 (sd_aload_n (pc := 2) (q := 0) (by decide +kernel) rfl) <|
  jx_all1 (sd_gM (pc := 3) kf_26 (f := 0) (q := (jx_f2 14 0)) (idx := 15) (by decide +kernel) rfl wd_291 rfl) <|
  jx_all1 (sd_gR (pc := 6) kf_14 (f := 7) (q := (jx_f1 15 0)) (idx := 75) (by decide +kernel) rfl wd_184 rfl) <|
  jx_all1 (sd_iload_n (pc := 9) (q := 1) (by decide +kernel) rfl) <|
  jx_all1 (sd_iaload (pc := 10) (by decide +kernel)) <|
  jx_all1 (sd_aload_n (pc := 11) (q := 0) (by decide +kernel) rfl) <|
  jx_all1 (sd_gM (pc := 12) kf_26 (f := 0) (q := (jx_f2 14 0)) (idx := 15) (by decide +kernel) rfl wd_291 rfl) <|
  jx_all1 (sd_gR (pc := 15) kf_14 (f := 8) (q := (jx_f1 16 0)) (idx := 78) (by decide +kernel) rfl wd_187 rfl) <|
  jx_all1 (sd_iload_n (pc := 18) (q := 1) (by decide +kernel) rfl) <|
  jx_all1 (sd_iaload (pc := 19) (by decide +kernel)) <|
  jx_all1 (sd_iand (pc := 20) (by decide +kernel)) <|
  jx_all1 (sd_cI (pc := 21) (idx := 81) (by decide +kernel) mf_1 (Or.inl wd_740)) <|
  jx_all1 (sd_imul (pc := 24) (by decide +kernel)) <|
  jx_all1 (sd_lshl (pc := 25) (by decide +kernel)) <|
  jx_all1 (sd_lreturn (pc := 26) (by decide +kernel) rfl) <|
  jx_all0
set_option maxRecDepth 100000 in
theorem sn_95 (D : jx_D) : jx_all (fun q => jx_Snd cX0_cutOff 7 RX0 (some .long) D q.1 q.2) (tb_95 D) := by
  unfold tb_95
  exact jx_all1 (sd_aload_n (pc := 0) (q := 0) (by decide +kernel) rfl) <|
  jx_all1 (sd_gR (pc := 1) kf_26 (f := 2) (q := (jx_f1 27 0)) (idx := 9) (by decide +kernel) rfl wd_293 rfl) <|
  jx_all1 (sd_iload_n (pc := 4) (q := 1) (by decide +kernel) rfl) <|
  jx_all1 (sd_laload (pc := 5) (by decide +kernel)) <|
  jx_all1 (sd_lstore_n (pc := 6) (q := 3) (by decide +kernel) rfl) <|
  jx_all1 (sd_lload_n (pc := 7) (q := 3) (by decide +kernel) rfl) <|
  jx_all1 (sd_lconst (pc := 8) (n := 0) (by decide +kernel) (by decide +kernel)) <|
  jx_all1 (sd_lcmp (pc := 9) (by decide +kernel)) <|
  jx_all1 (sd_ifne (pc := 10) (off := 5) (by decide +kernel) (by decide +kernel)) <|
  jx_all1 (sd_lconst (pc := 13) (n := 0) (by decide +kernel) (by decide +kernel)) <|
  jx_all1 (sd_lreturn (pc := 14) (by decide +kernel) rfl) <|
  jx_all1 (sd_aload_n (pc := 15) (q := 0) (by decide +kernel) rfl) <|
  jx_all1 (sd_gM (pc := 16) kf_26 (f := 0) (q := (jx_f2 14 0)) (idx := 15) (by decide +kernel) rfl wd_291 rfl) <|
  jx_all1 (sd_iload_n (pc := 19) (q := 1) (by decide +kernel) rfl) <|
  jx_all1 (sd_iload_n (pc := 20) (q := 2) (by decide +kernel) rfl) <|
  jx_all1 (sd_vI (pc := 21) (idx := 68) (kd := 14) (by decide +kernel) mf_50 wd_745 rfl rfl) <|
  jx_all1 (sd_istore (pc := 24) (by decide +kernel)) <|
  jx_all1 (sd_iconst (pc := 26) (n := 0) (by decide +kernel) (by decide +kernel)) <|
  jx_all1 (sd_istore (pc := 27) (by decide +kernel)) <|
  jx_all1 (sd_iload (pc := 29) (by decide +kernel)) <|
  jx_all1 (sd_bipush (pc := 31) (n := 20) (by decide +kernel) (by decide +kernel)) <|
  jx_all1 (sd_icge (pc := 33) (off := 43) (by decide +kernel) (by decide +kernel)) <|
  jx_all1 (sd_iload (pc := 36) (by decide +kernel)) <|
  jx_all1 (sd_ifeq (pc := 38) (off := 38) (by decide +kernel) (by decide +kernel)) <|
  jx_all1 (sd_lload_n (pc := 41) (q := 3) (by decide +kernel) rfl) <|
  jx_all1 (sd_bipush (pc := 42) (n := 8) (by decide +kernel) (by decide +kernel)) <|
  jx_all1 (sd_aload_n (pc := 44) (q := 0) (by decide +kernel) rfl) <|
  jx_all1 (sd_gM (pc := 45) kf_26 (f := 1) (q := (jx_f2 1 0)) (idx := 19) (by decide +kernel) rfl wd_292 rfl) <|
  jx_all1 (sd_gR (pc := 48) kf_1 (f := 6) (q := (jx_fi 5)) (idx := 48) (by decide +kernel) rfl wd_101 rfl) <|
  jx_all1 (sd_iload (pc := 51) (by decide +kernel)) <|
  jx_all1 (sd_cI (pc := 53) (idx := 72) (by decide +kernel) mf_63 (Or.inr ⟨RX9, by decide +kernel⟩)) <|
  jx_all1 (sd_iaload (pc := 56) (by decide +kernel)) <|
  jx_all1 (sd_isub (pc := 57) (by decide +kernel)) <|
  jx_all1 (sd_i2l (pc := 58) (by decide +kernel)) <|
  jx_all1 (sd_lmul (pc := 59) (by decide +kernel)) <|
  jx_all1 (sd_lstore_n (pc := 60) (q := 3) (by decide +kernel) rfl) <|
  jx_all1 (sd_iload (pc := 61) (by decide +kernel)) <|
  jx_all1 (sd_iload (pc := 63) (by decide +kernel)) <|
  jx_all1 (sd_iconst (pc := 65) (n := 1) (by decide +kernel) (by decide +kernel)) <|
  jx_all1 (sd_isub (pc := 66) (by decide +kernel)) <|
  jx_all1 (sd_iand (pc := 67) (by decide +kernel)) <|
  jx_all1 (sd_istore (pc := 68) (by decide +kernel)) <|
  jx_all1 (sd_iinc (pc := 70) (n := 1) (by decide +kernel) (by decide +kernel)) <|
  jx_all1 (sd_goto (pc := 73) (off := (-44)) (by decide +kernel) (by decide +kernel)) <|
  jx_all1 (sd_lload_n (pc := 76) (q := 3) (by decide +kernel) rfl) <|
  jx_all1 (sd_lconst (pc := 77) (n := 0) (by decide +kernel) (by decide +kernel)) <|
  jx_all1 (sd_lcmp (pc := 78) (by decide +kernel)) <|
  jx_all1 (sd_ifne (pc := 79) (off := 7) (by decide +kernel) (by decide +kernel)) <|
  jx_all1 (sd_lconst (pc := 82) (n := 0) (by decide +kernel) (by decide +kernel)) <|
  jx_all1 (sd_goto (pc := 83) (off := 10) (by decide +kernel) (by decide +kernel)) <|
  jx_all1 (sd_lload_n (pc := 86) (q := 3) (by decide +kernel) rfl) <|
  jx_all1 (sd_aload_n (pc := 87) (q := 0) (by decide +kernel) rfl) <|
  jx_all1 (sd_iload_n (pc := 88) (q := 2) (by decide +kernel) rfl) <|
  jx_all1 (sd_vL (pc := 89) (idx := 61) (kd := 26) (by decide +kernel) mf_94 wd_736 rfl rfl) <|
  jx_all1 (sd_lmul (pc := 92) (by decide +kernel)) <|
  jx_all1 (sd_lreturn (pc := 93) (by decide +kernel) rfl) <|
  jx_all0
set_option maxRecDepth 100000 in
theorem sn_96 (D : jx_D) : jx_all (fun q => jx_Snd cX9_tell 2 RX9 (some .int) D q.1 q.2) (tb_96 D) := by
  unfold tb_96
  exact jx_all1 (sd_aload_n (pc := 0) (q := 0) (by decide +kernel) rfl) <|
  jx_all1 (sd_gI (pc := 1) kf_0 (f := 6) (q := jx_f0) (idx := 277) (by decide +kernel) rfl wd_307 rfl) <|
  jx_all1 (sd_bipush (pc := 4) (n := 60) (by decide +kernel) (by decide +kernel)) <|
  jx_all1 (sd_iclt (pc := 6) (off := 10) (by decide +kernel) (by decide +kernel)) <|
  jx_all1 (sd_aload_n (pc := 9) (q := 0) (by decide +kernel) rfl) <|
  jx_all1 (sd_bipush (pc := 10) (n := (-5)) (by decide +kernel) (by decide +kernel)) <|
  jx_all1 (sd_vI (pc := 12) (idx := 95) (kd := 0) (by decide +kernel) mf_8 wd_370 rfl rfl) <|
  jx_all1 (sd_ireturn (pc := 15) (by decide +kernel) rfl) <|
  jx_all1 (sd_aload_n (pc := 16) (q := 0) (by decide +kernel) rfl) <|
  jx_all1 (sd_gR (pc := 17) kf_0 (f := 5) (q := (jx_f1 13 0)) (idx := 38) (by decide +kernel) rfl wd_306 rfl) <|
  jx_all1 (sd_aload_n (pc := 20) (q := 0) (by decide +kernel) rfl) <|
  jx_all1 (sd_gI (pc := 21) kf_0 (f := 6) (q := jx_f0) (idx := 277) (by decide +kernel) rfl wd_307 rfl) <|
  jx_all1 (sd_iload_n (pc := 24) (q := 1) (by decide +kernel) rfl) <|
  jx_all1 (sd_iastore (pc := 25) (by decide +kernel)) <|
  jx_all1 (sd_aload_n (pc := 26) (q := 0) (by decide +kernel) rfl) <|
  jx_all1 (sd_dup (pc := 27) (by decide +kernel)) <|
  jx_all1 (sd_gI (pc := 28) kf_0 (f := 6) (q := jx_f0) (idx := 277) (by decide +kernel) rfl wd_307 rfl) <|
  jx_all1 (sd_iconst (pc := 31) (n := 1) (by decide +kernel) (by decide +kernel)) <|
  jx_all1 (sd_iadd (pc := 32) (by decide +kernel)) <|
  jx_all1 (sd_pI (pc := 33) kf_0 (f := 6) (q := jx_f0) (idx := 277) (by decide +kernel) rfl wd_307 rfl rfl rfl) <|
  jx_all1 (sd_aload_n (pc := 36) (q := 0) (by decide +kernel) rfl) <|
  jx_all1 (sd_gI (pc := 37) kf_0 (f := 6) (q := jx_f0) (idx := 277) (by decide +kernel) rfl wd_307 rfl) <|
  jx_all1 (sd_ireturn (pc := 40) (by decide +kernel) rfl) <|
  jx_all0
set_option maxRecDepth 100000 in
theorem sn_97 (D : jx_D) : jx_all (fun q => jx_Snd cX9_would 2 RX9 (some .int) D q.1 q.2) (tb_97 D) := by
  unfold tb_97
  exact jx_all1 (sd_aload_n (pc := 0) (q := 0) (by decide +kernel) rfl) <|
  jx_all1 (sd_gI (pc := 1) kf_0 (f := 6) (q := jx_f0) (idx := 277) (by decide +kernel) rfl wd_307 rfl) <|
  jx_all1 (sd_istore_n (pc := 4) (q := 1) (by decide +kernel) rfl) <|
  jx_all1 (sd_aload_n (pc := 5) (q := 0) (by decide +kernel) rfl) <|
  jx_all1 (sd_iconst (pc := 6) (n := 0) (by decide +kernel) (by decide +kernel)) <|
  jx_all1 (sd_pI (pc := 7) kf_0 (f := 6) (q := jx_f0) (idx := 277) (by decide +kernel) rfl wd_307 rfl rfl rfl) <|
  jx_all1 (sd_iload_n (pc := 10) (q := 1) (by decide +kernel) rfl) <|
  jx_all1 (sd_iconst (pc := 11) (n := 2) (by decide +kernel) (by decide +kernel)) <|
  jx_all1 (sd_irem (pc := 12) (by decide +kernel)) <|
  jx_all1 (sd_ifeq (pc := 13) (off := 10) (by decide +kernel) (by decide +kernel)) <|
  jx_all1 (sd_aload_n (pc := 16) (q := 0) (by decide +kernel) rfl) <|
  jx_all1 (sd_bipush (pc := 17) (n := (-3)) (by decide +kernel) (by decide +kernel)) <|
  jx_all1 (sd_vI (pc := 19) (idx := 95) (kd := 0) (by decide +kernel) mf_8 wd_370 rfl rfl) <|
  jx_all1 (sd_ireturn (pc := 22) (by decide +kernel) rfl) <|
  jx_all1 (sd_aload_n (pc := 23) (q := 0) (by decide +kernel) rfl) <|
  jx_all1 (sd_aload_n (pc := 24) (q := 0) (by decide +kernel) rfl) <|
  jx_all1 (sd_gR (pc := 25) kf_0 (f := 5) (q := (jx_f1 13 0)) (idx := 38) (by decide +kernel) rfl wd_306 rfl) <|
  jx_all1 (sd_iload_n (pc := 28) (q := 1) (by decide +kernel) rfl) <|
  jx_all1 (sd_iconst (pc := 29) (n := 2) (by decide +kernel) (by decide +kernel)) <|
  jx_all1 (sd_idiv (pc := 30) (by decide +kernel)) <|
  jx_all1 (sd_vI (pc := 31) (idx := 184) (kd := 0) (by decide +kernel) mf_36 wd_481 rfl rfl) <|
  jx_all1 (sd_ifeq (pc := 34) (off := 9) (by decide +kernel) (by decide +kernel)) <|
  jx_all1 (sd_aload_n (pc := 37) (q := 0) (by decide +kernel) rfl) <|
  jx_all1 (sd_iconst (pc := 38) (n := (-1)) (by decide +kernel) (by decide +kernel)) <|
  jx_all1 (sd_vI (pc := 39) (idx := 95) (kd := 0) (by decide +kernel) mf_8 wd_370 rfl rfl) <|
  jx_all1 (sd_ireturn (pc := 42) (by decide +kernel) rfl) <|
  jx_all1 (sd_aload_n (pc := 43) (q := 0) (by decide +kernel) rfl) <|
  jx_all1 (sd_gR (pc := 44) kf_0 (f := 8) (q := (jx_f1 14 0)) (idx := 44) (by decide +kernel) rfl wd_309 rfl) <|
  jx_all1 (sd_aload_n (pc := 47) (q := 0) (by decide +kernel) rfl) <|
  jx_all1 (sd_gR (pc := 48) kf_0 (f := 0) (q := (jx_f1 1 0)) (idx := 12) (by decide +kernel) rfl wd_301 rfl) <|
  jx_all1 (sd_vV (pc := 51) (idx := 188) (kd := 14) (by decide +kernel) mf_38 wd_489 rfl rfl) <|
  jx_all1 (sd_aload_n (pc := 54) (q := 0) (by decide +kernel) rfl) <|
  jx_all1 (sd_gR (pc := 55) kf_0 (f := 8) (q := (jx_f1 14 0)) (idx := 44) (by decide +kernel) rfl wd_309 rfl) <|
  jx_all1 (sd_aload_n (pc := 58) (q := 0) (by decide +kernel) rfl) <|
  jx_all1 (sd_gR (pc := 59) kf_0 (f := 5) (q := (jx_f1 13 0)) (idx := 38) (by decide +kernel) rfl wd_306 rfl) <|
  jx_all1 (sd_iload_n (pc := 62) (q := 1) (by decide +kernel) rfl) <|
  jx_all1 (sd_iconst (pc := 63) (n := 2) (by decide +kernel) (by decide +kernel)) <|
  jx_all1 (sd_idiv (pc := 64) (by decide +kernel)) <|
  jx_all1 (sd_vI (pc := 65) (idx := 280) (kd := 14) (by decide +kernel) mf_98 wd_755 rfl rfl) <|
  jx_all1 (sd_ireturn (pc := 68) (by decide +kernel) rfl) <|
  jx_all0
set_option maxRecDepth 100000 in
theorem sn_98 (D : jx_D) : jx_all (fun q => jx_Snd cX6_holdWithPairs 10 RX6 (some .int) D q.1 q.2) (tb_98 D) := by
  unfold tb_98
  exact jx_all1 (sd_aload_n (pc := 0) (q := 0) (by decide +kernel) rfl) <|
  jx_all1 (sd_gI (pc := 1) kf_14 (f := 0) (q := jx_f0) (idx := 30) (by decide +kernel) rfl wd_166 rfl) <|
  jx_all1 (sd_iconst (pc := 4) (n := 2) (by decide +kernel) (by decide +kernel)) <|
  jx_all1 (sd_icge (pc := 5) (off := 5) (by decide +kernel) (by decide +kernel)) <|
  jx_all1 (sd_iconst (pc := 8) (n := 0) (by decide +kernel) (by decide +kernel)) <|
  jx_all1 (sd_ireturn (pc := 9) (by decide +kernel) rfl) <|
  jx_all1 (sd_aload_n (pc := 10) (q := 0) (by decide +kernel) rfl) <|
  jx_all1 (sd_gI (pc := 11) kf_14 (f := 1) (q := jx_f0) (idx := 34) (by decide +kernel) rfl wd_167 rfl) <|
  jx_all1 (sd_iload_n (pc := 14) (q := 2) (by decide +kernel) rfl) <|
  jx_all1 (sd_iadd (pc := 15) (by decide +kernel)) <|
  jx_all1 (sd_istore_n (pc := 16) (q := 3) (by decide +kernel) rfl) <|
  jx_all1 (sd_iconst (pc := 17) (n := 1) (by decide +kernel) (by decide +kernel)) <|
  jx_all1 (sd_istore (pc := 18) (by decide +kernel)) <|
  jx_all1 (sd_iload (pc := 20) (by decide +kernel)) <|
  jx_all1 (sd_aload_n (pc := 22) (q := 0) (by decide +kernel) rfl) <|
  jx_all1 (sd_gI (pc := 23) kf_14 (f := 5) (q := jx_f0) (idx := 50) (by decide +kernel) rfl wd_180 rfl) <|
  jx_all1 (sd_icge (pc := 26) (off := 110) (by decide +kernel) (by decide +kernel)) <|
  jx_all1 (sd_iload (pc := 29) (by decide +kernel)) <|
  jx_all1 (sd_aload_n (pc := 31) (q := 0) (by decide +kernel) rfl) <|
  jx_all1 (sd_gI (pc := 32) kf_14 (f := 6) (q := jx_f0) (idx := 53) (by decide +kernel) rfl wd_181 rfl) <|
  jx_all1 (sd_ishl (pc := 35) (by decide +kernel)) <|
  jx_all1 (sd_istore (pc := 36) (by decide +kernel)) <|
  jx_all1 (sd_aload_n (pc := 38) (q := 0) (by decide +kernel) rfl) <|
  jx_all1 (sd_gR (pc := 39) kf_14 (f := 10) (q := (jx_f1 18 0)) (idx := 21) (by decide +kernel) rfl wd_189 rfl) <|
  jx_all1 (sd_iload (pc := 42) (by decide +kernel)) <|
  jx_all1 (sd_iaload (pc := 44) (by decide +kernel)) <|
  jx_all1 (sd_cI (pc := 45) (idx := 70) (by decide +kernel) mf_1 (Or.inl wd_503)) <|
  jx_all1 (sd_istore (pc := 48) (by decide +kernel)) <|
  jx_all1 (sd_iconst (pc := 50) (n := 0) (by decide +kernel) (by decide +kernel)) <|
  jx_all1 (sd_istore (pc := 51) (by decide +kernel)) <|
  jx_all1 (sd_iload (pc := 53) (by decide +kernel)) <|
  jx_all1 (sd_iload_n (pc := 55) (q := 2) (by decide +kernel) rfl) <|
  jx_all1 (sd_icge (pc := 56) (off := 67) (by decide +kernel) (by decide +kernel)) <|
  jx_all1 (sd_iload (pc := 59) (by decide +kernel)) <|
  jx_all1 (sd_aload_n (pc := 61) (q := 1) (by decide +kernel) rfl) <|
  jx_all1 (sd_iconst (pc := 62) (n := 2) (by decide +kernel) (by decide +kernel)) <|
  jx_all1 (sd_iload (pc := 63) (by decide +kernel)) <|
  jx_all1 (sd_imul (pc := 65) (by decide +kernel)) <|
  jx_all1 (sd_iaload (pc := 66) (by decide +kernel)) <|
  jx_all1 (sd_cI (pc := 67) (idx := 66) (by decide +kernel) mf_19 (Or.inr ⟨RX9, by decide +kernel⟩)) <|
  jx_all1 (sd_istore (pc := 70) (by decide +kernel)) <|
  jx_all1 (sd_iload (pc := 72) (by decide +kernel)) <|
  jx_all1 (sd_aload_n (pc := 74) (q := 1) (by decide +kernel) rfl) <|
  jx_all1 (sd_iconst (pc := 75) (n := 2) (by decide +kernel) (by decide +kernel)) <|
  jx_all1 (sd_iload (pc := 76) (by decide +kernel)) <|
  jx_all1 (sd_imul (pc := 78) (by decide +kernel)) <|
  jx_all1 (sd_iconst (pc := 79) (n := 1) (by decide +kernel) (by decide +kernel)) <|
  jx_all1 (sd_iadd (pc := 80) (by decide +kernel)) <|
  jx_all1 (sd_iaload (pc := 81) (by decide +kernel)) <|
  jx_all1 (sd_cI (pc := 82) (idx := 66) (by decide +kernel) mf_19 (Or.inr ⟨RX9, by decide +kernel⟩)) <|
  jx_all1 (sd_istore (pc := 85) (by decide +kernel)) <|
  jx_all1 (sd_aload_n (pc := 87) (q := 0) (by decide +kernel) rfl) <|
  jx_all1 (sd_gI (pc := 88) kf_14 (f := 2) (q := jx_f0) (idx := 39) (by decide +kernel) rfl wd_170 rfl) <|
  jx_all1 (sd_ifeq (pc := 91) (off := 16) (by decide +kernel) (by decide +kernel)) <|
  jx_all1 (sd_iload (pc := 94) (by decide +kernel)) <|
  jx_all1 (sd_ifeq (pc := 96) (off := 21) (by decide +kernel) (by decide +kernel)) <|
  jx_all1 (sd_iload (pc := 99) (by decide +kernel)) <|
  jx_all1 (sd_ifne (pc := 101) (off := 16) (by decide +kernel) (by decide +kernel)) <|
  jx_all1 (sd_goto (pc := 104) (off := 10) (by decide +kernel) (by decide +kernel)) <|
  jx_all1 (sd_iload (pc := 107) (by decide +kernel)) <|
  jx_all1 (sd_iload (pc := 109) (by decide +kernel)) <|
  jx_all1 (sd_iceq (pc := 111) (off := 6) (by decide +kernel) (by decide +kernel)) <|
  jx_all1 (sd_iinc (pc := 114) (n := 1) (by decide +kernel) (by decide +kernel)) <|
  jx_all1 (sd_iinc (pc := 117) (n := 1) (by decide +kernel) (by decide +kernel)) <|
  jx_all1 (sd_goto (pc := 120) (off := (-67)) (by decide +kernel) (by decide +kernel)) <|
  jx_all1 (sd_iload_n (pc := 123) (q := 3) (by decide +kernel) rfl) <|
  jx_all1 (sd_iload (pc := 124) (by decide +kernel)) <|
  jx_all1 (sd_mmin (pc := 126) (idx := 75) (by decide +kernel) wd_509 wd_360 wd_61 wd_361) <|
  jx_all1 (sd_istore_n (pc := 129) (q := 3) (by decide +kernel) rfl) <|
  jx_all1 (sd_iinc (pc := 130) (n := 1) (by decide +kernel) (by decide +kernel)) <|
  jx_all1 (sd_goto (pc := 133) (off := (-113)) (by decide +kernel) (by decide +kernel)) <|
  jx_all1 (sd_iload_n (pc := 136) (q := 3) (by decide +kernel) rfl) <|
  jx_all1 (sd_ireturn (pc := 137) (by decide +kernel) rfl) <|
  jx_all0
set_option maxRecDepth 100000 in
theorem sn_99 (D : jx_D) : jx_all (fun q => jx_Snd cX9_way 5 RX9 (some .int) D q.1 q.2) (tb_99 D) := by
  unfold tb_99
  exact jx_all1 (sd_aload_n (pc := 0) (q := 0) (by decide +kernel) rfl) <|
  jx_all1 (sd_gI (pc := 1) kf_0 (f := 6) (q := jx_f0) (idx := 277) (by decide +kernel) rfl wd_307 rfl) <|
  jx_all1 (sd_istore_n (pc := 4) (q := 3) (by decide +kernel) rfl) <|
  jx_all1 (sd_aload_n (pc := 5) (q := 0) (by decide +kernel) rfl) <|
  jx_all1 (sd_iconst (pc := 6) (n := 0) (by decide +kernel) (by decide +kernel)) <|
  jx_all1 (sd_pI (pc := 7) kf_0 (f := 6) (q := jx_f0) (idx := 277) (by decide +kernel) rfl wd_307 rfl rfl rfl) <|
  jx_all1 (sd_aload_n (pc := 10) (q := 0) (by decide +kernel) rfl) <|
  jx_all1 (sd_iload_n (pc := 11) (q := 1) (by decide +kernel) rfl) <|
  jx_all1 (sd_iload_n (pc := 12) (q := 2) (by decide +kernel) rfl) <|
  jx_all1 (sd_vI (pc := 13) (idx := 103) (kd := 0) (by decide +kernel) mf_11 wd_382 rfl rfl) <|
  jx_all1 (sd_istore (pc := 16) (by decide +kernel)) <|
  jx_all1 (sd_iload (pc := 18) (by decide +kernel)) <|
  jx_all1 (sd_ifeq (pc := 20) (off := 10) (by decide +kernel) (by decide +kernel)) <|
  jx_all1 (sd_aload_n (pc := 23) (q := 0) (by decide +kernel) rfl) <|
  jx_all1 (sd_iload (pc := 24) (by decide +kernel)) <|
  jx_all1 (sd_vI (pc := 26) (idx := 95) (kd := 0) (by decide +kernel) mf_8 wd_370 rfl rfl) <|
  jx_all1 (sd_ireturn (pc := 29) (by decide +kernel) rfl) <|
  jx_all1 (sd_aload_n (pc := 30) (q := 0) (by decide +kernel) rfl) <|
  jx_all1 (sd_gR (pc := 31) kf_0 (f := 0) (q := (jx_f1 1 0)) (idx := 12) (by decide +kernel) rfl wd_301 rfl) <|
  jx_all1 (sd_iload_n (pc := 34) (q := 1) (by decide +kernel) rfl) <|
  jx_all1 (sd_aload_n (pc := 35) (q := 0) (by decide +kernel) rfl) <|
  jx_all1 (sd_gR (pc := 36) kf_0 (f := 5) (q := (jx_f1 13 0)) (idx := 38) (by decide +kernel) rfl wd_306 rfl) <|
  jx_all1 (sd_iload_n (pc := 39) (q := 3) (by decide +kernel) rfl) <|
  jx_all1 (sd_vI (pc := 40) (idx := 283) (kd := 1) (by decide +kernel) mf_100 wd_763 rfl rfl) <|
  jx_all1 (sd_iload_n (pc := 43) (q := 2) (by decide +kernel) rfl) <|
  jx_all1 (sd_icne (pc := 44) (off := 7) (by decide +kernel) (by decide +kernel)) <|
  jx_all1 (sd_iconst (pc := 47) (n := 1) (by decide +kernel) (by decide +kernel)) <|
  jx_all1 (sd_goto (pc := 48) (off := 4) (by decide +kernel) (by decide +kernel)) <|
  jx_all1 (sd_iconst (pc := 51) (n := 0) (by decide +kernel) (by decide +kernel)) <|
  jx_all1 (sd_ireturn (pc := 52) (by decide +kernel) rfl) <|
  jx_all0
set_option maxRecDepth 100000 in
theorem sn_100 (D : jx_D) : jx_all (fun q => jx_Snd cX3_endOfWay 7 RX3 (some .int) D q.1 q.2) (tb_100 D) := by
  unfold tb_100
  exact jx_all1 (sd_iload_n (pc := 0) (q := 1) (by decide +kernel) rfl) <|
  jx_all1 (sd_istore (pc := 1) (by decide +kernel)) <|
  jx_all1 (sd_iconst (pc := 3) (n := 1) (by decide +kernel) (by decide +kernel)) <|
  jx_all1 (sd_iload_n (pc := 4) (q := 1) (by decide +kernel) rfl) <|
  jx_all1 (sd_ishl (pc := 5) (by decide +kernel)) <|
  jx_all1 (sd_istore (pc := 6) (by decide +kernel)) <|
  jx_all1 (sd_iconst (pc := 8) (n := 0) (by decide +kernel) (by decide +kernel)) <|
  jx_all1 (sd_istore (pc := 9) (by decide +kernel)) <|
  jx_all1 (sd_iload (pc := 11) (by decide +kernel)) <|
  jx_all1 (sd_iload_n (pc := 13) (q := 3) (by decide +kernel) rfl) <|
  jx_all1 (sd_icge (pc := 14) (off := 47) (by decide +kernel) (by decide +kernel)) <|
  jx_all1 (sd_aload_n (pc := 17) (q := 0) (by decide +kernel) rfl) <|
  jx_all1 (sd_aload_n (pc := 18) (q := 2) (by decide +kernel) rfl) <|
  jx_all1 (sd_iload (pc := 19) (by decide +kernel)) <|
  jx_all1 (sd_iaload (pc := 21) (by decide +kernel)) <|
  jx_all1 (sd_iload (pc := 22) (by decide +kernel)) <|
  jx_all1 (sd_vI (pc := 24) (idx := 53) (kd := 1) (by decide +kernel) mf_101 wd_767 rfl rfl) <|
  jx_all1 (sd_istore (pc := 27) (by decide +kernel)) <|
  jx_all1 (sd_iload (pc := 29) (by decide +kernel)) <|
  jx_all1 (sd_iflt (pc := 31) (off := 13) (by decide +kernel) (by decide +kernel)) <|
  jx_all1 (sd_iload (pc := 34) (by decide +kernel)) <|
  jx_all1 (sd_iload (pc := 36) (by decide +kernel)) <|
  jx_all1 (sd_cI (pc := 38) (idx := 41) (by decide +kernel) mf_19 (Or.inr ⟨RX9, by decide +kernel⟩)) <|
  jx_all1 (sd_ifeq (pc := 41) (off := 5) (by decide +kernel) (by decide +kernel)) <|
  jx_all1 (sd_iconst (pc := 44) (n := (-1)) (by decide +kernel) (by decide +kernel)) <|
  jx_all1 (sd_ireturn (pc := 45) (by decide +kernel) rfl) <|
  jx_all1 (sd_iload (pc := 46) (by decide +kernel)) <|
  jx_all1 (sd_iconst (pc := 48) (n := 1) (by decide +kernel) (by decide +kernel)) <|
  jx_all1 (sd_iload (pc := 49) (by decide +kernel)) <|
  jx_all1 (sd_ishl (pc := 51) (by decide +kernel)) <|
  jx_all1 (sd_ior (pc := 52) (by decide +kernel)) <|
  jx_all1 (sd_istore (pc := 53) (by decide +kernel)) <|
  jx_all1 (sd_iinc (pc := 55) (n := 1) (by decide +kernel) (by decide +kernel)) <|
  jx_all1 (sd_goto (pc := 58) (off := (-47)) (by decide +kernel) (by decide +kernel)) <|
  jx_all1 (sd_iload (pc := 61) (by decide +kernel)) <|
  jx_all1 (sd_ireturn (pc := 63) (by decide +kernel) rfl) <|
  jx_all0
set_option maxRecDepth 100000 in
theorem sn_101 (D : jx_D) : jx_all (fun q => jx_Snd cX3_otherEnd 3 RX3 (some .int) D q.1 q.2) (tb_101 D) := by
  unfold tb_101
  exact jx_all1 (sd_iload_n (pc := 0) (q := 1) (by decide +kernel) rfl) <|
  jx_all1 (sd_iflt (pc := 1) (off := 11) (by decide +kernel) (by decide +kernel)) <|
  jx_all1 (sd_iload_n (pc := 4) (q := 1) (by decide +kernel) rfl) <|
  jx_all1 (sd_aload_n (pc := 5) (q := 0) (by decide +kernel) rfl) <|
  jx_all1 (sd_gI (pc := 6) kf_1 (f := 1) (q := jx_f0) (idx := 28) (by decide +kernel) rfl wd_81 rfl) <|
  jx_all1 (sd_iclt (pc := 9) (off := 5) (by decide +kernel) (by decide +kernel)) <|
  jx_all1 (sd_iconst (pc := 12) (n := (-1)) (by decide +kernel) (by decide +kernel)) <|
  jx_all1 (sd_ireturn (pc := 13) (by decide +kernel) rfl) <|
  jx_all1 (sd_aload_n (pc := 14) (q := 0) (by decide +kernel) rfl) <|
  jx_all1 (sd_gR (pc := 15) kf_1 (f := 3) (q := (jx_fi 2)) (idx := 9) (by decide +kernel) rfl wd_89 rfl) <|
  jx_all1 (sd_iload_n (pc := 18) (q := 1) (by decide +kernel) rfl) <|
  jx_all1 (sd_iaload (pc := 19) (by decide +kernel)) <|
  jx_all1 (sd_iload_n (pc := 20) (q := 2) (by decide +kernel) rfl) <|
  jx_all1 (sd_icne (pc := 21) (off := 10) (by decide +kernel) (by decide +kernel)) <|
  jx_all1 (sd_aload_n (pc := 24) (q := 0) (by decide +kernel) rfl) <|
  jx_all1 (sd_gR (pc := 25) kf_1 (f := 4) (q := (jx_fi 3)) (idx := 15) (by decide +kernel) rfl wd_93 rfl) <|
  jx_all1 (sd_iload_n (pc := 28) (q := 1) (by decide +kernel) rfl) <|
  jx_all1 (sd_iaload (pc := 29) (by decide +kernel)) <|
  jx_all1 (sd_ireturn (pc := 30) (by decide +kernel) rfl) <|
  jx_all1 (sd_aload_n (pc := 31) (q := 0) (by decide +kernel) rfl) <|
  jx_all1 (sd_gI (pc := 32) kf_1 (f := 2) (q := jx_f0) (idx := 31) (by decide +kernel) rfl wd_86 rfl) <|
  jx_all1 (sd_ifne (pc := 35) (off := 22) (by decide +kernel) (by decide +kernel)) <|
  jx_all1 (sd_aload_n (pc := 38) (q := 0) (by decide +kernel) rfl) <|
  jx_all1 (sd_gR (pc := 39) kf_1 (f := 4) (q := (jx_fi 3)) (idx := 15) (by decide +kernel) rfl wd_93 rfl) <|
  jx_all1 (sd_iload_n (pc := 42) (q := 1) (by decide +kernel) rfl) <|
  jx_all1 (sd_iaload (pc := 43) (by decide +kernel)) <|
  jx_all1 (sd_iload_n (pc := 44) (q := 2) (by decide +kernel) rfl) <|
  jx_all1 (sd_icne (pc := 45) (off := 12) (by decide +kernel) (by decide +kernel)) <|
  jx_all1 (sd_aload_n (pc := 48) (q := 0) (by decide +kernel) rfl) <|
  jx_all1 (sd_gR (pc := 49) kf_1 (f := 3) (q := (jx_fi 2)) (idx := 9) (by decide +kernel) rfl wd_89 rfl) <|
  jx_all1 (sd_iload_n (pc := 52) (q := 1) (by decide +kernel) rfl) <|
  jx_all1 (sd_iaload (pc := 53) (by decide +kernel)) <|
  jx_all1 (sd_goto (pc := 54) (off := 4) (by decide +kernel) (by decide +kernel)) <|
  jx_all1 (sd_iconst (pc := 57) (n := (-1)) (by decide +kernel) (by decide +kernel)) <|
  jx_all1 (sd_ireturn (pc := 58) (by decide +kernel) rfl) <|
  jx_all0
set_option maxRecDepth 100000 in
theorem sn_102 (D : jx_D) : jx_all (fun q => jx_Snd cX9_keep 2 RX9 (some .int) D q.1 q.2) (tb_102 D) := by
  unfold tb_102
  exact jx_all1 (sd_iload_n (pc := 0) (q := 1) (by decide +kernel) rfl) <|
  jx_all1 (sd_cI (pc := 1) (idx := 287) (by decide +kernel) mf_103 (Or.inl wd_775)) <|
  jx_all1 (sd_ifeq (pc := 4) (off := 9) (by decide +kernel) (by decide +kernel)) <|
  jx_all1 (sd_aload_n (pc := 7) (q := 0) (by decide +kernel) rfl) <|
  jx_all1 (sd_iconst (pc := 8) (n := (-1)) (by decide +kernel) (by decide +kernel)) <|
  jx_all1 (sd_vI (pc := 9) (idx := 95) (kd := 0) (by decide +kernel) mf_8 wd_370 rfl rfl) <|
  jx_all1 (sd_ireturn (pc := 12) (by decide +kernel) rfl) <|
  jx_all1 (sd_aload_n (pc := 13) (q := 0) (by decide +kernel) rfl) <|
  jx_all1 (sd_gR (pc := 14) kf_0 (f := 2) (q := (jx_f1 8 0)) (idx := 23) (by decide +kernel) rfl wd_303 rfl) <|
  jx_all1 (sd_iload_n (pc := 17) (q := 1) (by decide +kernel) rfl) <|
  jx_all1 (sd_aaload (pc := 18) (by decide +kernel)) <|
  jx_all1 (sd_aload_n (pc := 19) (q := 0) (by decide +kernel) rfl) <|
  jx_all1 (sd_gR (pc := 20) kf_0 (f := 0) (q := (jx_f1 1 0)) (idx := 12) (by decide +kernel) rfl wd_301 rfl) <|
  jx_all1 (sd_vV (pc := 23) (idx := 290) (kd := 1) (by decide +kernel) mf_5 wd_778 rfl rfl) <|
  jx_all1 (sd_aload_n (pc := 26) (q := 0) (by decide +kernel) rfl) <|
  jx_all1 (sd_gR (pc := 27) kf_0 (f := 3) (q := (jx_f1 9 0)) (idx := 27) (by decide +kernel) rfl wd_304 rfl) <|
  jx_all1 (sd_iload_n (pc := 30) (q := 1) (by decide +kernel) rfl) <|
  jx_all1 (sd_aload_n (pc := 31) (q := 0) (by decide +kernel) rfl) <|
  jx_all1 (sd_vI (pc := 32) (idx := 292) (kd := 0) (by decide +kernel) mf_104 wd_779 rfl rfl) <|
  jx_all1 (sd_iastore (pc := 35) (by decide +kernel)) <|
  jx_all1 (sd_aload_n (pc := 36) (q := 0) (by decide +kernel) rfl) <|
  jx_all1 (sd_gR (pc := 37) kf_0 (f := 3) (q := (jx_f1 9 0)) (idx := 27) (by decide +kernel) rfl wd_304 rfl) <|
  jx_all1 (sd_iload_n (pc := 40) (q := 1) (by decide +kernel) rfl) <|
  jx_all1 (sd_iaload (pc := 41) (by decide +kernel)) <|
  jx_all1 (sd_ireturn (pc := 42) (by decide +kernel) rfl) <|
  jx_all0
set_option maxRecDepth 100000 in
theorem sn_103 (D : jx_D) : jx_all (fun q => jx_Snd cX9_isNoSlot 1 RX9 (some .boolean) D q.1 q.2) (tb_103 D) := by
  unfold tb_103
  exact jx_all1 (sd_iload_n (pc := 0) (q := 0) (by decide +kernel) rfl) <|
  jx_all1 (sd_iflt (pc := 1) (off := 8) (by decide +kernel) (by decide +kernel)) <|
  jx_all1 (sd_iload_n (pc := 4) (q := 0) (by decide +kernel) rfl) <|
  jx_all1 (sd_iconst (pc := 5) (n := 4) (by decide +kernel) (by decide +kernel)) <|
  jx_all1 (sd_iclt (pc := 6) (off := 7) (by decide +kernel) (by decide +kernel)) <|
  jx_all1 (sd_iconst (pc := 9) (n := 1) (by decide +kernel) (by decide +kernel)) <|
  jx_all1 (sd_goto (pc := 10) (off := 4) (by decide +kernel) (by decide +kernel)) <|
  jx_all1 (sd_iconst (pc := 13) (n := 0) (by decide +kernel) (by decide +kernel)) <|
  jx_all1 (sd_zreturn (pc := 14) (by decide +kernel) rfl) <|
  jx_all0
set_option maxRecDepth 100000 in
theorem sn_104 (D : jx_D) : jx_all (fun q => jx_Snd cX9_kindOfNet 1 RX9 (some .int) D q.1 q.2) (tb_104 D) := by
  unfold tb_104
  exact jx_all1 (sd_aload_n (pc := 0) (q := 0) (by decide +kernel) rfl) <|
  jx_all1 (sd_gR (pc := 1) kf_0 (f := 0) (q := (jx_f1 1 0)) (idx := 12) (by decide +kernel) rfl wd_301 rfl) <|
  jx_all1 (sd_gI (pc := 4) kf_1 (f := 2) (q := jx_f0) (idx := 212) (by decide +kernel) rfl wd_88 rfl) <|
  jx_all1 (sd_ifeq (pc := 7) (off := 5) (by decide +kernel) (by decide +kernel)) <|
  jx_all1 (sd_iconst (pc := 10) (n := 3) (by decide +kernel) (by decide +kernel)) <|
  jx_all1 (sd_ireturn (pc := 11) (by decide +kernel) rfl) <|
  jx_all1 (sd_aload_n (pc := 12) (q := 0) (by decide +kernel) rfl) <|
  jx_all1 (sd_gR (pc := 13) kf_0 (f := 8) (q := (jx_f1 14 0)) (idx := 44) (by decide +kernel) rfl wd_309 rfl) <|
  jx_all1 (sd_aload_n (pc := 16) (q := 0) (by decide +kernel) rfl) <|
  jx_all1 (sd_gR (pc := 17) kf_0 (f := 0) (q := (jx_f1 1 0)) (idx := 12) (by decide +kernel) rfl wd_301 rfl) <|
  jx_all1 (sd_vV (pc := 20) (idx := 188) (kd := 14) (by decide +kernel) mf_38 wd_489 rfl rfl) <|
  jx_all1 (sd_aload_n (pc := 23) (q := 0) (by decide +kernel) rfl) <|
  jx_all1 (sd_gR (pc := 24) kf_0 (f := 8) (q := (jx_f1 14 0)) (idx := 44) (by decide +kernel) rfl wd_309 rfl) <|
  jx_all1 (sd_aload_n (pc := 27) (q := 0) (by decide +kernel) rfl) <|
  jx_all1 (sd_gR (pc := 28) kf_0 (f := 8) (q := (jx_f1 14 0)) (idx := 44) (by decide +kernel) rfl wd_309 rfl) <|
  jx_all1 (sd_gI (pc := 31) kf_14 (f := 4) (q := jx_f0) (idx := 197) (by decide +kernel) rfl wd_179 rfl) <|
  jx_all1 (sd_iconst (pc := 34) (n := 2) (by decide +kernel) (by decide +kernel)) <|
  jx_all1 (sd_vI (pc := 35) (idx := 245) (kd := 14) (by decide +kernel) mf_70 wd_631 rfl rfl) <|
  jx_all1 (sd_ifeq (pc := 38) (off := 5) (by decide +kernel) (by decide +kernel)) <|
  jx_all1 (sd_iconst (pc := 41) (n := 2) (by decide +kernel) (by decide +kernel)) <|
  jx_all1 (sd_ireturn (pc := 42) (by decide +kernel) rfl) <|
  jx_all1 (sd_aload_n (pc := 43) (q := 0) (by decide +kernel) rfl) <|
  jx_all1 (sd_gR (pc := 44) kf_0 (f := 8) (q := (jx_f1 14 0)) (idx := 44) (by decide +kernel) rfl wd_309 rfl) <|
  jx_all1 (sd_aload_n (pc := 47) (q := 0) (by decide +kernel) rfl) <|
  jx_all1 (sd_gR (pc := 48) kf_0 (f := 8) (q := (jx_f1 14 0)) (idx := 44) (by decide +kernel) rfl wd_309 rfl) <|
  jx_all1 (sd_gI (pc := 51) kf_14 (f := 4) (q := jx_f0) (idx := 197) (by decide +kernel) rfl wd_179 rfl) <|
  jx_all1 (sd_vI (pc := 54) (idx := 225) (kd := 14) (by decide +kernel) mf_55 wd_567 rfl rfl) <|
  jx_all1 (sd_ifeq (pc := 57) (off := 7) (by decide +kernel) (by decide +kernel)) <|
  jx_all1 (sd_iconst (pc := 60) (n := 1) (by decide +kernel) (by decide +kernel)) <|
  jx_all1 (sd_goto (pc := 61) (off := 4) (by decide +kernel) (by decide +kernel)) <|
  jx_all1 (sd_iconst (pc := 64) (n := 0) (by decide +kernel) (by decide +kernel)) <|
  jx_all1 (sd_ireturn (pc := 65) (by decide +kernel) rfl) <|
  jx_all0
set_option maxRecDepth 100000 in
theorem sn_105 (D : jx_D) : jx_all (fun q => jx_Snd cX9_bring 2 RX9 (some .int) D q.1 q.2) (tb_105 D) := by
  unfold tb_105
  exact jx_all1 (sd_iload_n (pc := 0) (q := 1) (by decide +kernel) rfl) <|
  jx_all1 (sd_cI (pc := 1) (idx := 287) (by decide +kernel) mf_103 (Or.inl wd_775)) <|
  jx_all1 (sd_ifeq (pc := 4) (off := 9) (by decide +kernel) (by decide +kernel)) <|
  jx_all1 (sd_aload_n (pc := 7) (q := 0) (by decide +kernel) rfl) <|
  jx_all1 (sd_iconst (pc := 8) (n := (-1)) (by decide +kernel) (by decide +kernel)) <|
  jx_all1 (sd_vI (pc := 9) (idx := 95) (kd := 0) (by decide +kernel) mf_8 wd_370 rfl rfl) <|
  jx_all1 (sd_ireturn (pc := 12) (by decide +kernel) rfl) <|
  jx_all1 (sd_aload_n (pc := 13) (q := 0) (by decide +kernel) rfl) <|
  jx_all1 (sd_gR (pc := 14) kf_0 (f := 3) (q := (jx_f1 9 0)) (idx := 27) (by decide +kernel) rfl wd_304 rfl) <|
  jx_all1 (sd_iload_n (pc := 17) (q := 1) (by decide +kernel) rfl) <|
  jx_all1 (sd_iaload (pc := 18) (by decide +kernel)) <|
  jx_all1 (sd_iconst (pc := 19) (n := (-1)) (by decide +kernel) (by decide +kernel)) <|
  jx_all1 (sd_icne (pc := 20) (off := 10) (by decide +kernel) (by decide +kernel)) <|
  jx_all1 (sd_aload_n (pc := 23) (q := 0) (by decide +kernel) rfl) <|
  jx_all1 (sd_bipush (pc := 24) (n := (-6)) (by decide +kernel) (by decide +kernel)) <|
  jx_all1 (sd_vI (pc := 26) (idx := 95) (kd := 0) (by decide +kernel) mf_8 wd_370 rfl rfl) <|
  jx_all1 (sd_ireturn (pc := 29) (by decide +kernel) rfl) <|
  jx_all1 (sd_aload_n (pc := 30) (q := 0) (by decide +kernel) rfl) <|
  jx_all1 (sd_gR (pc := 31) kf_0 (f := 1) (q := (jx_f1 6 0)) (idx := 19) (by decide +kernel) rfl wd_302 rfl) <|
  jx_all1 (sd_aload_n (pc := 34) (q := 0) (by decide +kernel) rfl) <|
  jx_all1 (sd_gR (pc := 35) kf_0 (f := 0) (q := (jx_f1 1 0)) (idx := 12) (by decide +kernel) rfl wd_301 rfl) <|
  jx_all1 (sd_vV (pc := 38) (idx := 87) (kd := 6) (by decide +kernel) mf_4 wd_348 rfl rfl) <|
  jx_all1 (sd_aload_n (pc := 41) (q := 0) (by decide +kernel) rfl) <|
  jx_all1 (sd_gR (pc := 42) kf_0 (f := 0) (q := (jx_f1 1 0)) (idx := 12) (by decide +kernel) rfl wd_301 rfl) <|
  jx_all1 (sd_aload_n (pc := 45) (q := 0) (by decide +kernel) rfl) <|
  jx_all1 (sd_gR (pc := 46) kf_0 (f := 2) (q := (jx_f1 8 0)) (idx := 23) (by decide +kernel) rfl wd_303 rfl) <|
  jx_all1 (sd_iload_n (pc := 49) (q := 1) (by decide +kernel) rfl) <|
  jx_all1 (sd_aaload (pc := 50) (by decide +kernel)) <|
  jx_all1 (sd_vV (pc := 51) (idx := 290) (kd := 1) (by decide +kernel) mf_5 wd_778 rfl rfl) <|
  jx_all1 (sd_aload_n (pc := 54) (q := 0) (by decide +kernel) rfl) <|
  jx_all1 (sd_gR (pc := 55) kf_0 (f := 0) (q := (jx_f1 1 0)) (idx := 12) (by decide +kernel) rfl wd_301 rfl) <|
  jx_all1 (sd_gI (pc := 58) kf_1 (f := 0) (q := jx_f0) (idx := 83) (by decide +kernel) rfl wd_79 rfl) <|
  jx_all1 (sd_ireturn (pc := 61) (by decide +kernel) rfl) <|
  jx_all0
set_option maxRecDepth 100000 in
theorem sn_106 (D : jx_D) : jx_all (fun q => jx_Snd cX9_as 3 RX9 (some .int) D q.1 q.2) (tb_106 D) := by
  unfold tb_106
  exact jx_all1 (sd_iload_n (pc := 0) (q := 1) (by decide +kernel) rfl) <|
  jx_all1 (sd_cI (pc := 1) (idx := 287) (by decide +kernel) mf_103 (Or.inl wd_775)) <|
  jx_all1 (sd_ifne (pc := 4) (off := 15) (by decide +kernel) (by decide +kernel)) <|
  jx_all1 (sd_iload_n (pc := 7) (q := 2) (by decide +kernel) rfl) <|
  jx_all1 (sd_iflt (pc := 8) (off := 11) (by decide +kernel) (by decide +kernel)) <|
  jx_all1 (sd_iload_n (pc := 11) (q := 2) (by decide +kernel) rfl) <|
  jx_all1 (sd_gst (pc := 12) (idx := 295) (by decide +kernel) wd_791) <|
  jx_all1 (sd_sln (pc := 15) (by decide +kernel)) <|
  jx_all1 (sd_iclt (pc := 16) (off := 9) (by decide +kernel) (by decide +kernel)) <|
  jx_all1 (sd_aload_n (pc := 19) (q := 0) (by decide +kernel) rfl) <|
  jx_all1 (sd_iconst (pc := 20) (n := (-1)) (by decide +kernel) (by decide +kernel)) <|
  jx_all1 (sd_vI (pc := 21) (idx := 95) (kd := 0) (by decide +kernel) mf_8 wd_370 rfl rfl) <|
  jx_all1 (sd_ireturn (pc := 24) (by decide +kernel) rfl) <|
  jx_all1 (sd_aload_n (pc := 25) (q := 0) (by decide +kernel) rfl) <|
  jx_all1 (sd_gR (pc := 26) kf_0 (f := 3) (q := (jx_f1 9 0)) (idx := 27) (by decide +kernel) rfl wd_304 rfl) <|
  jx_all1 (sd_iload_n (pc := 29) (q := 1) (by decide +kernel) rfl) <|
  jx_all1 (sd_iaload (pc := 30) (by decide +kernel)) <|
  jx_all1 (sd_iconst (pc := 31) (n := (-1)) (by decide +kernel) (by decide +kernel)) <|
  jx_all1 (sd_icne (pc := 32) (off := 10) (by decide +kernel) (by decide +kernel)) <|
  jx_all1 (sd_aload_n (pc := 35) (q := 0) (by decide +kernel) rfl) <|
  jx_all1 (sd_bipush (pc := 36) (n := (-6)) (by decide +kernel) (by decide +kernel)) <|
  jx_all1 (sd_vI (pc := 38) (idx := 95) (kd := 0) (by decide +kernel) mf_8 wd_370 rfl rfl) <|
  jx_all1 (sd_ireturn (pc := 41) (by decide +kernel) rfl) <|
  jx_all1 (sd_aload_n (pc := 42) (q := 0) (by decide +kernel) rfl) <|
  jx_all1 (sd_gR (pc := 43) kf_0 (f := 3) (q := (jx_f1 9 0)) (idx := 27) (by decide +kernel) rfl wd_304 rfl) <|
  jx_all1 (sd_iload_n (pc := 46) (q := 1) (by decide +kernel) rfl) <|
  jx_all1 (sd_iaload (pc := 47) (by decide +kernel)) <|
  jx_all1 (sd_iload_n (pc := 48) (q := 2) (by decide +kernel) rfl) <|
  jx_all1 (sd_cI (pc := 49) (idx := 298) (by decide +kernel) mf_107 (Or.inl wd_793)) <|
  jx_all1 (sd_ifne (pc := 52) (off := 10) (by decide +kernel) (by decide +kernel)) <|
  jx_all1 (sd_aload_n (pc := 55) (q := 0) (by decide +kernel) rfl) <|
  jx_all1 (sd_bipush (pc := 56) (n := (-4)) (by decide +kernel) (by decide +kernel)) <|
  jx_all1 (sd_vI (pc := 58) (idx := 95) (kd := 0) (by decide +kernel) mf_8 wd_370 rfl rfl) <|
  jx_all1 (sd_ireturn (pc := 61) (by decide +kernel) rfl) <|
  jx_all1 (sd_aload_n (pc := 62) (q := 0) (by decide +kernel) rfl) <|
  jx_all1 (sd_gR (pc := 63) kf_0 (f := 2) (q := (jx_f1 8 0)) (idx := 23) (by decide +kernel) rfl wd_303 rfl) <|
  jx_all1 (sd_iload_n (pc := 66) (q := 1) (by decide +kernel) rfl) <|
  jx_all1 (sd_aaload (pc := 67) (by decide +kernel)) <|
  jx_all1 (sd_gI (pc := 68) kf_1 (f := 1) (q := jx_f0) (idx := 107) (by decide +kernel) rfl wd_85 rfl) <|
  jx_all1 (sd_ireturn (pc := 71) (by decide +kernel) rfl) <|
  jx_all0
set_option maxRecDepth 100000 in
theorem sn_107 (D : jx_D) : jx_all (fun q => jx_Snd cX9_isKindUnder 4 RX9 (some .boolean) D q.1 q.2) (tb_107 D) := by
  unfold tb_107
  exact jx_all1 (sd_iload_n (pc := 0) (q := 0) (by decide +kernel) rfl) <|
  jx_all1 (sd_istore_n (pc := 1) (q := 2) (by decide +kernel) rfl) <|
  jx_all1 (sd_iconst (pc := 2) (n := 0) (by decide +kernel) (by decide +kernel)) <|
  jx_all1 (sd_istore_n (pc := 3) (q := 3) (by decide +kernel) rfl) <|
  jx_all1 (sd_iload_n (pc := 4) (q := 3) (by decide +kernel) rfl) <|
  jx_all1 (sd_gst (pc := 5) (idx := 295) (by decide +kernel) wd_791) <|
  jx_all1 (sd_sln (pc := 8) (by decide +kernel)) <|
  jx_all1 (sd_icge (pc := 9) (off := 27) (by decide +kernel) (by decide +kernel)) <|
  jx_all1 (sd_iload_n (pc := 12) (q := 2) (by decide +kernel) rfl) <|
  jx_all1 (sd_iconst (pc := 13) (n := (-1)) (by decide +kernel) (by decide +kernel)) <|
  jx_all1 (sd_iceq (pc := 14) (off := 22) (by decide +kernel) (by decide +kernel)) <|
  jx_all1 (sd_iload_n (pc := 17) (q := 2) (by decide +kernel) rfl) <|
  jx_all1 (sd_iload_n (pc := 18) (q := 1) (by decide +kernel) rfl) <|
  jx_all1 (sd_icne (pc := 19) (off := 5) (by decide +kernel) (by decide +kernel)) <|
  jx_all1 (sd_iconst (pc := 22) (n := 1) (by decide +kernel) (by decide +kernel)) <|
  jx_all1 (sd_zreturn (pc := 23) (by decide +kernel) rfl) <|
  jx_all1 (sd_gst (pc := 24) (idx := 295) (by decide +kernel) wd_791) <|
  jx_all1 (sd_iload_n (pc := 27) (q := 2) (by decide +kernel) rfl) <|
  jx_all1 (sd_sld (pc := 28) (by decide +kernel)) <|
  jx_all1 (sd_istore_n (pc := 29) (q := 2) (by decide +kernel) rfl) <|
  jx_all1 (sd_iinc (pc := 30) (n := 1) (by decide +kernel) (by decide +kernel)) <|
  jx_all1 (sd_goto (pc := 33) (off := (-29)) (by decide +kernel) (by decide +kernel)) <|
  jx_all1 (sd_iconst (pc := 36) (n := 0) (by decide +kernel) (by decide +kernel)) <|
  jx_all1 (sd_zreturn (pc := 37) (by decide +kernel) rfl) <|
  jx_all0
set_option maxRecDepth 100000 in
theorem sn_108 (D : jx_D) : jx_all (fun q => jx_Snd cX9_told 2 RX9 (some .int) D q.1 q.2) (tb_108 D) := by
  unfold tb_108
  exact jx_all1 (sd_iload_n (pc := 0) (q := 1) (by decide +kernel) rfl) <|
  jx_all1 (sd_sw (pc := 1) (dflt := 127) (lo0 := 0) (hi := 6) (offs := #[43, 51, 59, 75, 109, 114, 122]) (len := 43) (by decide +kernel) (by decide +kernel) (by decide +kernel) (jx_swr (hi := 6) (by decide +kernel))) <|
  jx_all1 (sd_aload_n (pc := 44) (q := 0) (by decide +kernel) rfl) <|
  jx_all1 (sd_gR (pc := 45) kf_0 (f := 0) (q := (jx_f1 1 0)) (idx := 12) (by decide +kernel) rfl wd_301 rfl) <|
  jx_all1 (sd_gI (pc := 48) kf_1 (f := 0) (q := jx_f0) (idx := 83) (by decide +kernel) rfl wd_79 rfl) <|
  jx_all1 (sd_ireturn (pc := 51) (by decide +kernel) rfl) <|
  jx_all1 (sd_aload_n (pc := 52) (q := 0) (by decide +kernel) rfl) <|
  jx_all1 (sd_gR (pc := 53) kf_0 (f := 0) (q := (jx_f1 1 0)) (idx := 12) (by decide +kernel) rfl wd_301 rfl) <|
  jx_all1 (sd_gI (pc := 56) kf_1 (f := 1) (q := jx_f0) (idx := 107) (by decide +kernel) rfl wd_85 rfl) <|
  jx_all1 (sd_ireturn (pc := 59) (by decide +kernel) rfl) <|
  jx_all1 (sd_aload_n (pc := 60) (q := 0) (by decide +kernel) rfl) <|
  jx_all1 (sd_gR (pc := 61) kf_0 (f := 0) (q := (jx_f1 1 0)) (idx := 12) (by decide +kernel) rfl wd_301 rfl) <|
  jx_all1 (sd_gI (pc := 64) kf_1 (f := 2) (q := jx_f0) (idx := 212) (by decide +kernel) rfl wd_88 rfl) <|
  jx_all1 (sd_ifeq (pc := 67) (off := 7) (by decide +kernel) (by decide +kernel)) <|
  jx_all1 (sd_iconst (pc := 70) (n := 1) (by decide +kernel) (by decide +kernel)) <|
  jx_all1 (sd_goto (pc := 71) (off := 4) (by decide +kernel) (by decide +kernel)) <|
  jx_all1 (sd_iconst (pc := 74) (n := 0) (by decide +kernel) (by decide +kernel)) <|
  jx_all1 (sd_ireturn (pc := 75) (by decide +kernel) rfl) <|
  jx_all1 (sd_aload_n (pc := 76) (q := 0) (by decide +kernel) rfl) <|
  jx_all1 (sd_gR (pc := 77) kf_0 (f := 8) (q := (jx_f1 14 0)) (idx := 44) (by decide +kernel) rfl wd_309 rfl) <|
  jx_all1 (sd_aload_n (pc := 80) (q := 0) (by decide +kernel) rfl) <|
  jx_all1 (sd_gR (pc := 81) kf_0 (f := 0) (q := (jx_f1 1 0)) (idx := 12) (by decide +kernel) rfl wd_301 rfl) <|
  jx_all1 (sd_vV (pc := 84) (idx := 188) (kd := 14) (by decide +kernel) mf_38 wd_489 rfl rfl) <|
  jx_all1 (sd_aload_n (pc := 87) (q := 0) (by decide +kernel) rfl) <|
  jx_all1 (sd_gR (pc := 88) kf_0 (f := 8) (q := (jx_f1 14 0)) (idx := 44) (by decide +kernel) rfl wd_309 rfl) <|
  jx_all1 (sd_aload_n (pc := 91) (q := 0) (by decide +kernel) rfl) <|
  jx_all1 (sd_gR (pc := 92) kf_0 (f := 8) (q := (jx_f1 14 0)) (idx := 44) (by decide +kernel) rfl wd_309 rfl) <|
  jx_all1 (sd_gI (pc := 95) kf_14 (f := 4) (q := jx_f0) (idx := 197) (by decide +kernel) rfl wd_179 rfl) <|
  jx_all1 (sd_vI (pc := 98) (idx := 225) (kd := 14) (by decide +kernel) mf_55 wd_567 rfl rfl) <|
  jx_all1 (sd_ifeq (pc := 101) (off := 7) (by decide +kernel) (by decide +kernel)) <|
  jx_all1 (sd_iconst (pc := 104) (n := 1) (by decide +kernel) (by decide +kernel)) <|
  jx_all1 (sd_goto (pc := 105) (off := 4) (by decide +kernel) (by decide +kernel)) <|
  jx_all1 (sd_iconst (pc := 108) (n := 0) (by decide +kernel) (by decide +kernel)) <|
  jx_all1 (sd_ireturn (pc := 109) (by decide +kernel) rfl) <|
  jx_all1 (sd_aload_n (pc := 110) (q := 0) (by decide +kernel) rfl) <|
  jx_all1 (sd_gI (pc := 111) kf_0 (f := 6) (q := jx_f0) (idx := 277) (by decide +kernel) rfl wd_307 rfl) <|
  jx_all1 (sd_ireturn (pc := 114) (by decide +kernel) rfl) <|
  jx_all1 (sd_aload_n (pc := 115) (q := 0) (by decide +kernel) rfl) <|
  jx_all1 (sd_gR (pc := 116) kf_0 (f := 0) (q := (jx_f1 1 0)) (idx := 12) (by decide +kernel) rfl wd_301 rfl) <|
  jx_all1 (sd_vI (pc := 119) (idx := 301) (kd := 1) (by decide +kernel) mf_109 wd_800 rfl rfl) <|
  jx_all1 (sd_ireturn (pc := 122) (by decide +kernel) rfl) <|
  jx_all1 (sd_aload_n (pc := 123) (q := 0) (by decide +kernel) rfl) <|
  jx_all1 (sd_gI (pc := 124) kf_0 (f := 7) (q := jx_f0) (idx := 304) (by decide +kernel) rfl wd_308 rfl) <|
  jx_all1 (sd_ireturn (pc := 127) (by decide +kernel) rfl) <|
  jx_all1 (sd_aload_n (pc := 128) (q := 0) (by decide +kernel) rfl) <|
  jx_all1 (sd_iconst (pc := 129) (n := (-1)) (by decide +kernel) (by decide +kernel)) <|
  jx_all1 (sd_vI (pc := 130) (idx := 95) (kd := 0) (by decide +kernel) mf_8 wd_370 rfl rfl) <|
  jx_all1 (sd_ireturn (pc := 133) (by decide +kernel) rfl) <|
  jx_all0
set_option maxRecDepth 100000 in
theorem sn_109 (D : jx_D) : jx_all (fun q => jx_Snd cX3_priceOfAll 3 RX3 (some .int) D q.1 q.2) (tb_109 D) := by
  unfold tb_109
  exact jx_all1 (sd_iconst (pc := 0) (n := 0) (by decide +kernel) (by decide +kernel)) <|
  jx_all1 (sd_istore_n (pc := 1) (q := 1) (by decide +kernel) rfl) <|
  jx_all1 (sd_iconst (pc := 2) (n := 0) (by decide +kernel) (by decide +kernel)) <|
  jx_all1 (sd_istore_n (pc := 3) (q := 2) (by decide +kernel) rfl) <|
  jx_all1 (sd_iload_n (pc := 4) (q := 2) (by decide +kernel) rfl) <|
  jx_all1 (sd_aload_n (pc := 5) (q := 0) (by decide +kernel) rfl) <|
  jx_all1 (sd_gI (pc := 6) kf_1 (f := 1) (q := jx_f0) (idx := 28) (by decide +kernel) rfl wd_81 rfl) <|
  jx_all1 (sd_icge (pc := 9) (off := 18) (by decide +kernel) (by decide +kernel)) <|
  jx_all1 (sd_iload_n (pc := 12) (q := 1) (by decide +kernel) rfl) <|
  jx_all1 (sd_aload_n (pc := 13) (q := 0) (by decide +kernel) rfl) <|
  jx_all1 (sd_gR (pc := 14) kf_1 (f := 5) (q := (jx_fi 4)) (idx := 18) (by decide +kernel) rfl wd_97 rfl) <|
  jx_all1 (sd_iload_n (pc := 17) (q := 2) (by decide +kernel) rfl) <|
  jx_all1 (sd_iaload (pc := 18) (by decide +kernel)) <|
  jx_all1 (sd_iadd (pc := 19) (by decide +kernel)) <|
  jx_all1 (sd_istore_n (pc := 20) (q := 1) (by decide +kernel) rfl) <|
  jx_all1 (sd_iinc (pc := 21) (n := 1) (by decide +kernel) (by decide +kernel)) <|
  jx_all1 (sd_goto (pc := 24) (off := (-20)) (by decide +kernel) (by decide +kernel)) <|
  jx_all1 (sd_iload_n (pc := 27) (q := 1) (by decide +kernel) rfl) <|
  jx_all1 (sd_ireturn (pc := 28) (by decide +kernel) rfl) <|
  jx_all0
