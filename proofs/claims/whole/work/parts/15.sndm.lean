set_option maxRecDepth 100000 in
theorem sn_110 (D : jx_D) : jx_all (fun q => jx_Snd cX10_undo 1 RX10 (some .int) D q.1 q.2) (tb_110 D) := by
  unfold tb_110
  exact jx_all1 (sd_aload_n (pc := 0) (q := 0) (by decide +kernel) rfl) <|
  jx_all1 (sd_gI (pc := 1) kf_30 (f := 7) (q := jx_f0) (idx := 80) (by decide +kernel) rfl wd_817 rfl) <|
  jx_all1 (sd_ifne (pc := 4) (off := 10) (by decide +kernel) (by decide +kernel)) <|
  jx_all1 (sd_aload_n (pc := 7) (q := 0) (by decide +kernel) rfl) <|
  jx_all1 (sd_bipush (pc := 8) (n := (-6)) (by decide +kernel) (by decide +kernel)) <|
  jx_all1 (sd_vI (pc := 10) (idx := 87) (kd := 30) (by decide +kernel) mf_111 wd_888 rfl rfl) <|
  jx_all1 (sd_ireturn (pc := 13) (by decide +kernel) rfl) <|
  jx_all1 (sd_aload_n (pc := 14) (q := 0) (by decide +kernel) rfl) <|
  jx_all1 (sd_dup (pc := 15) (by decide +kernel)) <|
  jx_all1 (sd_gI (pc := 16) kf_30 (f := 7) (q := jx_f0) (idx := 80) (by decide +kernel) rfl wd_817 rfl) <|
  jx_all1 (sd_iconst (pc := 19) (n := 1) (by decide +kernel) (by decide +kernel)) <|
  jx_all1 (sd_isub (pc := 20) (by decide +kernel)) <|
  jx_all1 (sd_pI (pc := 21) kf_30 (f := 7) (q := jx_f0) (idx := 80) (by decide +kernel) rfl wd_817 rfl rfl rfl) <|
  jx_all1 (sd_aload_n (pc := 24) (q := 0) (by decide +kernel) rfl) <|
  jx_all1 (sd_aload_n (pc := 25) (q := 0) (by decide +kernel) rfl) <|
  jx_all1 (sd_gR (pc := 26) kf_30 (f := 8) (q := (jx_f1 38 0)) (idx := 22) (by decide +kernel) rfl wd_818 rfl) <|
  jx_all1 (sd_bipush (pc := 29) (n := 84) (by decide +kernel) (by decide +kernel)) <|
  jx_all1 (sd_aload_n (pc := 31) (q := 0) (by decide +kernel) rfl) <|
  jx_all1 (sd_gI (pc := 32) kf_30 (f := 7) (q := jx_f0) (idx := 80) (by decide +kernel) rfl wd_817 rfl) <|
  jx_all1 (sd_imul (pc := 35) (by decide +kernel)) <|
  jx_all1 (sd_vV (pc := 36) (idx := 91) (kd := 30) (by decide +kernel) mf_112 wd_892 rfl rfl) <|
  jx_all1 (sd_aload_n (pc := 39) (q := 0) (by decide +kernel) rfl) <|
  jx_all1 (sd_gI (pc := 40) kf_30 (f := 7) (q := jx_f0) (idx := 80) (by decide +kernel) rfl wd_817 rfl) <|
  jx_all1 (sd_ireturn (pc := 43) (by decide +kernel) rfl) <|
  jx_all0
set_option maxRecDepth 100000 in
theorem sn_111 (D : jx_D) : jx_all (fun q => jx_Snd cX10_finding 2 RX10 (some .int) D q.1 q.2) (tb_111 D) := by
  unfold tb_111
  exact jx_all1 (sd_aload_n (pc := 0) (q := 0) (by decide +kernel) rfl) <|
  jx_all1 (sd_dup (pc := 1) (by decide +kernel)) <|
  jx_all1 (sd_gI (pc := 2) kf_30 (f := 16) (q := jx_f0) (idx := 66) (by decide +kernel) rfl wd_826 rfl) <|
  jx_all1 (sd_iconst (pc := 5) (n := 1) (by decide +kernel) (by decide +kernel)) <|
  jx_all1 (sd_iadd (pc := 6) (by decide +kernel)) <|
  jx_all1 (sd_pI (pc := 7) kf_30 (f := 16) (q := jx_f0) (idx := 66) (by decide +kernel) rfl wd_826 rfl rfl rfl) <|
  jx_all1 (sd_iload_n (pc := 10) (q := 1) (by decide +kernel) rfl) <|
  jx_all1 (sd_ireturn (pc := 11) (by decide +kernel) rfl) <|
  jx_all0
set_option maxRecDepth 100000 in
theorem sn_112 (D : jx_D) : jx_all (fun q => jx_Snd cX10_load 4 RX10 none D q.1 q.2) (tb_112 D) := by
  unfold tb_112
  exact jx_all1 (sd_aload_n (pc := 0) (q := 0) (by decide +kernel) rfl) <|
  jx_all1 (sd_aload_n (pc := 1) (q := 1) (by decide +kernel) rfl) <|
  jx_all1 (sd_iload_n (pc := 2) (q := 2) (by decide +kernel) rfl) <|
  jx_all1 (sd_iconst (pc := 3) (n := 0) (by decide +kernel) (by decide +kernel)) <|
  jx_all1 (sd_iadd (pc := 4) (by decide +kernel)) <|
  jx_all1 (sd_iaload (pc := 5) (by decide +kernel)) <|
  jx_all1 (sd_pI (pc := 6) kf_30 (f := 0) (q := jx_f0) (idx := 70) (by decide +kernel) rfl wd_810 rfl rfl rfl) <|
  jx_all1 (sd_aload_n (pc := 9) (q := 0) (by decide +kernel) rfl) <|
  jx_all1 (sd_aload_n (pc := 10) (q := 1) (by decide +kernel) rfl) <|
  jx_all1 (sd_iload_n (pc := 11) (q := 2) (by decide +kernel) rfl) <|
  jx_all1 (sd_iconst (pc := 12) (n := 1) (by decide +kernel) (by decide +kernel)) <|
  jx_all1 (sd_iadd (pc := 13) (by decide +kernel)) <|
  jx_all1 (sd_iaload (pc := 14) (by decide +kernel)) <|
  jx_all1 (sd_pI (pc := 15) kf_30 (f := 1) (q := jx_f0) (idx := 73) (by decide +kernel) rfl wd_811 rfl rfl rfl) <|
  jx_all1 (sd_aload_n (pc := 18) (q := 0) (by decide +kernel) rfl) <|
  jx_all1 (sd_aload_n (pc := 19) (q := 1) (by decide +kernel) rfl) <|
  jx_all1 (sd_iload_n (pc := 20) (q := 2) (by decide +kernel) rfl) <|
  jx_all1 (sd_iconst (pc := 21) (n := 2) (by decide +kernel) (by decide +kernel)) <|
  jx_all1 (sd_iadd (pc := 22) (by decide +kernel)) <|
  jx_all1 (sd_iaload (pc := 23) (by decide +kernel)) <|
  jx_all1 (sd_iconst (pc := 24) (n := 1) (by decide +kernel) (by decide +kernel)) <|
  jx_all1 (sd_icne (pc := 25) (off := 7) (by decide +kernel) (by decide +kernel)) <|
  jx_all1 (sd_iconst (pc := 28) (n := 1) (by decide +kernel) (by decide +kernel)) <|
  jx_all1 (sd_goto (pc := 29) (off := 4) (by decide +kernel) (by decide +kernel)) <|
  jx_all1 (sd_iconst (pc := 32) (n := 0) (by decide +kernel) (by decide +kernel)) <|
  jx_all1 (sd_pZ (pc := 33) kf_30 (f := 2) (q := jx_f0) (idx := 76) (by decide +kernel) rfl wd_812 rfl rfl rfl) <|
  jx_all1 (sd_iconst (pc := 36) (n := 0) (by decide +kernel) (by decide +kernel)) <|
  jx_all1 (sd_istore_n (pc := 37) (q := 3) (by decide +kernel) rfl) <|
  jx_all1 (sd_iload_n (pc := 38) (q := 3) (by decide +kernel) rfl) <|
  jx_all1 (sd_aload_n (pc := 39) (q := 0) (by decide +kernel) rfl) <|
  jx_all1 (sd_gI (pc := 40) kf_30 (f := 1) (q := jx_f0) (idx := 73) (by decide +kernel) rfl wd_811 rfl) <|
  jx_all1 (sd_icge (pc := 43) (off := 75) (by decide +kernel) (by decide +kernel)) <|
  jx_all1 (sd_aload_n (pc := 46) (q := 0) (by decide +kernel) rfl) <|
  jx_all1 (sd_gR (pc := 47) kf_30 (f := 3) (q := (jx_f1 33 0)) (idx := 7) (by decide +kernel) rfl wd_813 rfl) <|
  jx_all1 (sd_iload_n (pc := 50) (q := 3) (by decide +kernel) rfl) <|
  jx_all1 (sd_aload_n (pc := 51) (q := 1) (by decide +kernel) rfl) <|
  jx_all1 (sd_iload_n (pc := 52) (q := 2) (by decide +kernel) rfl) <|
  jx_all1 (sd_iconst (pc := 53) (n := 4) (by decide +kernel) (by decide +kernel)) <|
  jx_all1 (sd_iadd (pc := 54) (by decide +kernel)) <|
  jx_all1 (sd_iconst (pc := 55) (n := 4) (by decide +kernel) (by decide +kernel)) <|
  jx_all1 (sd_iload_n (pc := 56) (q := 3) (by decide +kernel) rfl) <|
  jx_all1 (sd_imul (pc := 57) (by decide +kernel)) <|
  jx_all1 (sd_iadd (pc := 58) (by decide +kernel)) <|
  jx_all1 (sd_iaload (pc := 59) (by decide +kernel)) <|
  jx_all1 (sd_iastore (pc := 60) (by decide +kernel)) <|
  jx_all1 (sd_aload_n (pc := 61) (q := 0) (by decide +kernel) rfl) <|
  jx_all1 (sd_gR (pc := 62) kf_30 (f := 4) (q := (jx_f1 34 0)) (idx := 13) (by decide +kernel) rfl wd_814 rfl) <|
  jx_all1 (sd_iload_n (pc := 65) (q := 3) (by decide +kernel) rfl) <|
  jx_all1 (sd_aload_n (pc := 66) (q := 1) (by decide +kernel) rfl) <|
  jx_all1 (sd_iload_n (pc := 67) (q := 2) (by decide +kernel) rfl) <|
  jx_all1 (sd_iconst (pc := 68) (n := 4) (by decide +kernel) (by decide +kernel)) <|
  jx_all1 (sd_iadd (pc := 69) (by decide +kernel)) <|
  jx_all1 (sd_iconst (pc := 70) (n := 4) (by decide +kernel) (by decide +kernel)) <|
  jx_all1 (sd_iload_n (pc := 71) (q := 3) (by decide +kernel) rfl) <|
  jx_all1 (sd_imul (pc := 72) (by decide +kernel)) <|
  jx_all1 (sd_iadd (pc := 73) (by decide +kernel)) <|
  jx_all1 (sd_iconst (pc := 74) (n := 1) (by decide +kernel) (by decide +kernel)) <|
  jx_all1 (sd_iadd (pc := 75) (by decide +kernel)) <|
  jx_all1 (sd_iaload (pc := 76) (by decide +kernel)) <|
  jx_all1 (sd_iastore (pc := 77) (by decide +kernel)) <|
  jx_all1 (sd_aload_n (pc := 78) (q := 0) (by decide +kernel) rfl) <|
  jx_all1 (sd_gR (pc := 79) kf_30 (f := 5) (q := (jx_f1 35 0)) (idx := 16) (by decide +kernel) rfl wd_815 rfl) <|
  jx_all1 (sd_iload_n (pc := 82) (q := 3) (by decide +kernel) rfl) <|
  jx_all1 (sd_aload_n (pc := 83) (q := 1) (by decide +kernel) rfl) <|
  jx_all1 (sd_iload_n (pc := 84) (q := 2) (by decide +kernel) rfl) <|
  jx_all1 (sd_iconst (pc := 85) (n := 4) (by decide +kernel) (by decide +kernel)) <|
  jx_all1 (sd_iadd (pc := 86) (by decide +kernel)) <|
  jx_all1 (sd_iconst (pc := 87) (n := 4) (by decide +kernel) (by decide +kernel)) <|
  jx_all1 (sd_iload_n (pc := 88) (q := 3) (by decide +kernel) rfl) <|
  jx_all1 (sd_imul (pc := 89) (by decide +kernel)) <|
  jx_all1 (sd_iadd (pc := 90) (by decide +kernel)) <|
  jx_all1 (sd_iconst (pc := 91) (n := 2) (by decide +kernel) (by decide +kernel)) <|
  jx_all1 (sd_iadd (pc := 92) (by decide +kernel)) <|
  jx_all1 (sd_iaload (pc := 93) (by decide +kernel)) <|
  jx_all1 (sd_iastore (pc := 94) (by decide +kernel)) <|
  jx_all1 (sd_aload_n (pc := 95) (q := 0) (by decide +kernel) rfl) <|
  jx_all1 (sd_gR (pc := 96) kf_30 (f := 6) (q := (jx_f1 36 0)) (idx := 19) (by decide +kernel) rfl wd_816 rfl) <|
  jx_all1 (sd_iload_n (pc := 99) (q := 3) (by decide +kernel) rfl) <|
  jx_all1 (sd_aload_n (pc := 100) (q := 1) (by decide +kernel) rfl) <|
  jx_all1 (sd_iload_n (pc := 101) (q := 2) (by decide +kernel) rfl) <|
  jx_all1 (sd_iconst (pc := 102) (n := 4) (by decide +kernel) (by decide +kernel)) <|
  jx_all1 (sd_iadd (pc := 103) (by decide +kernel)) <|
  jx_all1 (sd_iconst (pc := 104) (n := 4) (by decide +kernel) (by decide +kernel)) <|
  jx_all1 (sd_iload_n (pc := 105) (q := 3) (by decide +kernel) rfl) <|
  jx_all1 (sd_imul (pc := 106) (by decide +kernel)) <|
  jx_all1 (sd_iadd (pc := 107) (by decide +kernel)) <|
  jx_all1 (sd_iconst (pc := 108) (n := 3) (by decide +kernel) (by decide +kernel)) <|
  jx_all1 (sd_iadd (pc := 109) (by decide +kernel)) <|
  jx_all1 (sd_iaload (pc := 110) (by decide +kernel)) <|
  jx_all1 (sd_iastore (pc := 111) (by decide +kernel)) <|
  jx_all1 (sd_iinc (pc := 112) (n := 1) (by decide +kernel) (by decide +kernel)) <|
  jx_all1 (sd_goto (pc := 115) (off := (-77)) (by decide +kernel) (by decide +kernel)) <|
  jx_all1 (sd_return (pc := 118) (by decide +kernel) rfl) <|
  jx_all0
set_option maxRecDepth 100000 in
theorem sn_113 (D : jx_D) : jx_all (fun q => jx_Snd cX10_anew 3 RX10 (some .int) D q.1 q.2) (tb_113 D) := by
  unfold tb_113
  exact jx_all1 (sd_aload_n (pc := 0) (q := 0) (by decide +kernel) rfl) <|
  jx_all1 (sd_vV (pc := 1) (idx := 94) (kd := 30) (by decide +kernel) mf_114 wd_900 rfl rfl) <|
  jx_all1 (sd_aload_n (pc := 4) (q := 0) (by decide +kernel) rfl) <|
  jx_all1 (sd_gI (pc := 5) kf_30 (f := 0) (q := jx_f0) (idx := 70) (by decide +kernel) rfl wd_810 rfl) <|
  jx_all1 (sd_istore_n (pc := 8) (q := 2) (by decide +kernel) rfl) <|
  jx_all1 (sd_aload_n (pc := 9) (q := 0) (by decide +kernel) rfl) <|
  jx_all1 (sd_iconst (pc := 10) (n := 0) (by decide +kernel) (by decide +kernel)) <|
  jx_all1 (sd_pI (pc := 11) kf_30 (f := 0) (q := jx_f0) (idx := 70) (by decide +kernel) rfl wd_810 rfl rfl rfl) <|
  jx_all1 (sd_aload_n (pc := 14) (q := 0) (by decide +kernel) rfl) <|
  jx_all1 (sd_iconst (pc := 15) (n := 0) (by decide +kernel) (by decide +kernel)) <|
  jx_all1 (sd_pI (pc := 16) kf_30 (f := 1) (q := jx_f0) (idx := 73) (by decide +kernel) rfl wd_811 rfl rfl rfl) <|
  jx_all1 (sd_aload_n (pc := 19) (q := 0) (by decide +kernel) rfl) <|
  jx_all1 (sd_iload_n (pc := 20) (q := 1) (by decide +kernel) rfl) <|
  jx_all1 (sd_pZ (pc := 21) kf_30 (f := 2) (q := jx_f0) (idx := 76) (by decide +kernel) rfl wd_812 rfl rfl rfl) <|
  jx_all1 (sd_iload_n (pc := 24) (q := 2) (by decide +kernel) rfl) <|
  jx_all1 (sd_ireturn (pc := 25) (by decide +kernel) rfl) <|
  jx_all0
set_option maxRecDepth 100000 in
theorem sn_114 (D : jx_D) : jx_all (fun q => jx_Snd cX10_keepNet 2 RX10 none D q.1 q.2) (tb_114 D) := by
  unfold tb_114
  exact jx_all1 (sd_aload_n (pc := 0) (q := 0) (by decide +kernel) rfl) <|
  jx_all1 (sd_gI (pc := 1) kf_30 (f := 7) (q := jx_f0) (idx := 80) (by decide +kernel) rfl wd_817 rfl) <|
  jx_all1 (sd_bipush (pc := 4) (n := 30) (by decide +kernel) (by decide +kernel)) <|
  jx_all1 (sd_icne (pc := 6) (off := 43) (by decide +kernel) (by decide +kernel)) <|
  jx_all1 (sd_iconst (pc := 9) (n := 0) (by decide +kernel) (by decide +kernel)) <|
  jx_all1 (sd_istore_n (pc := 10) (q := 1) (by decide +kernel) rfl) <|
  jx_all1 (sd_iload_n (pc := 11) (q := 1) (by decide +kernel) rfl) <|
  jx_all1 (sd_sipush (pc := 12) (n := 2436) (by decide +kernel) (by decide +kernel)) <|
  jx_all1 (sd_icge (pc := 15) (off := 24) (by decide +kernel) (by decide +kernel)) <|
  jx_all1 (sd_aload_n (pc := 18) (q := 0) (by decide +kernel) rfl) <|
  jx_all1 (sd_gR (pc := 19) kf_30 (f := 8) (q := (jx_f1 38 0)) (idx := 22) (by decide +kernel) rfl wd_818 rfl) <|
  jx_all1 (sd_iload_n (pc := 22) (q := 1) (by decide +kernel) rfl) <|
  jx_all1 (sd_aload_n (pc := 23) (q := 0) (by decide +kernel) rfl) <|
  jx_all1 (sd_gR (pc := 24) kf_30 (f := 8) (q := (jx_f1 38 0)) (idx := 22) (by decide +kernel) rfl wd_818 rfl) <|
  jx_all1 (sd_iload_n (pc := 27) (q := 1) (by decide +kernel) rfl) <|
  jx_all1 (sd_bipush (pc := 28) (n := 84) (by decide +kernel) (by decide +kernel)) <|
  jx_all1 (sd_iadd (pc := 30) (by decide +kernel)) <|
  jx_all1 (sd_iaload (pc := 31) (by decide +kernel)) <|
  jx_all1 (sd_iastore (pc := 32) (by decide +kernel)) <|
  jx_all1 (sd_iinc (pc := 33) (n := 1) (by decide +kernel) (by decide +kernel)) <|
  jx_all1 (sd_goto (pc := 36) (off := (-25)) (by decide +kernel) (by decide +kernel)) <|
  jx_all1 (sd_aload_n (pc := 39) (q := 0) (by decide +kernel) rfl) <|
  jx_all1 (sd_dup (pc := 40) (by decide +kernel)) <|
  jx_all1 (sd_gI (pc := 41) kf_30 (f := 7) (q := jx_f0) (idx := 80) (by decide +kernel) rfl wd_817 rfl) <|
  jx_all1 (sd_iconst (pc := 44) (n := 1) (by decide +kernel) (by decide +kernel)) <|
  jx_all1 (sd_isub (pc := 45) (by decide +kernel)) <|
  jx_all1 (sd_pI (pc := 46) kf_30 (f := 7) (q := jx_f0) (idx := 80) (by decide +kernel) rfl wd_817 rfl rfl rfl) <|
  jx_all1 (sd_aload_n (pc := 49) (q := 0) (by decide +kernel) rfl) <|
  jx_all1 (sd_aload_n (pc := 50) (q := 0) (by decide +kernel) rfl) <|
  jx_all1 (sd_gR (pc := 51) kf_30 (f := 8) (q := (jx_f1 38 0)) (idx := 22) (by decide +kernel) rfl wd_818 rfl) <|
  jx_all1 (sd_bipush (pc := 54) (n := 84) (by decide +kernel) (by decide +kernel)) <|
  jx_all1 (sd_aload_n (pc := 56) (q := 0) (by decide +kernel) rfl) <|
  jx_all1 (sd_gI (pc := 57) kf_30 (f := 7) (q := jx_f0) (idx := 80) (by decide +kernel) rfl wd_817 rfl) <|
  jx_all1 (sd_imul (pc := 60) (by decide +kernel)) <|
  jx_all1 (sd_vV (pc := 61) (idx := 83) (kd := 30) (by decide +kernel) mf_115 wd_904 rfl rfl) <|
  jx_all1 (sd_aload_n (pc := 64) (q := 0) (by decide +kernel) rfl) <|
  jx_all1 (sd_dup (pc := 65) (by decide +kernel)) <|
  jx_all1 (sd_gI (pc := 66) kf_30 (f := 7) (q := jx_f0) (idx := 80) (by decide +kernel) rfl wd_817 rfl) <|
  jx_all1 (sd_iconst (pc := 69) (n := 1) (by decide +kernel) (by decide +kernel)) <|
  jx_all1 (sd_iadd (pc := 70) (by decide +kernel)) <|
  jx_all1 (sd_pI (pc := 71) kf_30 (f := 7) (q := jx_f0) (idx := 80) (by decide +kernel) rfl wd_817 rfl rfl rfl) <|
  jx_all1 (sd_return (pc := 74) (by decide +kernel) rfl) <|
  jx_all0
set_option maxRecDepth 100000 in
theorem sn_115 (D : jx_D) : jx_all (fun q => jx_Snd cX10_save 4 RX10 none D q.1 q.2) (tb_115 D) := by
  unfold tb_115
  exact jx_all1 (sd_aload_n (pc := 0) (q := 1) (by decide +kernel) rfl) <|
  jx_all1 (sd_iload_n (pc := 1) (q := 2) (by decide +kernel) rfl) <|
  jx_all1 (sd_iconst (pc := 2) (n := 0) (by decide +kernel) (by decide +kernel)) <|
  jx_all1 (sd_iadd (pc := 3) (by decide +kernel)) <|
  jx_all1 (sd_aload_n (pc := 4) (q := 0) (by decide +kernel) rfl) <|
  jx_all1 (sd_gI (pc := 5) kf_30 (f := 0) (q := jx_f0) (idx := 70) (by decide +kernel) rfl wd_810 rfl) <|
  jx_all1 (sd_iastore (pc := 8) (by decide +kernel)) <|
  jx_all1 (sd_aload_n (pc := 9) (q := 1) (by decide +kernel) rfl) <|
  jx_all1 (sd_iload_n (pc := 10) (q := 2) (by decide +kernel) rfl) <|
  jx_all1 (sd_iconst (pc := 11) (n := 1) (by decide +kernel) (by decide +kernel)) <|
  jx_all1 (sd_iadd (pc := 12) (by decide +kernel)) <|
  jx_all1 (sd_aload_n (pc := 13) (q := 0) (by decide +kernel) rfl) <|
  jx_all1 (sd_gI (pc := 14) kf_30 (f := 1) (q := jx_f0) (idx := 73) (by decide +kernel) rfl wd_811 rfl) <|
  jx_all1 (sd_iastore (pc := 17) (by decide +kernel)) <|
  jx_all1 (sd_aload_n (pc := 18) (q := 1) (by decide +kernel) rfl) <|
  jx_all1 (sd_iload_n (pc := 19) (q := 2) (by decide +kernel) rfl) <|
  jx_all1 (sd_iconst (pc := 20) (n := 2) (by decide +kernel) (by decide +kernel)) <|
  jx_all1 (sd_iadd (pc := 21) (by decide +kernel)) <|
  jx_all1 (sd_aload_n (pc := 22) (q := 0) (by decide +kernel) rfl) <|
  jx_all1 (sd_gI (pc := 23) kf_30 (f := 2) (q := jx_f0) (idx := 76) (by decide +kernel) rfl wd_812 rfl) <|
  jx_all1 (sd_ifeq (pc := 26) (off := 7) (by decide +kernel) (by decide +kernel)) <|
  jx_all1 (sd_iconst (pc := 29) (n := 1) (by decide +kernel) (by decide +kernel)) <|
  jx_all1 (sd_goto (pc := 30) (off := 4) (by decide +kernel) (by decide +kernel)) <|
  jx_all1 (sd_iconst (pc := 33) (n := 0) (by decide +kernel) (by decide +kernel)) <|
  jx_all1 (sd_iastore (pc := 34) (by decide +kernel)) <|
  jx_all1 (sd_iconst (pc := 35) (n := 0) (by decide +kernel) (by decide +kernel)) <|
  jx_all1 (sd_istore_n (pc := 36) (q := 3) (by decide +kernel) rfl) <|
  jx_all1 (sd_iload_n (pc := 37) (q := 3) (by decide +kernel) rfl) <|
  jx_all1 (sd_aload_n (pc := 38) (q := 0) (by decide +kernel) rfl) <|
  jx_all1 (sd_gI (pc := 39) kf_30 (f := 1) (q := jx_f0) (idx := 73) (by decide +kernel) rfl wd_811 rfl) <|
  jx_all1 (sd_icge (pc := 42) (off := 75) (by decide +kernel) (by decide +kernel)) <|
  jx_all1 (sd_aload_n (pc := 45) (q := 1) (by decide +kernel) rfl) <|
  jx_all1 (sd_iload_n (pc := 46) (q := 2) (by decide +kernel) rfl) <|
  jx_all1 (sd_iconst (pc := 47) (n := 4) (by decide +kernel) (by decide +kernel)) <|
  jx_all1 (sd_iadd (pc := 48) (by decide +kernel)) <|
  jx_all1 (sd_iconst (pc := 49) (n := 4) (by decide +kernel) (by decide +kernel)) <|
  jx_all1 (sd_iload_n (pc := 50) (q := 3) (by decide +kernel) rfl) <|
  jx_all1 (sd_imul (pc := 51) (by decide +kernel)) <|
  jx_all1 (sd_iadd (pc := 52) (by decide +kernel)) <|
  jx_all1 (sd_aload_n (pc := 53) (q := 0) (by decide +kernel) rfl) <|
  jx_all1 (sd_gR (pc := 54) kf_30 (f := 3) (q := (jx_f1 33 0)) (idx := 7) (by decide +kernel) rfl wd_813 rfl) <|
  jx_all1 (sd_iload_n (pc := 57) (q := 3) (by decide +kernel) rfl) <|
  jx_all1 (sd_iaload (pc := 58) (by decide +kernel)) <|
  jx_all1 (sd_iastore (pc := 59) (by decide +kernel)) <|
  jx_all1 (sd_aload_n (pc := 60) (q := 1) (by decide +kernel) rfl) <|
  jx_all1 (sd_iload_n (pc := 61) (q := 2) (by decide +kernel) rfl) <|
  jx_all1 (sd_iconst (pc := 62) (n := 4) (by decide +kernel) (by decide +kernel)) <|
  jx_all1 (sd_iadd (pc := 63) (by decide +kernel)) <|
  jx_all1 (sd_iconst (pc := 64) (n := 4) (by decide +kernel) (by decide +kernel)) <|
  jx_all1 (sd_iload_n (pc := 65) (q := 3) (by decide +kernel) rfl) <|
  jx_all1 (sd_imul (pc := 66) (by decide +kernel)) <|
  jx_all1 (sd_iadd (pc := 67) (by decide +kernel)) <|
  jx_all1 (sd_iconst (pc := 68) (n := 1) (by decide +kernel) (by decide +kernel)) <|
  jx_all1 (sd_iadd (pc := 69) (by decide +kernel)) <|
  jx_all1 (sd_aload_n (pc := 70) (q := 0) (by decide +kernel) rfl) <|
  jx_all1 (sd_gR (pc := 71) kf_30 (f := 4) (q := (jx_f1 34 0)) (idx := 13) (by decide +kernel) rfl wd_814 rfl) <|
  jx_all1 (sd_iload_n (pc := 74) (q := 3) (by decide +kernel) rfl) <|
  jx_all1 (sd_iaload (pc := 75) (by decide +kernel)) <|
  jx_all1 (sd_iastore (pc := 76) (by decide +kernel)) <|
  jx_all1 (sd_aload_n (pc := 77) (q := 1) (by decide +kernel) rfl) <|
  jx_all1 (sd_iload_n (pc := 78) (q := 2) (by decide +kernel) rfl) <|
  jx_all1 (sd_iconst (pc := 79) (n := 4) (by decide +kernel) (by decide +kernel)) <|
  jx_all1 (sd_iadd (pc := 80) (by decide +kernel)) <|
  jx_all1 (sd_iconst (pc := 81) (n := 4) (by decide +kernel) (by decide +kernel)) <|
  jx_all1 (sd_iload_n (pc := 82) (q := 3) (by decide +kernel) rfl) <|
  jx_all1 (sd_imul (pc := 83) (by decide +kernel)) <|
  jx_all1 (sd_iadd (pc := 84) (by decide +kernel)) <|
  jx_all1 (sd_iconst (pc := 85) (n := 2) (by decide +kernel) (by decide +kernel)) <|
  jx_all1 (sd_iadd (pc := 86) (by decide +kernel)) <|
  jx_all1 (sd_aload_n (pc := 87) (q := 0) (by decide +kernel) rfl) <|
  jx_all1 (sd_gR (pc := 88) kf_30 (f := 5) (q := (jx_f1 35 0)) (idx := 16) (by decide +kernel) rfl wd_815 rfl) <|
  jx_all1 (sd_iload_n (pc := 91) (q := 3) (by decide +kernel) rfl) <|
  jx_all1 (sd_iaload (pc := 92) (by decide +kernel)) <|
  jx_all1 (sd_iastore (pc := 93) (by decide +kernel)) <|
  jx_all1 (sd_aload_n (pc := 94) (q := 1) (by decide +kernel) rfl) <|
  jx_all1 (sd_iload_n (pc := 95) (q := 2) (by decide +kernel) rfl) <|
  jx_all1 (sd_iconst (pc := 96) (n := 4) (by decide +kernel) (by decide +kernel)) <|
  jx_all1 (sd_iadd (pc := 97) (by decide +kernel)) <|
  jx_all1 (sd_iconst (pc := 98) (n := 4) (by decide +kernel) (by decide +kernel)) <|
  jx_all1 (sd_iload_n (pc := 99) (q := 3) (by decide +kernel) rfl) <|
  jx_all1 (sd_imul (pc := 100) (by decide +kernel)) <|
  jx_all1 (sd_iadd (pc := 101) (by decide +kernel)) <|
  jx_all1 (sd_iconst (pc := 102) (n := 3) (by decide +kernel) (by decide +kernel)) <|
  jx_all1 (sd_iadd (pc := 103) (by decide +kernel)) <|
  jx_all1 (sd_aload_n (pc := 104) (q := 0) (by decide +kernel) rfl) <|
  jx_all1 (sd_gR (pc := 105) kf_30 (f := 6) (q := (jx_f1 36 0)) (idx := 19) (by decide +kernel) rfl wd_816 rfl) <|
  jx_all1 (sd_iload_n (pc := 108) (q := 3) (by decide +kernel) rfl) <|
  jx_all1 (sd_iaload (pc := 109) (by decide +kernel)) <|
  jx_all1 (sd_iastore (pc := 110) (by decide +kernel)) <|
  jx_all1 (sd_iinc (pc := 111) (n := 1) (by decide +kernel) (by decide +kernel)) <|
  jx_all1 (sd_goto (pc := 114) (off := (-77)) (by decide +kernel) (by decide +kernel)) <|
  jx_all1 (sd_return (pc := 117) (by decide +kernel) rfl) <|
  jx_all0
set_option maxRecDepth 100000 in
theorem sn_116 (D : jx_D) : jx_all (fun q => jx_Snd cX10_post 1 RX10 (some .int) D q.1 q.2) (tb_116 D) := by
  unfold tb_116
  exact jx_all1 (sd_aload_n (pc := 0) (q := 0) (by decide +kernel) rfl) <|
  jx_all1 (sd_gI (pc := 1) kf_30 (f := 0) (q := jx_f0) (idx := 70) (by decide +kernel) rfl wd_810 rfl) <|
  jx_all1 (sd_bipush (pc := 4) (n := 8) (by decide +kernel) (by decide +kernel)) <|
  jx_all1 (sd_icne (pc := 6) (off := 10) (by decide +kernel) (by decide +kernel)) <|
  jx_all1 (sd_aload_n (pc := 9) (q := 0) (by decide +kernel) rfl) <|
  jx_all1 (sd_bipush (pc := 10) (n := (-5)) (by decide +kernel) (by decide +kernel)) <|
  jx_all1 (sd_vI (pc := 12) (idx := 87) (kd := 30) (by decide +kernel) mf_111 wd_888 rfl rfl) <|
  jx_all1 (sd_ireturn (pc := 15) (by decide +kernel) rfl) <|
  jx_all1 (sd_aload_n (pc := 16) (q := 0) (by decide +kernel) rfl) <|
  jx_all1 (sd_vV (pc := 17) (idx := 94) (kd := 30) (by decide +kernel) mf_114 wd_900 rfl rfl) <|
  jx_all1 (sd_aload_n (pc := 20) (q := 0) (by decide +kernel) rfl) <|
  jx_all1 (sd_dup (pc := 21) (by decide +kernel)) <|
  jx_all1 (sd_gI (pc := 22) kf_30 (f := 0) (q := jx_f0) (idx := 70) (by decide +kernel) rfl wd_810 rfl) <|
  jx_all1 (sd_iconst (pc := 25) (n := 1) (by decide +kernel) (by decide +kernel)) <|
  jx_all1 (sd_iadd (pc := 26) (by decide +kernel)) <|
  jx_all1 (sd_pI (pc := 27) kf_30 (f := 0) (q := jx_f0) (idx := 70) (by decide +kernel) rfl wd_810 rfl rfl rfl) <|
  jx_all1 (sd_aload_n (pc := 30) (q := 0) (by decide +kernel) rfl) <|
  jx_all1 (sd_gI (pc := 31) kf_30 (f := 0) (q := jx_f0) (idx := 70) (by decide +kernel) rfl wd_810 rfl) <|
  jx_all1 (sd_iconst (pc := 34) (n := 1) (by decide +kernel) (by decide +kernel)) <|
  jx_all1 (sd_isub (pc := 35) (by decide +kernel)) <|
  jx_all1 (sd_ireturn (pc := 36) (by decide +kernel) rfl) <|
  jx_all0
set_option maxRecDepth 100000 in
theorem sn_117 (D : jx_D) : jx_all (fun q => jx_Snd cX10_road 3 RX10 (some .int) D q.1 q.2) (tb_117 D) := by
  unfold tb_117
  exact jx_all1 (sd_aload_n (pc := 0) (q := 0) (by decide +kernel) rfl) <|
  jx_all1 (sd_iload_n (pc := 1) (q := 1) (by decide +kernel) rfl) <|
  jx_all1 (sd_vI (pc := 2) (idx := 97) (kd := 30) (by decide +kernel) mf_118 wd_916 rfl rfl) <|
  jx_all1 (sd_ifeq (pc := 5) (off := 11) (by decide +kernel) (by decide +kernel)) <|
  jx_all1 (sd_aload_n (pc := 8) (q := 0) (by decide +kernel) rfl) <|
  jx_all1 (sd_iload_n (pc := 9) (q := 2) (by decide +kernel) rfl) <|
  jx_all1 (sd_vI (pc := 10) (idx := 97) (kd := 30) (by decide +kernel) mf_118 wd_916 rfl rfl) <|
  jx_all1 (sd_ifne (pc := 13) (off := 9) (by decide +kernel) (by decide +kernel)) <|
  jx_all1 (sd_aload_n (pc := 16) (q := 0) (by decide +kernel) rfl) <|
  jx_all1 (sd_iconst (pc := 17) (n := (-1)) (by decide +kernel) (by decide +kernel)) <|
  jx_all1 (sd_vI (pc := 18) (idx := 87) (kd := 30) (by decide +kernel) mf_111 wd_888 rfl rfl) <|
  jx_all1 (sd_ireturn (pc := 21) (by decide +kernel) rfl) <|
  jx_all1 (sd_iload_n (pc := 22) (q := 1) (by decide +kernel) rfl) <|
  jx_all1 (sd_iload_n (pc := 23) (q := 2) (by decide +kernel) rfl) <|
  jx_all1 (sd_icne (pc := 24) (off := 10) (by decide +kernel) (by decide +kernel)) <|
  jx_all1 (sd_aload_n (pc := 27) (q := 0) (by decide +kernel) rfl) <|
  jx_all1 (sd_bipush (pc := 28) (n := (-3)) (by decide +kernel) (by decide +kernel)) <|
  jx_all1 (sd_vI (pc := 30) (idx := 87) (kd := 30) (by decide +kernel) mf_111 wd_888 rfl rfl) <|
  jx_all1 (sd_ireturn (pc := 33) (by decide +kernel) rfl) <|
  jx_all1 (sd_aload_n (pc := 34) (q := 0) (by decide +kernel) rfl) <|
  jx_all1 (sd_gI (pc := 35) kf_30 (f := 1) (q := jx_f0) (idx := 73) (by decide +kernel) rfl wd_811 rfl) <|
  jx_all1 (sd_bipush (pc := 38) (n := 20) (by decide +kernel) (by decide +kernel)) <|
  jx_all1 (sd_icne (pc := 40) (off := 10) (by decide +kernel) (by decide +kernel)) <|
  jx_all1 (sd_aload_n (pc := 43) (q := 0) (by decide +kernel) rfl) <|
  jx_all1 (sd_bipush (pc := 44) (n := (-5)) (by decide +kernel) (by decide +kernel)) <|
  jx_all1 (sd_vI (pc := 46) (idx := 87) (kd := 30) (by decide +kernel) mf_111 wd_888 rfl rfl) <|
  jx_all1 (sd_ireturn (pc := 49) (by decide +kernel) rfl) <|
  jx_all1 (sd_aload_n (pc := 50) (q := 0) (by decide +kernel) rfl) <|
  jx_all1 (sd_vV (pc := 51) (idx := 94) (kd := 30) (by decide +kernel) mf_114 wd_900 rfl rfl) <|
  jx_all1 (sd_aload_n (pc := 54) (q := 0) (by decide +kernel) rfl) <|
  jx_all1 (sd_iload_n (pc := 55) (q := 1) (by decide +kernel) rfl) <|
  jx_all1 (sd_iload_n (pc := 56) (q := 2) (by decide +kernel) rfl) <|
  jx_all1 (sd_vV (pc := 57) (idx := 101) (kd := 30) (by decide +kernel) mf_119 wd_920 rfl rfl) <|
  jx_all1 (sd_aload_n (pc := 60) (q := 0) (by decide +kernel) rfl) <|
  jx_all1 (sd_gI (pc := 61) kf_30 (f := 1) (q := jx_f0) (idx := 73) (by decide +kernel) rfl wd_811 rfl) <|
  jx_all1 (sd_iconst (pc := 64) (n := 1) (by decide +kernel) (by decide +kernel)) <|
  jx_all1 (sd_isub (pc := 65) (by decide +kernel)) <|
  jx_all1 (sd_ireturn (pc := 66) (by decide +kernel) rfl) <|
  jx_all0
set_option maxRecDepth 100000 in
theorem sn_118 (D : jx_D) : jx_all (fun q => jx_Snd cX10_isPost 2 RX10 (some .boolean) D q.1 q.2) (tb_118 D) := by
  unfold tb_118
  exact jx_all1 (sd_iload_n (pc := 0) (q := 1) (by decide +kernel) rfl) <|
  jx_all1 (sd_iflt (pc := 1) (off := 15) (by decide +kernel) (by decide +kernel)) <|
  jx_all1 (sd_iload_n (pc := 4) (q := 1) (by decide +kernel) rfl) <|
  jx_all1 (sd_aload_n (pc := 5) (q := 0) (by decide +kernel) rfl) <|
  jx_all1 (sd_gI (pc := 6) kf_30 (f := 0) (q := jx_f0) (idx := 70) (by decide +kernel) rfl wd_810 rfl) <|
  jx_all1 (sd_icge (pc := 9) (off := 7) (by decide +kernel) (by decide +kernel)) <|
  jx_all1 (sd_iconst (pc := 12) (n := 1) (by decide +kernel) (by decide +kernel)) <|
  jx_all1 (sd_goto (pc := 13) (off := 4) (by decide +kernel) (by decide +kernel)) <|
  jx_all1 (sd_iconst (pc := 16) (n := 0) (by decide +kernel) (by decide +kernel)) <|
  jx_all1 (sd_zreturn (pc := 17) (by decide +kernel) rfl) <|
  jx_all0
set_option maxRecDepth 100000 in
theorem sn_119 (D : jx_D) : jx_all (fun q => jx_Snd cX10_addRoad 3 RX10 none D q.1 q.2) (tb_119 D) := by
  unfold tb_119
  exact jx_all1 (sd_aload_n (pc := 0) (q := 0) (by decide +kernel) rfl) <|
  jx_all1 (sd_gR (pc := 1) kf_30 (f := 3) (q := (jx_f1 33 0)) (idx := 7) (by decide +kernel) rfl wd_813 rfl) <|
  jx_all1 (sd_aload_n (pc := 4) (q := 0) (by decide +kernel) rfl) <|
  jx_all1 (sd_gI (pc := 5) kf_30 (f := 1) (q := jx_f0) (idx := 73) (by decide +kernel) rfl wd_811 rfl) <|
  jx_all1 (sd_iload_n (pc := 8) (q := 1) (by decide +kernel) rfl) <|
  jx_all1 (sd_iastore (pc := 9) (by decide +kernel)) <|
  jx_all1 (sd_aload_n (pc := 10) (q := 0) (by decide +kernel) rfl) <|
  jx_all1 (sd_gR (pc := 11) kf_30 (f := 4) (q := (jx_f1 34 0)) (idx := 13) (by decide +kernel) rfl wd_814 rfl) <|
  jx_all1 (sd_aload_n (pc := 14) (q := 0) (by decide +kernel) rfl) <|
  jx_all1 (sd_gI (pc := 15) kf_30 (f := 1) (q := jx_f0) (idx := 73) (by decide +kernel) rfl wd_811 rfl) <|
  jx_all1 (sd_iload_n (pc := 18) (q := 2) (by decide +kernel) rfl) <|
  jx_all1 (sd_iastore (pc := 19) (by decide +kernel)) <|
  jx_all1 (sd_aload_n (pc := 20) (q := 0) (by decide +kernel) rfl) <|
  jx_all1 (sd_gR (pc := 21) kf_30 (f := 5) (q := (jx_f1 35 0)) (idx := 16) (by decide +kernel) rfl wd_815 rfl) <|
  jx_all1 (sd_aload_n (pc := 24) (q := 0) (by decide +kernel) rfl) <|
  jx_all1 (sd_gI (pc := 25) kf_30 (f := 1) (q := jx_f0) (idx := 73) (by decide +kernel) rfl wd_811 rfl) <|
  jx_all1 (sd_iconst (pc := 28) (n := 1) (by decide +kernel) (by decide +kernel)) <|
  jx_all1 (sd_iastore (pc := 29) (by decide +kernel)) <|
  jx_all1 (sd_aload_n (pc := 30) (q := 0) (by decide +kernel) rfl) <|
  jx_all1 (sd_gR (pc := 31) kf_30 (f := 6) (q := (jx_f1 36 0)) (idx := 19) (by decide +kernel) rfl wd_816 rfl) <|
  jx_all1 (sd_aload_n (pc := 34) (q := 0) (by decide +kernel) rfl) <|
  jx_all1 (sd_gI (pc := 35) kf_30 (f := 1) (q := jx_f0) (idx := 73) (by decide +kernel) rfl wd_811 rfl) <|
  jx_all1 (sd_iconst (pc := 38) (n := 4) (by decide +kernel) (by decide +kernel)) <|
  jx_all1 (sd_iastore (pc := 39) (by decide +kernel)) <|
  jx_all1 (sd_aload_n (pc := 40) (q := 0) (by decide +kernel) rfl) <|
  jx_all1 (sd_dup (pc := 41) (by decide +kernel)) <|
  jx_all1 (sd_gI (pc := 42) kf_30 (f := 1) (q := jx_f0) (idx := 73) (by decide +kernel) rfl wd_811 rfl) <|
  jx_all1 (sd_iconst (pc := 45) (n := 1) (by decide +kernel) (by decide +kernel)) <|
  jx_all1 (sd_iadd (pc := 46) (by decide +kernel)) <|
  jx_all1 (sd_pI (pc := 47) kf_30 (f := 1) (q := jx_f0) (idx := 73) (by decide +kernel) rfl wd_811 rfl rfl rfl) <|
  jx_all1 (sd_return (pc := 50) (by decide +kernel) rfl) <|
  jx_all0
set_option maxRecDepth 100000 in
theorem sn_120 (D : jx_D) : jx_all (fun q => jx_Snd cX10_worth 5 RX10 (some .int) D q.1 q.2) (tb_120 D) := by
  unfold tb_120
  exact jx_all1 (sd_aload_n (pc := 0) (q := 0) (by decide +kernel) rfl) <|
  jx_all1 (sd_iload_n (pc := 1) (q := 1) (by decide +kernel) rfl) <|
  jx_all1 (sd_vI (pc := 2) (idx := 105) (kd := 30) (by decide +kernel) mf_121 wd_928 rfl rfl) <|
  jx_all1 (sd_ifeq (pc := 5) (off := 23) (by decide +kernel) (by decide +kernel)) <|
  jx_all1 (sd_iload_n (pc := 8) (q := 3) (by decide +kernel) rfl) <|
  jx_all1 (sd_iflt (pc := 9) (off := 19) (by decide +kernel) (by decide +kernel)) <|
  jx_all1 (sd_iload_n (pc := 12) (q := 3) (by decide +kernel) rfl) <|
  jx_all1 (sd_iload_n (pc := 13) (q := 2) (by decide +kernel) rfl) <|
  jx_all1 (sd_ifeq (pc := 14) (off := 8) (by decide +kernel) (by decide +kernel)) <|
  jx_all1 (sd_bipush (pc := 17) (n := 8) (by decide +kernel) (by decide +kernel)) <|
  jx_all1 (sd_goto (pc := 19) (off := 6) (by decide +kernel) (by decide +kernel)) <|
  jx_all1 (sd_sipush (pc := 22) (n := 1000) (by decide +kernel) (by decide +kernel)) <|
  jx_all1 (sd_icle (pc := 25) (off := 9) (by decide +kernel) (by decide +kernel)) <|
  jx_all1 (sd_aload_n (pc := 28) (q := 0) (by decide +kernel) rfl) <|
  jx_all1 (sd_iconst (pc := 29) (n := (-1)) (by decide +kernel) (by decide +kernel)) <|
  jx_all1 (sd_vI (pc := 30) (idx := 87) (kd := 30) (by decide +kernel) mf_111 wd_888 rfl rfl) <|
  jx_all1 (sd_ireturn (pc := 33) (by decide +kernel) rfl) <|
  jx_all1 (sd_aload_n (pc := 34) (q := 0) (by decide +kernel) rfl) <|
  jx_all1 (sd_vV (pc := 35) (idx := 94) (kd := 30) (by decide +kernel) mf_114 wd_900 rfl rfl) <|
  jx_all1 (sd_iload_n (pc := 38) (q := 2) (by decide +kernel) rfl) <|
  jx_all1 (sd_ifeq (pc := 39) (off := 12) (by decide +kernel) (by decide +kernel)) <|
  jx_all1 (sd_aload_n (pc := 42) (q := 0) (by decide +kernel) rfl) <|
  jx_all1 (sd_gR (pc := 43) kf_30 (f := 6) (q := (jx_f1 36 0)) (idx := 19) (by decide +kernel) rfl wd_816 rfl) <|
  jx_all1 (sd_iload_n (pc := 46) (q := 1) (by decide +kernel) rfl) <|
  jx_all1 (sd_iaload (pc := 47) (by decide +kernel)) <|
  jx_all1 (sd_goto (pc := 48) (off := 9) (by decide +kernel) (by decide +kernel)) <|
  jx_all1 (sd_aload_n (pc := 51) (q := 0) (by decide +kernel) rfl) <|
  jx_all1 (sd_gR (pc := 52) kf_30 (f := 5) (q := (jx_f1 35 0)) (idx := 16) (by decide +kernel) rfl wd_815 rfl) <|
  jx_all1 (sd_iload_n (pc := 55) (q := 1) (by decide +kernel) rfl) <|
  jx_all1 (sd_iaload (pc := 56) (by decide +kernel)) <|
  jx_all1 (sd_istore (pc := 57) (by decide +kernel)) <|
  jx_all1 (sd_iload_n (pc := 59) (q := 2) (by decide +kernel) rfl) <|
  jx_all1 (sd_ifeq (pc := 60) (off := 13) (by decide +kernel) (by decide +kernel)) <|
  jx_all1 (sd_aload_n (pc := 63) (q := 0) (by decide +kernel) rfl) <|
  jx_all1 (sd_gR (pc := 64) kf_30 (f := 6) (q := (jx_f1 36 0)) (idx := 19) (by decide +kernel) rfl wd_816 rfl) <|
  jx_all1 (sd_iload_n (pc := 67) (q := 1) (by decide +kernel) rfl) <|
  jx_all1 (sd_iload_n (pc := 68) (q := 3) (by decide +kernel) rfl) <|
  jx_all1 (sd_iastore (pc := 69) (by decide +kernel)) <|
  jx_all1 (sd_goto (pc := 70) (off := 10) (by decide +kernel) (by decide +kernel)) <|
  jx_all1 (sd_aload_n (pc := 73) (q := 0) (by decide +kernel) rfl) <|
  jx_all1 (sd_gR (pc := 74) kf_30 (f := 5) (q := (jx_f1 35 0)) (idx := 16) (by decide +kernel) rfl wd_815 rfl) <|
  jx_all1 (sd_iload_n (pc := 77) (q := 1) (by decide +kernel) rfl) <|
  jx_all1 (sd_iload_n (pc := 78) (q := 3) (by decide +kernel) rfl) <|
  jx_all1 (sd_iastore (pc := 79) (by decide +kernel)) <|
  jx_all1 (sd_iload (pc := 80) (by decide +kernel)) <|
  jx_all1 (sd_ireturn (pc := 82) (by decide +kernel) rfl) <|
  jx_all0
set_option maxRecDepth 100000 in
theorem sn_121 (D : jx_D) : jx_all (fun q => jx_Snd cX10_isRoad 2 RX10 (some .boolean) D q.1 q.2) (tb_121 D) := by
  unfold tb_121
  exact jx_all1 (sd_iload_n (pc := 0) (q := 1) (by decide +kernel) rfl) <|
  jx_all1 (sd_iflt (pc := 1) (off := 15) (by decide +kernel) (by decide +kernel)) <|
  jx_all1 (sd_iload_n (pc := 4) (q := 1) (by decide +kernel) rfl) <|
  jx_all1 (sd_aload_n (pc := 5) (q := 0) (by decide +kernel) rfl) <|
  jx_all1 (sd_gI (pc := 6) kf_30 (f := 1) (q := jx_f0) (idx := 73) (by decide +kernel) rfl wd_811 rfl) <|
  jx_all1 (sd_icge (pc := 9) (off := 7) (by decide +kernel) (by decide +kernel)) <|
  jx_all1 (sd_iconst (pc := 12) (n := 1) (by decide +kernel) (by decide +kernel)) <|
  jx_all1 (sd_goto (pc := 13) (off := 4) (by decide +kernel) (by decide +kernel)) <|
  jx_all1 (sd_iconst (pc := 16) (n := 0) (by decide +kernel) (by decide +kernel)) <|
  jx_all1 (sd_zreturn (pc := 17) (by decide +kernel) rfl) <|
  jx_all0
set_option maxRecDepth 100000 in
theorem sn_122 (D : jx_D) : jx_all (fun q => jx_Snd cX10_drop 2 RX10 (some .int) D q.1 q.2) (tb_122 D) := by
  unfold tb_122
  exact jx_all1 (sd_aload_n (pc := 0) (q := 0) (by decide +kernel) rfl) <|
  jx_all1 (sd_iload_n (pc := 1) (q := 1) (by decide +kernel) rfl) <|
  jx_all1 (sd_vI (pc := 2) (idx := 105) (kd := 30) (by decide +kernel) mf_121 wd_928 rfl rfl) <|
  jx_all1 (sd_ifne (pc := 5) (off := 9) (by decide +kernel) (by decide +kernel)) <|
  jx_all1 (sd_aload_n (pc := 8) (q := 0) (by decide +kernel) rfl) <|
  jx_all1 (sd_iconst (pc := 9) (n := (-1)) (by decide +kernel) (by decide +kernel)) <|
  jx_all1 (sd_vI (pc := 10) (idx := 87) (kd := 30) (by decide +kernel) mf_111 wd_888 rfl rfl) <|
  jx_all1 (sd_ireturn (pc := 13) (by decide +kernel) rfl) <|
  jx_all1 (sd_aload_n (pc := 14) (q := 0) (by decide +kernel) rfl) <|
  jx_all1 (sd_vV (pc := 15) (idx := 94) (kd := 30) (by decide +kernel) mf_114 wd_900 rfl rfl) <|
  jx_all1 (sd_aload_n (pc := 18) (q := 0) (by decide +kernel) rfl) <|
  jx_all1 (sd_iload_n (pc := 19) (q := 1) (by decide +kernel) rfl) <|
  jx_all1 (sd_vV (pc := 20) (idx := 108) (kd := 30) (by decide +kernel) mf_123 wd_936 rfl rfl) <|
  jx_all1 (sd_aload_n (pc := 23) (q := 0) (by decide +kernel) rfl) <|
  jx_all1 (sd_gI (pc := 24) kf_30 (f := 1) (q := jx_f0) (idx := 73) (by decide +kernel) rfl wd_811 rfl) <|
  jx_all1 (sd_ireturn (pc := 27) (by decide +kernel) rfl) <|
  jx_all0
set_option maxRecDepth 100000 in
theorem sn_123 (D : jx_D) : jx_all (fun q => jx_Snd cX10_remove 3 RX10 none D q.1 q.2) (tb_123 D) := by
  unfold tb_123
  exact jx_all1 (sd_aload_n (pc := 0) (q := 0) (by decide +kernel) rfl) <|
  jx_all1 (sd_dup (pc := 1) (by decide +kernel)) <|
  jx_all1 (sd_gI (pc := 2) kf_30 (f := 1) (q := jx_f0) (idx := 73) (by decide +kernel) rfl wd_811 rfl) <|
  jx_all1 (sd_iconst (pc := 5) (n := 1) (by decide +kernel) (by decide +kernel)) <|
  jx_all1 (sd_isub (pc := 6) (by decide +kernel)) <|
  jx_all1 (sd_pI (pc := 7) kf_30 (f := 1) (q := jx_f0) (idx := 73) (by decide +kernel) rfl wd_811 rfl rfl rfl) <|
  jx_all1 (sd_iload_n (pc := 10) (q := 1) (by decide +kernel) rfl) <|
  jx_all1 (sd_istore_n (pc := 11) (q := 2) (by decide +kernel) rfl) <|
  jx_all1 (sd_iload_n (pc := 12) (q := 2) (by decide +kernel) rfl) <|
  jx_all1 (sd_aload_n (pc := 13) (q := 0) (by decide +kernel) rfl) <|
  jx_all1 (sd_gI (pc := 14) kf_30 (f := 1) (q := jx_f0) (idx := 73) (by decide +kernel) rfl wd_811 rfl) <|
  jx_all1 (sd_icge (pc := 17) (off := 65) (by decide +kernel) (by decide +kernel)) <|
  jx_all1 (sd_aload_n (pc := 20) (q := 0) (by decide +kernel) rfl) <|
  jx_all1 (sd_gR (pc := 21) kf_30 (f := 3) (q := (jx_f1 33 0)) (idx := 7) (by decide +kernel) rfl wd_813 rfl) <|
  jx_all1 (sd_iload_n (pc := 24) (q := 2) (by decide +kernel) rfl) <|
  jx_all1 (sd_aload_n (pc := 25) (q := 0) (by decide +kernel) rfl) <|
  jx_all1 (sd_gR (pc := 26) kf_30 (f := 3) (q := (jx_f1 33 0)) (idx := 7) (by decide +kernel) rfl wd_813 rfl) <|
  jx_all1 (sd_iload_n (pc := 29) (q := 2) (by decide +kernel) rfl) <|
  jx_all1 (sd_iconst (pc := 30) (n := 1) (by decide +kernel) (by decide +kernel)) <|
  jx_all1 (sd_iadd (pc := 31) (by decide +kernel)) <|
  jx_all1 (sd_iaload (pc := 32) (by decide +kernel)) <|
  jx_all1 (sd_iastore (pc := 33) (by decide +kernel)) <|
  jx_all1 (sd_aload_n (pc := 34) (q := 0) (by decide +kernel) rfl) <|
  jx_all1 (sd_gR (pc := 35) kf_30 (f := 4) (q := (jx_f1 34 0)) (idx := 13) (by decide +kernel) rfl wd_814 rfl) <|
  jx_all1 (sd_iload_n (pc := 38) (q := 2) (by decide +kernel) rfl) <|
  jx_all1 (sd_aload_n (pc := 39) (q := 0) (by decide +kernel) rfl) <|
  jx_all1 (sd_gR (pc := 40) kf_30 (f := 4) (q := (jx_f1 34 0)) (idx := 13) (by decide +kernel) rfl wd_814 rfl) <|
  jx_all1 (sd_iload_n (pc := 43) (q := 2) (by decide +kernel) rfl) <|
  jx_all1 (sd_iconst (pc := 44) (n := 1) (by decide +kernel) (by decide +kernel)) <|
  jx_all1 (sd_iadd (pc := 45) (by decide +kernel)) <|
  jx_all1 (sd_iaload (pc := 46) (by decide +kernel)) <|
  jx_all1 (sd_iastore (pc := 47) (by decide +kernel)) <|
  jx_all1 (sd_aload_n (pc := 48) (q := 0) (by decide +kernel) rfl) <|
  jx_all1 (sd_gR (pc := 49) kf_30 (f := 5) (q := (jx_f1 35 0)) (idx := 16) (by decide +kernel) rfl wd_815 rfl) <|
  jx_all1 (sd_iload_n (pc := 52) (q := 2) (by decide +kernel) rfl) <|
  jx_all1 (sd_aload_n (pc := 53) (q := 0) (by decide +kernel) rfl) <|
  jx_all1 (sd_gR (pc := 54) kf_30 (f := 5) (q := (jx_f1 35 0)) (idx := 16) (by decide +kernel) rfl wd_815 rfl) <|
  jx_all1 (sd_iload_n (pc := 57) (q := 2) (by decide +kernel) rfl) <|
  jx_all1 (sd_iconst (pc := 58) (n := 1) (by decide +kernel) (by decide +kernel)) <|
  jx_all1 (sd_iadd (pc := 59) (by decide +kernel)) <|
  jx_all1 (sd_iaload (pc := 60) (by decide +kernel)) <|
  jx_all1 (sd_iastore (pc := 61) (by decide +kernel)) <|
  jx_all1 (sd_aload_n (pc := 62) (q := 0) (by decide +kernel) rfl) <|
  jx_all1 (sd_gR (pc := 63) kf_30 (f := 6) (q := (jx_f1 36 0)) (idx := 19) (by decide +kernel) rfl wd_816 rfl) <|
  jx_all1 (sd_iload_n (pc := 66) (q := 2) (by decide +kernel) rfl) <|
  jx_all1 (sd_aload_n (pc := 67) (q := 0) (by decide +kernel) rfl) <|
  jx_all1 (sd_gR (pc := 68) kf_30 (f := 6) (q := (jx_f1 36 0)) (idx := 19) (by decide +kernel) rfl wd_816 rfl) <|
  jx_all1 (sd_iload_n (pc := 71) (q := 2) (by decide +kernel) rfl) <|
  jx_all1 (sd_iconst (pc := 72) (n := 1) (by decide +kernel) (by decide +kernel)) <|
  jx_all1 (sd_iadd (pc := 73) (by decide +kernel)) <|
  jx_all1 (sd_iaload (pc := 74) (by decide +kernel)) <|
  jx_all1 (sd_iastore (pc := 75) (by decide +kernel)) <|
  jx_all1 (sd_iinc (pc := 76) (n := 1) (by decide +kernel) (by decide +kernel)) <|
  jx_all1 (sd_goto (pc := 79) (off := (-67)) (by decide +kernel) (by decide +kernel)) <|
  jx_all1 (sd_return (pc := 82) (by decide +kernel) rfl) <|
  jx_all0
set_option maxRecDepth 100000 in
theorem sn_124 (D : jx_D) : jx_all (fun q => jx_Snd cX10_join 4 RX10 (some .int) D q.1 q.2) (tb_124 D) := by
  unfold tb_124
  exact jx_all1 (sd_aload_n (pc := 0) (q := 0) (by decide +kernel) rfl) <|
  jx_all1 (sd_iload_n (pc := 1) (q := 1) (by decide +kernel) rfl) <|
  jx_all1 (sd_vI (pc := 2) (idx := 97) (kd := 30) (by decide +kernel) mf_118 wd_916 rfl rfl) <|
  jx_all1 (sd_ifeq (pc := 5) (off := 11) (by decide +kernel) (by decide +kernel)) <|
  jx_all1 (sd_aload_n (pc := 8) (q := 0) (by decide +kernel) rfl) <|
  jx_all1 (sd_iload_n (pc := 9) (q := 2) (by decide +kernel) rfl) <|
  jx_all1 (sd_vI (pc := 10) (idx := 97) (kd := 30) (by decide +kernel) mf_118 wd_916 rfl rfl) <|
  jx_all1 (sd_ifne (pc := 13) (off := 9) (by decide +kernel) (by decide +kernel)) <|
  jx_all1 (sd_aload_n (pc := 16) (q := 0) (by decide +kernel) rfl) <|
  jx_all1 (sd_iconst (pc := 17) (n := (-1)) (by decide +kernel) (by decide +kernel)) <|
  jx_all1 (sd_vI (pc := 18) (idx := 87) (kd := 30) (by decide +kernel) mf_111 wd_888 rfl rfl) <|
  jx_all1 (sd_ireturn (pc := 21) (by decide +kernel) rfl) <|
  jx_all1 (sd_iload_n (pc := 22) (q := 1) (by decide +kernel) rfl) <|
  jx_all1 (sd_iload_n (pc := 23) (q := 2) (by decide +kernel) rfl) <|
  jx_all1 (sd_iclt (pc := 24) (off := 10) (by decide +kernel) (by decide +kernel)) <|
  jx_all1 (sd_aload_n (pc := 27) (q := 0) (by decide +kernel) rfl) <|
  jx_all1 (sd_bipush (pc := 28) (n := (-3)) (by decide +kernel) (by decide +kernel)) <|
  jx_all1 (sd_vI (pc := 30) (idx := 87) (kd := 30) (by decide +kernel) mf_111 wd_888 rfl rfl) <|
  jx_all1 (sd_ireturn (pc := 33) (by decide +kernel) rfl) <|
  jx_all1 (sd_aload_n (pc := 34) (q := 0) (by decide +kernel) rfl) <|
  jx_all1 (sd_vV (pc := 35) (idx := 94) (kd := 30) (by decide +kernel) mf_114 wd_900 rfl rfl) <|
  jx_all1 (sd_aload_n (pc := 38) (q := 0) (by decide +kernel) rfl) <|
  jx_all1 (sd_gI (pc := 39) kf_30 (f := 1) (q := jx_f0) (idx := 73) (by decide +kernel) rfl wd_811 rfl) <|
  jx_all1 (sd_iconst (pc := 42) (n := 1) (by decide +kernel) (by decide +kernel)) <|
  jx_all1 (sd_isub (pc := 43) (by decide +kernel)) <|
  jx_all1 (sd_istore_n (pc := 44) (q := 3) (by decide +kernel) rfl) <|
  jx_all1 (sd_iload_n (pc := 45) (q := 3) (by decide +kernel) rfl) <|
  jx_all1 (sd_iflt (pc := 46) (off := 63) (by decide +kernel) (by decide +kernel)) <|
  jx_all1 (sd_aload_n (pc := 49) (q := 0) (by decide +kernel) rfl) <|
  jx_all1 (sd_gR (pc := 50) kf_30 (f := 3) (q := (jx_f1 33 0)) (idx := 7) (by decide +kernel) rfl wd_813 rfl) <|
  jx_all1 (sd_iload_n (pc := 53) (q := 3) (by decide +kernel) rfl) <|
  jx_all1 (sd_aload_n (pc := 54) (q := 0) (by decide +kernel) rfl) <|
  jx_all1 (sd_gR (pc := 55) kf_30 (f := 3) (q := (jx_f1 33 0)) (idx := 7) (by decide +kernel) rfl wd_813 rfl) <|
  jx_all1 (sd_iload_n (pc := 58) (q := 3) (by decide +kernel) rfl) <|
  jx_all1 (sd_iaload (pc := 59) (by decide +kernel)) <|
  jx_all1 (sd_iload_n (pc := 60) (q := 1) (by decide +kernel) rfl) <|
  jx_all1 (sd_iload_n (pc := 61) (q := 2) (by decide +kernel) rfl) <|
  jx_all1 (sd_cI (pc := 62) (idx := 112) (by decide +kernel) mf_125 (Or.inl wd_944)) <|
  jx_all1 (sd_iastore (pc := 65) (by decide +kernel)) <|
  jx_all1 (sd_aload_n (pc := 66) (q := 0) (by decide +kernel) rfl) <|
  jx_all1 (sd_gR (pc := 67) kf_30 (f := 4) (q := (jx_f1 34 0)) (idx := 13) (by decide +kernel) rfl wd_814 rfl) <|
  jx_all1 (sd_iload_n (pc := 70) (q := 3) (by decide +kernel) rfl) <|
  jx_all1 (sd_aload_n (pc := 71) (q := 0) (by decide +kernel) rfl) <|
  jx_all1 (sd_gR (pc := 72) kf_30 (f := 4) (q := (jx_f1 34 0)) (idx := 13) (by decide +kernel) rfl wd_814 rfl) <|
  jx_all1 (sd_iload_n (pc := 75) (q := 3) (by decide +kernel) rfl) <|
  jx_all1 (sd_iaload (pc := 76) (by decide +kernel)) <|
  jx_all1 (sd_iload_n (pc := 77) (q := 1) (by decide +kernel) rfl) <|
  jx_all1 (sd_iload_n (pc := 78) (q := 2) (by decide +kernel) rfl) <|
  jx_all1 (sd_cI (pc := 79) (idx := 112) (by decide +kernel) mf_125 (Or.inl wd_944)) <|
  jx_all1 (sd_iastore (pc := 82) (by decide +kernel)) <|
  jx_all1 (sd_aload_n (pc := 83) (q := 0) (by decide +kernel) rfl) <|
  jx_all1 (sd_gR (pc := 84) kf_30 (f := 3) (q := (jx_f1 33 0)) (idx := 7) (by decide +kernel) rfl wd_813 rfl) <|
  jx_all1 (sd_iload_n (pc := 87) (q := 3) (by decide +kernel) rfl) <|
  jx_all1 (sd_iaload (pc := 88) (by decide +kernel)) <|
  jx_all1 (sd_aload_n (pc := 89) (q := 0) (by decide +kernel) rfl) <|
  jx_all1 (sd_gR (pc := 90) kf_30 (f := 4) (q := (jx_f1 34 0)) (idx := 13) (by decide +kernel) rfl wd_814 rfl) <|
  jx_all1 (sd_iload_n (pc := 93) (q := 3) (by decide +kernel) rfl) <|
  jx_all1 (sd_iaload (pc := 94) (by decide +kernel)) <|
  jx_all1 (sd_icne (pc := 95) (off := 8) (by decide +kernel) (by decide +kernel)) <|
  jx_all1 (sd_aload_n (pc := 98) (q := 0) (by decide +kernel) rfl) <|
  jx_all1 (sd_iload_n (pc := 99) (q := 3) (by decide +kernel) rfl) <|
  jx_all1 (sd_vV (pc := 100) (idx := 108) (kd := 30) (by decide +kernel) mf_123 wd_936 rfl rfl) <|
  jx_all1 (sd_iinc (pc := 103) (n := (-1)) (by decide +kernel) (by decide +kernel)) <|
  jx_all1 (sd_goto (pc := 106) (off := (-61)) (by decide +kernel) (by decide +kernel)) <|
  jx_all1 (sd_aload_n (pc := 109) (q := 0) (by decide +kernel) rfl) <|
  jx_all1 (sd_dup (pc := 110) (by decide +kernel)) <|
  jx_all1 (sd_gI (pc := 111) kf_30 (f := 0) (q := jx_f0) (idx := 70) (by decide +kernel) rfl wd_810 rfl) <|
  jx_all1 (sd_iconst (pc := 114) (n := 1) (by decide +kernel) (by decide +kernel)) <|
  jx_all1 (sd_isub (pc := 115) (by decide +kernel)) <|
  jx_all1 (sd_pI (pc := 116) kf_30 (f := 0) (q := jx_f0) (idx := 70) (by decide +kernel) rfl wd_810 rfl rfl rfl) <|
  jx_all1 (sd_aload_n (pc := 119) (q := 0) (by decide +kernel) rfl) <|
  jx_all1 (sd_gI (pc := 120) kf_30 (f := 0) (q := jx_f0) (idx := 70) (by decide +kernel) rfl wd_810 rfl) <|
  jx_all1 (sd_ireturn (pc := 123) (by decide +kernel) rfl) <|
  jx_all0
set_option maxRecDepth 100000 in
theorem sn_125 (D : jx_D) : jx_all (fun q => jx_Snd cX10_joined 3 RX10 (some .int) D q.1 q.2) (tb_125 D) := by
  unfold tb_125
  exact jx_all1 (sd_iload_n (pc := 0) (q := 0) (by decide +kernel) rfl) <|
  jx_all1 (sd_iload_n (pc := 1) (q := 2) (by decide +kernel) rfl) <|
  jx_all1 (sd_icne (pc := 2) (off := 7) (by decide +kernel) (by decide +kernel)) <|
  jx_all1 (sd_iload_n (pc := 5) (q := 1) (by decide +kernel) rfl) <|
  jx_all1 (sd_goto (pc := 6) (off := 15) (by decide +kernel) (by decide +kernel)) <|
  jx_all1 (sd_iload_n (pc := 9) (q := 0) (by decide +kernel) rfl) <|
  jx_all1 (sd_iload_n (pc := 10) (q := 2) (by decide +kernel) rfl) <|
  jx_all1 (sd_icle (pc := 11) (off := 9) (by decide +kernel) (by decide +kernel)) <|
  jx_all1 (sd_iload_n (pc := 14) (q := 0) (by decide +kernel) rfl) <|
  jx_all1 (sd_iconst (pc := 15) (n := 1) (by decide +kernel) (by decide +kernel)) <|
  jx_all1 (sd_isub (pc := 16) (by decide +kernel)) <|
  jx_all1 (sd_goto (pc := 17) (off := 4) (by decide +kernel) (by decide +kernel)) <|
  jx_all1 (sd_iload_n (pc := 20) (q := 0) (by decide +kernel) rfl) <|
  jx_all1 (sd_ireturn (pc := 21) (by decide +kernel) rfl) <|
  jx_all0
set_option maxRecDepth 100000 in
theorem sn_126 (D : jx_D) : jx_all (fun q => jx_Snd cX10_of 3 RX10 (some .int) D q.1 q.2) (tb_126 D) := by
  unfold tb_126
  exact jx_all1 (sd_aload_n (pc := 0) (q := 0) (by decide +kernel) rfl) <|
  jx_all1 (sd_iload_n (pc := 1) (q := 1) (by decide +kernel) rfl) <|
  jx_all1 (sd_vI (pc := 2) (idx := 105) (kd := 30) (by decide +kernel) mf_121 wd_928 rfl rfl) <|
  jx_all1 (sd_ifeq (pc := 5) (off := 12) (by decide +kernel) (by decide +kernel)) <|
  jx_all1 (sd_iload_n (pc := 8) (q := 2) (by decide +kernel) rfl) <|
  jx_all1 (sd_iflt (pc := 9) (off := 8) (by decide +kernel) (by decide +kernel)) <|
  jx_all1 (sd_iload_n (pc := 12) (q := 2) (by decide +kernel) rfl) <|
  jx_all1 (sd_iconst (pc := 13) (n := 3) (by decide +kernel) (by decide +kernel)) <|
  jx_all1 (sd_icle (pc := 14) (off := 9) (by decide +kernel) (by decide +kernel)) <|
  jx_all1 (sd_aload_n (pc := 17) (q := 0) (by decide +kernel) rfl) <|
  jx_all1 (sd_iconst (pc := 18) (n := (-1)) (by decide +kernel) (by decide +kernel)) <|
  jx_all1 (sd_vI (pc := 19) (idx := 87) (kd := 30) (by decide +kernel) mf_111 wd_888 rfl rfl) <|
  jx_all1 (sd_ireturn (pc := 22) (by decide +kernel) rfl) <|
  jx_all1 (sd_iload_n (pc := 23) (q := 2) (by decide +kernel) rfl) <|
  jx_all1 (sd_ifne (pc := 24) (off := 12) (by decide +kernel) (by decide +kernel)) <|
  jx_all1 (sd_aload_n (pc := 27) (q := 0) (by decide +kernel) rfl) <|
  jx_all1 (sd_gR (pc := 28) kf_30 (f := 3) (q := (jx_f1 33 0)) (idx := 7) (by decide +kernel) rfl wd_813 rfl) <|
  jx_all1 (sd_iload_n (pc := 31) (q := 1) (by decide +kernel) rfl) <|
  jx_all1 (sd_iaload (pc := 32) (by decide +kernel)) <|
  jx_all1 (sd_goto (pc := 33) (off := 37) (by decide +kernel) (by decide +kernel)) <|
  jx_all1 (sd_iload_n (pc := 36) (q := 2) (by decide +kernel) rfl) <|
  jx_all1 (sd_iconst (pc := 37) (n := 1) (by decide +kernel) (by decide +kernel)) <|
  jx_all1 (sd_icne (pc := 38) (off := 12) (by decide +kernel) (by decide +kernel)) <|
  jx_all1 (sd_aload_n (pc := 41) (q := 0) (by decide +kernel) rfl) <|
  jx_all1 (sd_gR (pc := 42) kf_30 (f := 4) (q := (jx_f1 34 0)) (idx := 13) (by decide +kernel) rfl wd_814 rfl) <|
  jx_all1 (sd_iload_n (pc := 45) (q := 1) (by decide +kernel) rfl) <|
  jx_all1 (sd_iaload (pc := 46) (by decide +kernel)) <|
  jx_all1 (sd_goto (pc := 47) (off := 23) (by decide +kernel) (by decide +kernel)) <|
  jx_all1 (sd_iload_n (pc := 50) (q := 2) (by decide +kernel) rfl) <|
  jx_all1 (sd_iconst (pc := 51) (n := 2) (by decide +kernel) (by decide +kernel)) <|
  jx_all1 (sd_icne (pc := 52) (off := 12) (by decide +kernel) (by decide +kernel)) <|
  jx_all1 (sd_aload_n (pc := 55) (q := 0) (by decide +kernel) rfl) <|
  jx_all1 (sd_gR (pc := 56) kf_30 (f := 5) (q := (jx_f1 35 0)) (idx := 16) (by decide +kernel) rfl wd_815 rfl) <|
  jx_all1 (sd_iload_n (pc := 59) (q := 1) (by decide +kernel) rfl) <|
  jx_all1 (sd_iaload (pc := 60) (by decide +kernel)) <|
  jx_all1 (sd_goto (pc := 61) (off := 9) (by decide +kernel) (by decide +kernel)) <|
  jx_all1 (sd_aload_n (pc := 64) (q := 0) (by decide +kernel) rfl) <|
  jx_all1 (sd_gR (pc := 65) kf_30 (f := 6) (q := (jx_f1 36 0)) (idx := 19) (by decide +kernel) rfl wd_816 rfl) <|
  jx_all1 (sd_iload_n (pc := 68) (q := 1) (by decide +kernel) rfl) <|
  jx_all1 (sd_iaload (pc := 69) (by decide +kernel)) <|
  jx_all1 (sd_ireturn (pc := 70) (by decide +kernel) rfl) <|
  jx_all0
set_option maxRecDepth 100000 in
theorem sn_127 (D : jx_D) : jx_all (fun q => jx_Snd cX10_sheet 5 RX10 (some .int) D q.1 q.2) (tb_127 D) := by
  unfold tb_127
  exact jx_all1 (sd_iload_n (pc := 0) (q := 1) (by decide +kernel) rfl) <|
  jx_all1 (sd_cI (pc := 1) (idx := 116) (by decide +kernel) mf_128 (Or.inl wd_955)) <|
  jx_all1 (sd_ifeq (pc := 4) (off := 25) (by decide +kernel) (by decide +kernel)) <|
  jx_all1 (sd_iload_n (pc := 7) (q := 2) (by decide +kernel) rfl) <|
  jx_all1 (sd_ifeq (pc := 8) (off := 27) (by decide +kernel) (by decide +kernel)) <|
  jx_all1 (sd_iload_n (pc := 11) (q := 2) (by decide +kernel) rfl) <|
  jx_all1 (sd_bipush (pc := 12) (n := 8) (by decide +kernel) (by decide +kernel)) <|
  jx_all1 (sd_iceq (pc := 14) (off := 21) (by decide +kernel) (by decide +kernel)) <|
  jx_all1 (sd_iload_n (pc := 17) (q := 2) (by decide +kernel) rfl) <|
  jx_all1 (sd_bipush (pc := 18) (n := 16) (by decide +kernel) (by decide +kernel)) <|
  jx_all1 (sd_iceq (pc := 20) (off := 15) (by decide +kernel) (by decide +kernel)) <|
  jx_all1 (sd_iload_n (pc := 23) (q := 2) (by decide +kernel) rfl) <|
  jx_all1 (sd_bipush (pc := 24) (n := 32) (by decide +kernel) (by decide +kernel)) <|
  jx_all1 (sd_iceq (pc := 26) (off := 9) (by decide +kernel) (by decide +kernel)) <|
  jx_all1 (sd_aload_n (pc := 29) (q := 0) (by decide +kernel) rfl) <|
  jx_all1 (sd_iconst (pc := 30) (n := (-1)) (by decide +kernel) (by decide +kernel)) <|
  jx_all1 (sd_vI (pc := 31) (idx := 87) (kd := 30) (by decide +kernel) mf_111 wd_888 rfl rfl) <|
  jx_all1 (sd_ireturn (pc := 34) (by decide +kernel) rfl) <|
  jx_all1 (sd_iload_n (pc := 35) (q := 3) (by decide +kernel) rfl) <|
  jx_all1 (sd_ifge (pc := 36) (off := 10) (by decide +kernel) (by decide +kernel)) <|
  jx_all1 (sd_aload_n (pc := 39) (q := 0) (by decide +kernel) rfl) <|
  jx_all1 (sd_bipush (pc := 40) (n := (-3)) (by decide +kernel) (by decide +kernel)) <|
  jx_all1 (sd_vI (pc := 42) (idx := 87) (kd := 30) (by decide +kernel) mf_111 wd_888 rfl rfl) <|
  jx_all1 (sd_ireturn (pc := 45) (by decide +kernel) rfl) <|
  jx_all1 (sd_iload_n (pc := 46) (q := 3) (by decide +kernel) rfl) <|
  jx_all1 (sd_bipush (pc := 47) (n := 24) (by decide +kernel) (by decide +kernel)) <|
  jx_all1 (sd_icle (pc := 49) (off := 9) (by decide +kernel) (by decide +kernel)) <|
  jx_all1 (sd_aload_n (pc := 52) (q := 0) (by decide +kernel) rfl) <|
  jx_all1 (sd_iconst (pc := 53) (n := (-1)) (by decide +kernel) (by decide +kernel)) <|
  jx_all1 (sd_vI (pc := 54) (idx := 87) (kd := 30) (by decide +kernel) mf_111 wd_888 rfl rfl) <|
  jx_all1 (sd_ireturn (pc := 57) (by decide +kernel) rfl) <|
  jx_all1 (sd_aload_n (pc := 58) (q := 0) (by decide +kernel) rfl) <|
  jx_all1 (sd_gR (pc := 59) kf_30 (f := 11) (q := (jx_f1 41 0)) (idx := 31) (by decide +kernel) rfl wd_821 rfl) <|
  jx_all1 (sd_iload_n (pc := 62) (q := 1) (by decide +kernel) rfl) <|
  jx_all1 (sd_iload_n (pc := 63) (q := 2) (by decide +kernel) rfl) <|
  jx_all1 (sd_iastore (pc := 64) (by decide +kernel)) <|
  jx_all1 (sd_aload_n (pc := 65) (q := 0) (by decide +kernel) rfl) <|
  jx_all1 (sd_gR (pc := 66) kf_30 (f := 12) (q := (jx_f1 42 0)) (idx := 34) (by decide +kernel) rfl wd_822 rfl) <|
  jx_all1 (sd_iload_n (pc := 69) (q := 1) (by decide +kernel) rfl) <|
  jx_all1 (sd_iload_n (pc := 70) (q := 2) (by decide +kernel) rfl) <|
  jx_all1 (sd_ifne (pc := 71) (off := 7) (by decide +kernel) (by decide +kernel)) <|
  jx_all1 (sd_iconst (pc := 74) (n := 0) (by decide +kernel) (by decide +kernel)) <|
  jx_all1 (sd_goto (pc := 75) (off := 4) (by decide +kernel) (by decide +kernel)) <|
  jx_all1 (sd_iload_n (pc := 78) (q := 3) (by decide +kernel) rfl) <|
  jx_all1 (sd_iastore (pc := 79) (by decide +kernel)) <|
  jx_all1 (sd_iconst (pc := 80) (n := 0) (by decide +kernel) (by decide +kernel)) <|
  jx_all1 (sd_istore (pc := 81) (by decide +kernel)) <|
  jx_all1 (sd_iload (pc := 83) (by decide +kernel)) <|
  jx_all1 (sd_bipush (pc := 85) (n := 24) (by decide +kernel) (by decide +kernel)) <|
  jx_all1 (sd_icge (pc := 87) (off := 22) (by decide +kernel) (by decide +kernel)) <|
  jx_all1 (sd_aload_n (pc := 90) (q := 0) (by decide +kernel) rfl) <|
  jx_all1 (sd_gR (pc := 91) kf_30 (f := 13) (q := (jx_f1 43 0)) (idx := 37) (by decide +kernel) rfl wd_823 rfl) <|
  jx_all1 (sd_bipush (pc := 94) (n := 24) (by decide +kernel) (by decide +kernel)) <|
  jx_all1 (sd_iload_n (pc := 96) (q := 1) (by decide +kernel) rfl) <|
  jx_all1 (sd_imul (pc := 97) (by decide +kernel)) <|
  jx_all1 (sd_iload (pc := 98) (by decide +kernel)) <|
  jx_all1 (sd_iadd (pc := 100) (by decide +kernel)) <|
  jx_all1 (sd_iconst (pc := 101) (n := 0) (by decide +kernel) (by decide +kernel)) <|
  jx_all1 (sd_iastore (pc := 102) (by decide +kernel)) <|
  jx_all1 (sd_iinc (pc := 103) (n := 1) (by decide +kernel) (by decide +kernel)) <|
  jx_all1 (sd_goto (pc := 106) (off := (-23)) (by decide +kernel) (by decide +kernel)) <|
  jx_all1 (sd_aload_n (pc := 109) (q := 0) (by decide +kernel) rfl) <|
  jx_all1 (sd_gR (pc := 110) kf_30 (f := 12) (q := (jx_f1 42 0)) (idx := 34) (by decide +kernel) rfl wd_822 rfl) <|
  jx_all1 (sd_iload_n (pc := 113) (q := 1) (by decide +kernel) rfl) <|
  jx_all1 (sd_iaload (pc := 114) (by decide +kernel)) <|
  jx_all1 (sd_ireturn (pc := 115) (by decide +kernel) rfl) <|
  jx_all0
set_option maxRecDepth 100000 in
theorem sn_128 (D : jx_D) : jx_all (fun q => jx_Snd cX10_isSheet 1 RX10 (some .boolean) D q.1 q.2) (tb_128 D) := by
  unfold tb_128
  exact jx_all1 (sd_iload_n (pc := 0) (q := 0) (by decide +kernel) rfl) <|
  jx_all1 (sd_iflt (pc := 1) (off := 12) (by decide +kernel) (by decide +kernel)) <|
  jx_all1 (sd_iload_n (pc := 4) (q := 0) (by decide +kernel) rfl) <|
  jx_all1 (sd_iconst (pc := 5) (n := 4) (by decide +kernel) (by decide +kernel)) <|
  jx_all1 (sd_icge (pc := 6) (off := 7) (by decide +kernel) (by decide +kernel)) <|
  jx_all1 (sd_iconst (pc := 9) (n := 1) (by decide +kernel) (by decide +kernel)) <|
  jx_all1 (sd_goto (pc := 10) (off := 4) (by decide +kernel) (by decide +kernel)) <|
  jx_all1 (sd_iconst (pc := 13) (n := 0) (by decide +kernel) (by decide +kernel)) <|
  jx_all1 (sd_zreturn (pc := 14) (by decide +kernel) rfl) <|
  jx_all0
set_option maxRecDepth 100000 in
theorem sn_129 (D : jx_D) : jx_all (fun q => jx_Snd cX10_put 4 RX10 (some .int) D q.1 q.2) (tb_129 D) := by
  unfold tb_129
  exact jx_all1 (sd_iload_n (pc := 0) (q := 1) (by decide +kernel) rfl) <|
  jx_all1 (sd_cI (pc := 1) (idx := 116) (by decide +kernel) mf_128 (Or.inl wd_955)) <|
  jx_all1 (sd_ifne (pc := 4) (off := 9) (by decide +kernel) (by decide +kernel)) <|
  jx_all1 (sd_aload_n (pc := 7) (q := 0) (by decide +kernel) rfl) <|
  jx_all1 (sd_iconst (pc := 8) (n := (-1)) (by decide +kernel) (by decide +kernel)) <|
  jx_all1 (sd_vI (pc := 9) (idx := 87) (kd := 30) (by decide +kernel) mf_111 wd_888 rfl rfl) <|
  jx_all1 (sd_ireturn (pc := 12) (by decide +kernel) rfl) <|
  jx_all1 (sd_aload_n (pc := 13) (q := 0) (by decide +kernel) rfl) <|
  jx_all1 (sd_gR (pc := 14) kf_30 (f := 11) (q := (jx_f1 41 0)) (idx := 31) (by decide +kernel) rfl wd_821 rfl) <|
  jx_all1 (sd_iload_n (pc := 17) (q := 1) (by decide +kernel) rfl) <|
  jx_all1 (sd_iaload (pc := 18) (by decide +kernel)) <|
  jx_all1 (sd_ifne (pc := 19) (off := 10) (by decide +kernel) (by decide +kernel)) <|
  jx_all1 (sd_aload_n (pc := 22) (q := 0) (by decide +kernel) rfl) <|
  jx_all1 (sd_bipush (pc := 23) (n := (-2)) (by decide +kernel) (by decide +kernel)) <|
  jx_all1 (sd_vI (pc := 25) (idx := 87) (kd := 30) (by decide +kernel) mf_111 wd_888 rfl rfl) <|
  jx_all1 (sd_ireturn (pc := 28) (by decide +kernel) rfl) <|
  jx_all1 (sd_iload_n (pc := 29) (q := 2) (by decide +kernel) rfl) <|
  jx_all1 (sd_iflt (pc := 30) (off := 13) (by decide +kernel) (by decide +kernel)) <|
  jx_all1 (sd_iload_n (pc := 33) (q := 2) (by decide +kernel) rfl) <|
  jx_all1 (sd_aload_n (pc := 34) (q := 0) (by decide +kernel) rfl) <|
  jx_all1 (sd_gR (pc := 35) kf_30 (f := 12) (q := (jx_f1 42 0)) (idx := 34) (by decide +kernel) rfl wd_822 rfl) <|
  jx_all1 (sd_iload_n (pc := 38) (q := 1) (by decide +kernel) rfl) <|
  jx_all1 (sd_iaload (pc := 39) (by decide +kernel)) <|
  jx_all1 (sd_iclt (pc := 40) (off := 9) (by decide +kernel) (by decide +kernel)) <|
  jx_all1 (sd_aload_n (pc := 43) (q := 0) (by decide +kernel) rfl) <|
  jx_all1 (sd_iconst (pc := 44) (n := (-1)) (by decide +kernel) (by decide +kernel)) <|
  jx_all1 (sd_vI (pc := 45) (idx := 87) (kd := 30) (by decide +kernel) mf_111 wd_888 rfl rfl) <|
  jx_all1 (sd_ireturn (pc := 48) (by decide +kernel) rfl) <|
  jx_all1 (sd_aload_n (pc := 49) (q := 0) (by decide +kernel) rfl) <|
  jx_all1 (sd_gR (pc := 50) kf_30 (f := 13) (q := (jx_f1 43 0)) (idx := 37) (by decide +kernel) rfl wd_823 rfl) <|
  jx_all1 (sd_bipush (pc := 53) (n := 24) (by decide +kernel) (by decide +kernel)) <|
  jx_all1 (sd_iload_n (pc := 55) (q := 1) (by decide +kernel) rfl) <|
  jx_all1 (sd_imul (pc := 56) (by decide +kernel)) <|
  jx_all1 (sd_iload_n (pc := 57) (q := 2) (by decide +kernel) rfl) <|
  jx_all1 (sd_iadd (pc := 58) (by decide +kernel)) <|
  jx_all1 (sd_aload_n (pc := 59) (q := 0) (by decide +kernel) rfl) <|
  jx_all1 (sd_gR (pc := 60) kf_30 (f := 11) (q := (jx_f1 41 0)) (idx := 31) (by decide +kernel) rfl wd_821 rfl) <|
  jx_all1 (sd_iload_n (pc := 63) (q := 1) (by decide +kernel) rfl) <|
  jx_all1 (sd_iaload (pc := 64) (by decide +kernel)) <|
  jx_all1 (sd_bipush (pc := 65) (n := 8) (by decide +kernel) (by decide +kernel)) <|
  jx_all1 (sd_icne (pc := 67) (off := 8) (by decide +kernel) (by decide +kernel)) <|
  jx_all1 (sd_iload_n (pc := 70) (q := 3) (by decide +kernel) rfl) <|
  jx_all1 (sd_i2b (pc := 71) (by decide +kernel)) <|
  jx_all1 (sd_goto (pc := 72) (off := 20) (by decide +kernel) (by decide +kernel)) <|
  jx_all1 (sd_aload_n (pc := 75) (q := 0) (by decide +kernel) rfl) <|
  jx_all1 (sd_gR (pc := 76) kf_30 (f := 11) (q := (jx_f1 41 0)) (idx := 31) (by decide +kernel) rfl wd_821 rfl) <|
  jx_all1 (sd_iload_n (pc := 79) (q := 1) (by decide +kernel) rfl) <|
  jx_all1 (sd_iaload (pc := 80) (by decide +kernel)) <|
  jx_all1 (sd_bipush (pc := 81) (n := 16) (by decide +kernel) (by decide +kernel)) <|
  jx_all1 (sd_icne (pc := 83) (off := 8) (by decide +kernel) (by decide +kernel)) <|
  jx_all1 (sd_iload_n (pc := 86) (q := 3) (by decide +kernel) rfl) <|
  jx_all1 (sd_i2s (pc := 87) (by decide +kernel)) <|
  jx_all1 (sd_goto (pc := 88) (off := 4) (by decide +kernel) (by decide +kernel)) <|
  jx_all1 (sd_iload_n (pc := 91) (q := 3) (by decide +kernel) rfl) <|
  jx_all1 (sd_iastore (pc := 92) (by decide +kernel)) <|
  jx_all1 (sd_iconst (pc := 93) (n := 0) (by decide +kernel) (by decide +kernel)) <|
  jx_all1 (sd_ireturn (pc := 94) (by decide +kernel) rfl) <|
  jx_all0
set_option maxRecDepth 100000 in
theorem sn_130 (D : jx_D) : jx_all (fun q => jx_Snd cX10_copy 7 RX10 (some .int) D q.1 q.2) (tb_130 D) := by
  unfold tb_130
  exact jx_all1 (sd_iload_n (pc := 0) (q := 1) (by decide +kernel) rfl) <|
  jx_all1 (sd_cI (pc := 1) (idx := 116) (by decide +kernel) mf_128 (Or.inl wd_955)) <|
  jx_all1 (sd_ifeq (pc := 4) (off := 10) (by decide +kernel) (by decide +kernel)) <|
  jx_all1 (sd_iload_n (pc := 7) (q := 3) (by decide +kernel) rfl) <|
  jx_all1 (sd_cI (pc := 8) (idx := 116) (by decide +kernel) mf_128 (Or.inl wd_955)) <|
  jx_all1 (sd_ifne (pc := 11) (off := 9) (by decide +kernel) (by decide +kernel)) <|
  jx_all1 (sd_aload_n (pc := 14) (q := 0) (by decide +kernel) rfl) <|
  jx_all1 (sd_iconst (pc := 15) (n := (-1)) (by decide +kernel) (by decide +kernel)) <|
  jx_all1 (sd_vI (pc := 16) (idx := 87) (kd := 30) (by decide +kernel) mf_111 wd_888 rfl rfl) <|
  jx_all1 (sd_ireturn (pc := 19) (by decide +kernel) rfl) <|
  jx_all1 (sd_aload_n (pc := 20) (q := 0) (by decide +kernel) rfl) <|
  jx_all1 (sd_gR (pc := 21) kf_30 (f := 11) (q := (jx_f1 41 0)) (idx := 31) (by decide +kernel) rfl wd_821 rfl) <|
  jx_all1 (sd_iload_n (pc := 24) (q := 1) (by decide +kernel) rfl) <|
  jx_all1 (sd_iaload (pc := 25) (by decide +kernel)) <|
  jx_all1 (sd_ifeq (pc := 26) (off := 12) (by decide +kernel) (by decide +kernel)) <|
  jx_all1 (sd_aload_n (pc := 29) (q := 0) (by decide +kernel) rfl) <|
  jx_all1 (sd_gR (pc := 30) kf_30 (f := 11) (q := (jx_f1 41 0)) (idx := 31) (by decide +kernel) rfl wd_821 rfl) <|
  jx_all1 (sd_iload_n (pc := 33) (q := 3) (by decide +kernel) rfl) <|
  jx_all1 (sd_iaload (pc := 34) (by decide +kernel)) <|
  jx_all1 (sd_ifne (pc := 35) (off := 10) (by decide +kernel) (by decide +kernel)) <|
  jx_all1 (sd_aload_n (pc := 38) (q := 0) (by decide +kernel) rfl) <|
  jx_all1 (sd_bipush (pc := 39) (n := (-2)) (by decide +kernel) (by decide +kernel)) <|
  jx_all1 (sd_vI (pc := 41) (idx := 87) (kd := 30) (by decide +kernel) mf_111 wd_888 rfl rfl) <|
  jx_all1 (sd_ireturn (pc := 44) (by decide +kernel) rfl) <|
  jx_all1 (sd_aload_n (pc := 45) (q := 0) (by decide +kernel) rfl) <|
  jx_all1 (sd_gR (pc := 46) kf_30 (f := 11) (q := (jx_f1 41 0)) (idx := 31) (by decide +kernel) rfl wd_821 rfl) <|
  jx_all1 (sd_iload_n (pc := 49) (q := 1) (by decide +kernel) rfl) <|
  jx_all1 (sd_iaload (pc := 50) (by decide +kernel)) <|
  jx_all1 (sd_aload_n (pc := 51) (q := 0) (by decide +kernel) rfl) <|
  jx_all1 (sd_gR (pc := 52) kf_30 (f := 11) (q := (jx_f1 41 0)) (idx := 31) (by decide +kernel) rfl wd_821 rfl) <|
  jx_all1 (sd_iload_n (pc := 55) (q := 3) (by decide +kernel) rfl) <|
  jx_all1 (sd_iaload (pc := 56) (by decide +kernel)) <|
  jx_all1 (sd_iceq (pc := 57) (off := 10) (by decide +kernel) (by decide +kernel)) <|
  jx_all1 (sd_aload_n (pc := 60) (q := 0) (by decide +kernel) rfl) <|
  jx_all1 (sd_bipush (pc := 61) (n := (-4)) (by decide +kernel) (by decide +kernel)) <|
  jx_all1 (sd_vI (pc := 63) (idx := 87) (kd := 30) (by decide +kernel) mf_111 wd_888 rfl rfl) <|
  jx_all1 (sd_ireturn (pc := 66) (by decide +kernel) rfl) <|
  jx_all1 (sd_aload_n (pc := 67) (q := 0) (by decide +kernel) rfl) <|
  jx_all1 (sd_iload_n (pc := 68) (q := 1) (by decide +kernel) rfl) <|
  jx_all1 (sd_iload_n (pc := 69) (q := 2) (by decide +kernel) rfl) <|
  jx_all1 (sd_iload (pc := 70) (by decide +kernel)) <|
  jx_all1 (sd_vI (pc := 72) (idx := 119) (kd := 30) (by decide +kernel) mf_131 wd_966 rfl rfl) <|
  jx_all1 (sd_ifeq (pc := 75) (off := 15) (by decide +kernel) (by decide +kernel)) <|
  jx_all1 (sd_aload_n (pc := 78) (q := 0) (by decide +kernel) rfl) <|
  jx_all1 (sd_iload_n (pc := 79) (q := 3) (by decide +kernel) rfl) <|
  jx_all1 (sd_iload (pc := 80) (by decide +kernel)) <|
  jx_all1 (sd_iload (pc := 82) (by decide +kernel)) <|
  jx_all1 (sd_vI (pc := 84) (idx := 119) (kd := 30) (by decide +kernel) mf_131 wd_966 rfl rfl) <|
  jx_all1 (sd_ifne (pc := 87) (off := 9) (by decide +kernel) (by decide +kernel)) <|
  jx_all1 (sd_aload_n (pc := 90) (q := 0) (by decide +kernel) rfl) <|
  jx_all1 (sd_iconst (pc := 91) (n := (-1)) (by decide +kernel) (by decide +kernel)) <|
  jx_all1 (sd_vI (pc := 92) (idx := 87) (kd := 30) (by decide +kernel) mf_111 wd_888 rfl rfl) <|
  jx_all1 (sd_ireturn (pc := 95) (by decide +kernel) rfl) <|
  jx_all1 (sd_iconst (pc := 96) (n := 0) (by decide +kernel) (by decide +kernel)) <|
  jx_all1 (sd_istore (pc := 97) (by decide +kernel)) <|
  jx_all1 (sd_iload (pc := 99) (by decide +kernel)) <|
  jx_all1 (sd_iload (pc := 101) (by decide +kernel)) <|
  jx_all1 (sd_icge (pc := 103) (off := 30) (by decide +kernel) (by decide +kernel)) <|
  jx_all1 (sd_aload_n (pc := 106) (q := 0) (by decide +kernel) rfl) <|
  jx_all1 (sd_gR (pc := 107) kf_30 (f := 17) (q := (jx_f1 47 0)) (idx := 43) (by decide +kernel) rfl wd_827 rfl) <|
  jx_all1 (sd_iload (pc := 110) (by decide +kernel)) <|
  jx_all1 (sd_aload_n (pc := 112) (q := 0) (by decide +kernel) rfl) <|
  jx_all1 (sd_gR (pc := 113) kf_30 (f := 13) (q := (jx_f1 43 0)) (idx := 37) (by decide +kernel) rfl wd_823 rfl) <|
  jx_all1 (sd_bipush (pc := 116) (n := 24) (by decide +kernel) (by decide +kernel)) <|
  jx_all1 (sd_iload_n (pc := 118) (q := 1) (by decide +kernel) rfl) <|
  jx_all1 (sd_imul (pc := 119) (by decide +kernel)) <|
  jx_all1 (sd_iload_n (pc := 120) (q := 2) (by decide +kernel) rfl) <|
  jx_all1 (sd_iadd (pc := 121) (by decide +kernel)) <|
  jx_all1 (sd_iload (pc := 122) (by decide +kernel)) <|
  jx_all1 (sd_iadd (pc := 124) (by decide +kernel)) <|
  jx_all1 (sd_iaload (pc := 125) (by decide +kernel)) <|
  jx_all1 (sd_iastore (pc := 126) (by decide +kernel)) <|
  jx_all1 (sd_iinc (pc := 127) (n := 1) (by decide +kernel) (by decide +kernel)) <|
  jx_all1 (sd_goto (pc := 130) (off := (-31)) (by decide +kernel) (by decide +kernel)) <|
  jx_all1 (sd_iconst (pc := 133) (n := 0) (by decide +kernel) (by decide +kernel)) <|
  jx_all1 (sd_istore (pc := 134) (by decide +kernel)) <|
  jx_all1 (sd_iload (pc := 136) (by decide +kernel)) <|
  jx_all1 (sd_iload (pc := 138) (by decide +kernel)) <|
  jx_all1 (sd_icge (pc := 140) (off := 31) (by decide +kernel) (by decide +kernel)) <|
  jx_all1 (sd_aload_n (pc := 143) (q := 0) (by decide +kernel) rfl) <|
  jx_all1 (sd_gR (pc := 144) kf_30 (f := 13) (q := (jx_f1 43 0)) (idx := 37) (by decide +kernel) rfl wd_823 rfl) <|
  jx_all1 (sd_bipush (pc := 147) (n := 24) (by decide +kernel) (by decide +kernel)) <|
  jx_all1 (sd_iload_n (pc := 149) (q := 3) (by decide +kernel) rfl) <|
  jx_all1 (sd_imul (pc := 150) (by decide +kernel)) <|
  jx_all1 (sd_iload (pc := 151) (by decide +kernel)) <|
  jx_all1 (sd_iadd (pc := 153) (by decide +kernel)) <|
  jx_all1 (sd_iload (pc := 154) (by decide +kernel)) <|
  jx_all1 (sd_iadd (pc := 156) (by decide +kernel)) <|
  jx_all1 (sd_aload_n (pc := 157) (q := 0) (by decide +kernel) rfl) <|
  jx_all1 (sd_gR (pc := 158) kf_30 (f := 17) (q := (jx_f1 47 0)) (idx := 43) (by decide +kernel) rfl wd_827 rfl) <|
  jx_all1 (sd_iload (pc := 161) (by decide +kernel)) <|
  jx_all1 (sd_iaload (pc := 163) (by decide +kernel)) <|
  jx_all1 (sd_iastore (pc := 164) (by decide +kernel)) <|
  jx_all1 (sd_iinc (pc := 165) (n := 1) (by decide +kernel) (by decide +kernel)) <|
  jx_all1 (sd_goto (pc := 168) (off := (-32)) (by decide +kernel) (by decide +kernel)) <|
  jx_all1 (sd_iload (pc := 171) (by decide +kernel)) <|
  jx_all1 (sd_ireturn (pc := 173) (by decide +kernel) rfl) <|
  jx_all0
set_option maxRecDepth 100000 in
theorem sn_131 (D : jx_D) : jx_all (fun q => jx_Snd cX10_hasPart 4 RX10 (some .boolean) D q.1 q.2) (tb_131 D) := by
  unfold tb_131
  exact jx_all1 (sd_iload_n (pc := 0) (q := 2) (by decide +kernel) rfl) <|
  jx_all1 (sd_iflt (pc := 1) (off := 33) (by decide +kernel) (by decide +kernel)) <|
  jx_all1 (sd_iload_n (pc := 4) (q := 3) (by decide +kernel) rfl) <|
  jx_all1 (sd_iflt (pc := 5) (off := 29) (by decide +kernel) (by decide +kernel)) <|
  jx_all1 (sd_iload_n (pc := 8) (q := 3) (by decide +kernel) rfl) <|
  jx_all1 (sd_aload_n (pc := 9) (q := 0) (by decide +kernel) rfl) <|
  jx_all1 (sd_gR (pc := 10) kf_30 (f := 12) (q := (jx_f1 42 0)) (idx := 34) (by decide +kernel) rfl wd_822 rfl) <|
  jx_all1 (sd_iload_n (pc := 13) (q := 1) (by decide +kernel) rfl) <|
  jx_all1 (sd_iaload (pc := 14) (by decide +kernel)) <|
  jx_all1 (sd_icgt (pc := 15) (off := 19) (by decide +kernel) (by decide +kernel)) <|
  jx_all1 (sd_iload_n (pc := 18) (q := 2) (by decide +kernel) rfl) <|
  jx_all1 (sd_aload_n (pc := 19) (q := 0) (by decide +kernel) rfl) <|
  jx_all1 (sd_gR (pc := 20) kf_30 (f := 12) (q := (jx_f1 42 0)) (idx := 34) (by decide +kernel) rfl wd_822 rfl) <|
  jx_all1 (sd_iload_n (pc := 23) (q := 1) (by decide +kernel) rfl) <|
  jx_all1 (sd_iaload (pc := 24) (by decide +kernel)) <|
  jx_all1 (sd_iload_n (pc := 25) (q := 3) (by decide +kernel) rfl) <|
  jx_all1 (sd_isub (pc := 26) (by decide +kernel)) <|
  jx_all1 (sd_icgt (pc := 27) (off := 7) (by decide +kernel) (by decide +kernel)) <|
  jx_all1 (sd_iconst (pc := 30) (n := 1) (by decide +kernel) (by decide +kernel)) <|
  jx_all1 (sd_goto (pc := 31) (off := 4) (by decide +kernel) (by decide +kernel)) <|
  jx_all1 (sd_iconst (pc := 34) (n := 0) (by decide +kernel) (by decide +kernel)) <|
  jx_all1 (sd_zreturn (pc := 35) (by decide +kernel) rfl) <|
  jx_all0
set_option maxRecDepth 100000 in
theorem sn_132 (D : jx_D) : jx_all (fun q => jx_Snd cX10_lay 4 RX10 (some .int) D q.1 q.2) (tb_132 D) := by
  unfold tb_132
  exact jx_all1 (sd_iload_n (pc := 0) (q := 1) (by decide +kernel) rfl) <|
  jx_all1 (sd_cI (pc := 1) (idx := 116) (by decide +kernel) mf_128 (Or.inl wd_955)) <|
  jx_all1 (sd_ifne (pc := 4) (off := 9) (by decide +kernel) (by decide +kernel)) <|
  jx_all1 (sd_aload_n (pc := 7) (q := 0) (by decide +kernel) rfl) <|
  jx_all1 (sd_iconst (pc := 8) (n := (-1)) (by decide +kernel) (by decide +kernel)) <|
  jx_all1 (sd_vI (pc := 9) (idx := 87) (kd := 30) (by decide +kernel) mf_111 wd_888 rfl rfl) <|
  jx_all1 (sd_ireturn (pc := 12) (by decide +kernel) rfl) <|
  jx_all1 (sd_aload_n (pc := 13) (q := 0) (by decide +kernel) rfl) <|
  jx_all1 (sd_gR (pc := 14) kf_30 (f := 11) (q := (jx_f1 41 0)) (idx := 31) (by decide +kernel) rfl wd_821 rfl) <|
  jx_all1 (sd_iload_n (pc := 17) (q := 1) (by decide +kernel) rfl) <|
  jx_all1 (sd_iaload (pc := 18) (by decide +kernel)) <|
  jx_all1 (sd_ifne (pc := 19) (off := 10) (by decide +kernel) (by decide +kernel)) <|
  jx_all1 (sd_aload_n (pc := 22) (q := 0) (by decide +kernel) rfl) <|
  jx_all1 (sd_bipush (pc := 23) (n := (-2)) (by decide +kernel) (by decide +kernel)) <|
  jx_all1 (sd_vI (pc := 25) (idx := 87) (kd := 30) (by decide +kernel) mf_111 wd_888 rfl rfl) <|
  jx_all1 (sd_ireturn (pc := 28) (by decide +kernel) rfl) <|
  jx_all1 (sd_aload_n (pc := 29) (q := 0) (by decide +kernel) rfl) <|
  jx_all1 (sd_gR (pc := 30) kf_30 (f := 12) (q := (jx_f1 42 0)) (idx := 34) (by decide +kernel) rfl wd_822 rfl) <|
  jx_all1 (sd_iload_n (pc := 33) (q := 1) (by decide +kernel) rfl) <|
  jx_all1 (sd_iaload (pc := 34) (by decide +kernel)) <|
  jx_all1 (sd_iconst (pc := 35) (n := 2) (by decide +kernel) (by decide +kernel)) <|
  jx_all1 (sd_idiv (pc := 36) (by decide +kernel)) <|
  jx_all1 (sd_istore_n (pc := 37) (q := 2) (by decide +kernel) rfl) <|
  jx_all1 (sd_iconst (pc := 38) (n := 0) (by decide +kernel) (by decide +kernel)) <|
  jx_all1 (sd_istore_n (pc := 39) (q := 3) (by decide +kernel) rfl) <|
  jx_all1 (sd_iload_n (pc := 40) (q := 3) (by decide +kernel) rfl) <|
  jx_all1 (sd_iconst (pc := 41) (n := 2) (by decide +kernel) (by decide +kernel)) <|
  jx_all1 (sd_iload_n (pc := 42) (q := 2) (by decide +kernel) rfl) <|
  jx_all1 (sd_imul (pc := 43) (by decide +kernel)) <|
  jx_all1 (sd_icge (pc := 44) (off := 33) (by decide +kernel) (by decide +kernel)) <|
  jx_all1 (sd_aload_n (pc := 47) (q := 0) (by decide +kernel) rfl) <|
  jx_all1 (sd_aload_n (pc := 48) (q := 0) (by decide +kernel) rfl) <|
  jx_all1 (sd_gR (pc := 49) kf_30 (f := 13) (q := (jx_f1 43 0)) (idx := 37) (by decide +kernel) rfl wd_823 rfl) <|
  jx_all1 (sd_bipush (pc := 52) (n := 24) (by decide +kernel) (by decide +kernel)) <|
  jx_all1 (sd_iload_n (pc := 54) (q := 1) (by decide +kernel) rfl) <|
  jx_all1 (sd_imul (pc := 55) (by decide +kernel)) <|
  jx_all1 (sd_iload_n (pc := 56) (q := 3) (by decide +kernel) rfl) <|
  jx_all1 (sd_iadd (pc := 57) (by decide +kernel)) <|
  jx_all1 (sd_iaload (pc := 58) (by decide +kernel)) <|
  jx_all1 (sd_vI (pc := 59) (idx := 97) (kd := 30) (by decide +kernel) mf_118 wd_916 rfl rfl) <|
  jx_all1 (sd_ifne (pc := 62) (off := 9) (by decide +kernel) (by decide +kernel)) <|
  jx_all1 (sd_aload_n (pc := 65) (q := 0) (by decide +kernel) rfl) <|
  jx_all1 (sd_iconst (pc := 66) (n := (-1)) (by decide +kernel) (by decide +kernel)) <|
  jx_all1 (sd_vI (pc := 67) (idx := 87) (kd := 30) (by decide +kernel) mf_111 wd_888 rfl rfl) <|
  jx_all1 (sd_ireturn (pc := 70) (by decide +kernel) rfl) <|
  jx_all1 (sd_iinc (pc := 71) (n := 1) (by decide +kernel) (by decide +kernel)) <|
  jx_all1 (sd_goto (pc := 74) (off := (-34)) (by decide +kernel) (by decide +kernel)) <|
  jx_all1 (sd_iconst (pc := 77) (n := 0) (by decide +kernel) (by decide +kernel)) <|
  jx_all1 (sd_istore_n (pc := 78) (q := 3) (by decide +kernel) rfl) <|
  jx_all1 (sd_iload_n (pc := 79) (q := 3) (by decide +kernel) rfl) <|
  jx_all1 (sd_iload_n (pc := 80) (q := 2) (by decide +kernel) rfl) <|
  jx_all1 (sd_icge (pc := 81) (off := 47) (by decide +kernel) (by decide +kernel)) <|
  jx_all1 (sd_aload_n (pc := 84) (q := 0) (by decide +kernel) rfl) <|
  jx_all1 (sd_gR (pc := 85) kf_30 (f := 13) (q := (jx_f1 43 0)) (idx := 37) (by decide +kernel) rfl wd_823 rfl) <|
  jx_all1 (sd_bipush (pc := 88) (n := 24) (by decide +kernel) (by decide +kernel)) <|
  jx_all1 (sd_iload_n (pc := 90) (q := 1) (by decide +kernel) rfl) <|
  jx_all1 (sd_imul (pc := 91) (by decide +kernel)) <|
  jx_all1 (sd_iconst (pc := 92) (n := 2) (by decide +kernel) (by decide +kernel)) <|
  jx_all1 (sd_iload_n (pc := 93) (q := 3) (by decide +kernel) rfl) <|
  jx_all1 (sd_imul (pc := 94) (by decide +kernel)) <|
  jx_all1 (sd_iadd (pc := 95) (by decide +kernel)) <|
  jx_all1 (sd_iaload (pc := 96) (by decide +kernel)) <|
  jx_all1 (sd_aload_n (pc := 97) (q := 0) (by decide +kernel) rfl) <|
  jx_all1 (sd_gR (pc := 98) kf_30 (f := 13) (q := (jx_f1 43 0)) (idx := 37) (by decide +kernel) rfl wd_823 rfl) <|
  jx_all1 (sd_bipush (pc := 101) (n := 24) (by decide +kernel) (by decide +kernel)) <|
  jx_all1 (sd_iload_n (pc := 103) (q := 1) (by decide +kernel) rfl) <|
  jx_all1 (sd_imul (pc := 104) (by decide +kernel)) <|
  jx_all1 (sd_iconst (pc := 105) (n := 2) (by decide +kernel) (by decide +kernel)) <|
  jx_all1 (sd_iload_n (pc := 106) (q := 3) (by decide +kernel) rfl) <|
  jx_all1 (sd_imul (pc := 107) (by decide +kernel)) <|
  jx_all1 (sd_iadd (pc := 108) (by decide +kernel)) <|
  jx_all1 (sd_iconst (pc := 109) (n := 1) (by decide +kernel) (by decide +kernel)) <|
  jx_all1 (sd_iadd (pc := 110) (by decide +kernel)) <|
  jx_all1 (sd_iaload (pc := 111) (by decide +kernel)) <|
  jx_all1 (sd_icne (pc := 112) (off := 10) (by decide +kernel) (by decide +kernel)) <|
  jx_all1 (sd_aload_n (pc := 115) (q := 0) (by decide +kernel) rfl) <|
  jx_all1 (sd_bipush (pc := 116) (n := (-3)) (by decide +kernel) (by decide +kernel)) <|
  jx_all1 (sd_vI (pc := 118) (idx := 87) (kd := 30) (by decide +kernel) mf_111 wd_888 rfl rfl) <|
  jx_all1 (sd_ireturn (pc := 121) (by decide +kernel) rfl) <|
  jx_all1 (sd_iinc (pc := 122) (n := 1) (by decide +kernel) (by decide +kernel)) <|
  jx_all1 (sd_goto (pc := 125) (off := (-46)) (by decide +kernel) (by decide +kernel)) <|
  jx_all1 (sd_aload_n (pc := 128) (q := 0) (by decide +kernel) rfl) <|
  jx_all1 (sd_gI (pc := 129) kf_30 (f := 1) (q := jx_f0) (idx := 73) (by decide +kernel) rfl wd_811 rfl) <|
  jx_all1 (sd_iload_n (pc := 132) (q := 2) (by decide +kernel) rfl) <|
  jx_all1 (sd_iadd (pc := 133) (by decide +kernel)) <|
  jx_all1 (sd_bipush (pc := 134) (n := 20) (by decide +kernel) (by decide +kernel)) <|
  jx_all1 (sd_icle (pc := 136) (off := 10) (by decide +kernel) (by decide +kernel)) <|
  jx_all1 (sd_aload_n (pc := 139) (q := 0) (by decide +kernel) rfl) <|
  jx_all1 (sd_bipush (pc := 140) (n := (-5)) (by decide +kernel) (by decide +kernel)) <|
  jx_all1 (sd_vI (pc := 142) (idx := 87) (kd := 30) (by decide +kernel) mf_111 wd_888 rfl rfl) <|
  jx_all1 (sd_ireturn (pc := 145) (by decide +kernel) rfl) <|
  jx_all1 (sd_aload_n (pc := 146) (q := 0) (by decide +kernel) rfl) <|
  jx_all1 (sd_vV (pc := 147) (idx := 94) (kd := 30) (by decide +kernel) mf_114 wd_900 rfl rfl) <|
  jx_all1 (sd_iconst (pc := 150) (n := 0) (by decide +kernel) (by decide +kernel)) <|
  jx_all1 (sd_istore_n (pc := 151) (q := 3) (by decide +kernel) rfl) <|
  jx_all1 (sd_iload_n (pc := 152) (q := 3) (by decide +kernel) rfl) <|
  jx_all1 (sd_iload_n (pc := 153) (q := 2) (by decide +kernel) rfl) <|
  jx_all1 (sd_icge (pc := 154) (off := 41) (by decide +kernel) (by decide +kernel)) <|
  jx_all1 (sd_aload_n (pc := 157) (q := 0) (by decide +kernel) rfl) <|
  jx_all1 (sd_aload_n (pc := 158) (q := 0) (by decide +kernel) rfl) <|
  jx_all1 (sd_gR (pc := 159) kf_30 (f := 13) (q := (jx_f1 43 0)) (idx := 37) (by decide +kernel) rfl wd_823 rfl) <|
  jx_all1 (sd_bipush (pc := 162) (n := 24) (by decide +kernel) (by decide +kernel)) <|
  jx_all1 (sd_iload_n (pc := 164) (q := 1) (by decide +kernel) rfl) <|
  jx_all1 (sd_imul (pc := 165) (by decide +kernel)) <|
  jx_all1 (sd_iconst (pc := 166) (n := 2) (by decide +kernel) (by decide +kernel)) <|
  jx_all1 (sd_iload_n (pc := 167) (q := 3) (by decide +kernel) rfl) <|
  jx_all1 (sd_imul (pc := 168) (by decide +kernel)) <|
  jx_all1 (sd_iadd (pc := 169) (by decide +kernel)) <|
  jx_all1 (sd_iaload (pc := 170) (by decide +kernel)) <|
  jx_all1 (sd_aload_n (pc := 171) (q := 0) (by decide +kernel) rfl) <|
  jx_all1 (sd_gR (pc := 172) kf_30 (f := 13) (q := (jx_f1 43 0)) (idx := 37) (by decide +kernel) rfl wd_823 rfl) <|
  jx_all1 (sd_bipush (pc := 175) (n := 24) (by decide +kernel) (by decide +kernel)) <|
  jx_all1 (sd_iload_n (pc := 177) (q := 1) (by decide +kernel) rfl) <|
  jx_all1 (sd_imul (pc := 178) (by decide +kernel)) <|
  jx_all1 (sd_iconst (pc := 179) (n := 2) (by decide +kernel) (by decide +kernel)) <|
  jx_all1 (sd_iload_n (pc := 180) (q := 3) (by decide +kernel) rfl) <|
  jx_all1 (sd_imul (pc := 181) (by decide +kernel)) <|
  jx_all1 (sd_iadd (pc := 182) (by decide +kernel)) <|
  jx_all1 (sd_iconst (pc := 183) (n := 1) (by decide +kernel) (by decide +kernel)) <|
  jx_all1 (sd_iadd (pc := 184) (by decide +kernel)) <|
  jx_all1 (sd_iaload (pc := 185) (by decide +kernel)) <|
  jx_all1 (sd_vV (pc := 186) (idx := 101) (kd := 30) (by decide +kernel) mf_119 wd_920 rfl rfl) <|
  jx_all1 (sd_iinc (pc := 189) (n := 1) (by decide +kernel) (by decide +kernel)) <|
  jx_all1 (sd_goto (pc := 192) (off := (-40)) (by decide +kernel) (by decide +kernel)) <|
  jx_all1 (sd_iload_n (pc := 195) (q := 2) (by decide +kernel) rfl) <|
  jx_all1 (sd_ireturn (pc := 196) (by decide +kernel) rfl) <|
  jx_all0
set_option maxRecDepth 100000 in
theorem sn_133 (D : jx_D) : jx_all (fun q => jx_Snd cX10_hold 3 RX10 (some .int) D q.1 q.2) (tb_133 D) := by
  unfold tb_133
  exact jx_all1 (sd_aload_n (pc := 0) (q := 0) (by decide +kernel) rfl) <|
  jx_all1 (sd_iload_n (pc := 1) (q := 1) (by decide +kernel) rfl) <|
  jx_all1 (sd_vI (pc := 2) (idx := 97) (kd := 30) (by decide +kernel) mf_118 wd_916 rfl rfl) <|
  jx_all1 (sd_ifeq (pc := 5) (off := 11) (by decide +kernel) (by decide +kernel)) <|
  jx_all1 (sd_aload_n (pc := 8) (q := 0) (by decide +kernel) rfl) <|
  jx_all1 (sd_iload_n (pc := 9) (q := 2) (by decide +kernel) rfl) <|
  jx_all1 (sd_vI (pc := 10) (idx := 97) (kd := 30) (by decide +kernel) mf_118 wd_916 rfl rfl) <|
  jx_all1 (sd_ifne (pc := 13) (off := 9) (by decide +kernel) (by decide +kernel)) <|
  jx_all1 (sd_aload_n (pc := 16) (q := 0) (by decide +kernel) rfl) <|
  jx_all1 (sd_iconst (pc := 17) (n := (-1)) (by decide +kernel) (by decide +kernel)) <|
  jx_all1 (sd_vI (pc := 18) (idx := 87) (kd := 30) (by decide +kernel) mf_111 wd_888 rfl rfl) <|
  jx_all1 (sd_ireturn (pc := 21) (by decide +kernel) rfl) <|
  jx_all1 (sd_iload_n (pc := 22) (q := 1) (by decide +kernel) rfl) <|
  jx_all1 (sd_iload_n (pc := 23) (q := 2) (by decide +kernel) rfl) <|
  jx_all1 (sd_icne (pc := 24) (off := 12) (by decide +kernel) (by decide +kernel)) <|
  jx_all1 (sd_aload_n (pc := 27) (q := 0) (by decide +kernel) rfl) <|
  jx_all1 (sd_bipush (pc := 28) (n := (-3)) (by decide +kernel) (by decide +kernel)) <|
  jx_all1 (sd_vI (pc := 30) (idx := 87) (kd := 30) (by decide +kernel) mf_111 wd_888 rfl rfl) <|
  jx_all1 (sd_goto (pc := 33) (off := 9) (by decide +kernel) (by decide +kernel)) <|
  jx_all1 (sd_aload_n (pc := 36) (q := 0) (by decide +kernel) rfl) <|
  jx_all1 (sd_iload_n (pc := 37) (q := 1) (by decide +kernel) rfl) <|
  jx_all1 (sd_iload_n (pc := 38) (q := 2) (by decide +kernel) rfl) <|
  jx_all1 (sd_vI (pc := 39) (idx := 137) (kd := 30) (by decide +kernel) mf_134 wd_978 rfl rfl) <|
  jx_all1 (sd_ireturn (pc := 42) (by decide +kernel) rfl) <|
  jx_all0
set_option maxRecDepth 100000 in
theorem sn_134 (D : jx_D) : jx_all (fun q => jx_Snd cX10_holdOf 6 RX10 (some .int) D q.1 q.2) (tb_134 D) := by
  unfold tb_134
  exact jx_all1 (sd_bipush (pc := 0) (n := 21) (by decide +kernel) (by decide +kernel)) <|
  jx_all1 (sd_istore_n (pc := 2) (q := 3) (by decide +kernel) rfl) <|
  jx_all1 (sd_iconst (pc := 3) (n := 0) (by decide +kernel) (by decide +kernel)) <|
  jx_all1 (sd_istore (pc := 4) (by decide +kernel)) <|
  jx_all1 (sd_iload (pc := 6) (by decide +kernel)) <|
  jx_all1 (sd_aload_n (pc := 8) (q := 0) (by decide +kernel) rfl) <|
  jx_all1 (sd_vI (pc := 9) (idx := 127) (kd := 30) (by decide +kernel) mf_135 wd_982 rfl rfl) <|
  jx_all1 (sd_icgt (pc := 12) (off := 56) (by decide +kernel) (by decide +kernel)) <|
  jx_all1 (sd_iload (pc := 15) (by decide +kernel)) <|
  jx_all1 (sd_iload_n (pc := 17) (q := 1) (by decide +kernel) rfl) <|
  jx_all1 (sd_cI (pc := 18) (idx := 123) (by decide +kernel) mf_136 (Or.inl wd_986)) <|
  jx_all1 (sd_ifeq (pc := 21) (off := 41) (by decide +kernel) (by decide +kernel)) <|
  jx_all1 (sd_iload (pc := 24) (by decide +kernel)) <|
  jx_all1 (sd_iload_n (pc := 26) (q := 2) (by decide +kernel) rfl) <|
  jx_all1 (sd_cI (pc := 27) (idx := 123) (by decide +kernel) mf_136 (Or.inl wd_986)) <|
  jx_all1 (sd_ifne (pc := 30) (off := 32) (by decide +kernel) (by decide +kernel)) <|
  jx_all1 (sd_aload_n (pc := 33) (q := 0) (by decide +kernel) rfl) <|
  jx_all1 (sd_iload (pc := 34) (by decide +kernel)) <|
  jx_all1 (sd_aload_n (pc := 36) (q := 0) (by decide +kernel) rfl) <|
  jx_all1 (sd_gI (pc := 37) kf_30 (f := 1) (q := jx_f0) (idx := 73) (by decide +kernel) rfl wd_811 rfl) <|
  jx_all1 (sd_aload_n (pc := 40) (q := 0) (by decide +kernel) rfl) <|
  jx_all1 (sd_vI (pc := 41) (idx := 131) (kd := 30) (by decide +kernel) mf_137 wd_989 rfl rfl) <|
  jx_all1 (sd_vI (pc := 44) (idx := 134) (kd := 30) (by decide +kernel) mf_138 wd_993 rfl rfl) <|
  jx_all1 (sd_istore (pc := 47) (by decide +kernel)) <|
  jx_all1 (sd_iload (pc := 49) (by decide +kernel)) <|
  jx_all1 (sd_iload_n (pc := 51) (q := 3) (by decide +kernel) rfl) <|
  jx_all1 (sd_icge (pc := 52) (off := 8) (by decide +kernel) (by decide +kernel)) <|
  jx_all1 (sd_iload (pc := 55) (by decide +kernel)) <|
  jx_all1 (sd_goto (pc := 57) (off := 4) (by decide +kernel) (by decide +kernel)) <|
  jx_all1 (sd_iload_n (pc := 60) (q := 3) (by decide +kernel) rfl) <|
  jx_all1 (sd_istore_n (pc := 61) (q := 3) (by decide +kernel) rfl) <|
  jx_all1 (sd_iinc (pc := 62) (n := 1) (by decide +kernel) (by decide +kernel)) <|
  jx_all1 (sd_goto (pc := 65) (off := (-59)) (by decide +kernel) (by decide +kernel)) <|
  jx_all1 (sd_iload_n (pc := 68) (q := 3) (by decide +kernel) rfl) <|
  jx_all1 (sd_ireturn (pc := 69) (by decide +kernel) rfl) <|
  jx_all0
set_option maxRecDepth 100000 in
theorem sn_135 (D : jx_D) : jx_all (fun q => jx_Snd cX10_all 1 RX10 (some .int) D q.1 q.2) (tb_135 D) := by
  unfold tb_135
  exact jx_all1 (sd_iconst (pc := 0) (n := 1) (by decide +kernel) (by decide +kernel)) <|
  jx_all1 (sd_aload_n (pc := 1) (q := 0) (by decide +kernel) rfl) <|
  jx_all1 (sd_gI (pc := 2) kf_30 (f := 0) (q := jx_f0) (idx := 70) (by decide +kernel) rfl wd_810 rfl) <|
  jx_all1 (sd_ishl (pc := 5) (by decide +kernel)) <|
  jx_all1 (sd_iconst (pc := 6) (n := 1) (by decide +kernel) (by decide +kernel)) <|
  jx_all1 (sd_isub (pc := 7) (by decide +kernel)) <|
  jx_all1 (sd_ireturn (pc := 8) (by decide +kernel) rfl) <|
  jx_all0
set_option maxRecDepth 100000 in
theorem sn_136 (D : jx_D) : jx_all (fun q => jx_Snd cX10_in 2 RX10 (some .boolean) D q.1 q.2) (tb_136 D) := by
  unfold tb_136
  exact jx_all1 (sd_iload_n (pc := 0) (q := 0) (by decide +kernel) rfl) <|
  jx_all1 (sd_iload_n (pc := 1) (q := 1) (by decide +kernel) rfl) <|
  jx_all1 (sd_ishr (pc := 2) (by decide +kernel)) <|
  jx_all1 (sd_iconst (pc := 3) (n := 1) (by decide +kernel) (by decide +kernel)) <|
  jx_all1 (sd_iand (pc := 4) (by decide +kernel)) <|
  jx_all1 (sd_iconst (pc := 5) (n := 1) (by decide +kernel) (by decide +kernel)) <|
  jx_all1 (sd_icne (pc := 6) (off := 7) (by decide +kernel) (by decide +kernel)) <|
  jx_all1 (sd_iconst (pc := 9) (n := 1) (by decide +kernel) (by decide +kernel)) <|
  jx_all1 (sd_goto (pc := 10) (off := 4) (by decide +kernel) (by decide +kernel)) <|
  jx_all1 (sd_iconst (pc := 13) (n := 0) (by decide +kernel) (by decide +kernel)) <|
  jx_all1 (sd_zreturn (pc := 14) (by decide +kernel) rfl) <|
  jx_all0
set_option maxRecDepth 100000 in
theorem sn_137 (D : jx_D) : jx_all (fun q => jx_Snd cX10_allRoads 1 RX10 (some .int) D q.1 q.2) (tb_137 D) := by
  unfold tb_137
  exact jx_all1 (sd_iconst (pc := 0) (n := 1) (by decide +kernel) (by decide +kernel)) <|
  jx_all1 (sd_aload_n (pc := 1) (q := 0) (by decide +kernel) rfl) <|
  jx_all1 (sd_gI (pc := 2) kf_30 (f := 1) (q := jx_f0) (idx := 73) (by decide +kernel) rfl wd_811 rfl) <|
  jx_all1 (sd_ishl (pc := 5) (by decide +kernel)) <|
  jx_all1 (sd_iconst (pc := 6) (n := 1) (by decide +kernel) (by decide +kernel)) <|
  jx_all1 (sd_isub (pc := 7) (by decide +kernel)) <|
  jx_all1 (sd_ireturn (pc := 8) (by decide +kernel) rfl) <|
  jx_all0
set_option maxRecDepth 100000 in
theorem sn_138 (D : jx_D) : jx_all (fun q => jx_Snd cX10_cutOf 7 RX10 (some .int) D q.1 q.2) (tb_138 D) := by
  unfold tb_138
  exact jx_all1 (sd_iconst (pc := 0) (n := 0) (by decide +kernel) (by decide +kernel)) <|
  jx_all1 (sd_istore (pc := 1) (by decide +kernel)) <|
  jx_all1 (sd_iconst (pc := 3) (n := 0) (by decide +kernel) (by decide +kernel)) <|
  jx_all1 (sd_istore (pc := 4) (by decide +kernel)) <|
  jx_all1 (sd_iload (pc := 6) (by decide +kernel)) <|
  jx_all1 (sd_iload_n (pc := 8) (q := 2) (by decide +kernel) rfl) <|
  jx_all1 (sd_icge (pc := 9) (off := 93) (by decide +kernel) (by decide +kernel)) <|
  jx_all1 (sd_iload_n (pc := 12) (q := 1) (by decide +kernel) rfl) <|
  jx_all1 (sd_aload_n (pc := 13) (q := 0) (by decide +kernel) rfl) <|
  jx_all1 (sd_gR (pc := 14) kf_30 (f := 3) (q := (jx_f1 33 0)) (idx := 7) (by decide +kernel) rfl wd_813 rfl) <|
  jx_all1 (sd_iload (pc := 17) (by decide +kernel)) <|
  jx_all1 (sd_iaload (pc := 19) (by decide +kernel)) <|
  jx_all1 (sd_cI (pc := 20) (idx := 123) (by decide +kernel) mf_136 (Or.inl wd_986)) <|
  jx_all1 (sd_iload_n (pc := 23) (q := 1) (by decide +kernel) rfl) <|
  jx_all1 (sd_aload_n (pc := 24) (q := 0) (by decide +kernel) rfl) <|
  jx_all1 (sd_gR (pc := 25) kf_30 (f := 4) (q := (jx_f1 34 0)) (idx := 13) (by decide +kernel) rfl wd_814 rfl) <|
  jx_all1 (sd_iload (pc := 28) (by decide +kernel)) <|
  jx_all1 (sd_iaload (pc := 30) (by decide +kernel)) <|
  jx_all1 (sd_cI (pc := 31) (idx := 123) (by decide +kernel) mf_136 (Or.inl wd_986)) <|
  jx_all1 (sd_iceq (pc := 34) (off := 28) (by decide +kernel) (by decide +kernel)) <|
  jx_all1 (sd_aload_n (pc := 37) (q := 0) (by decide +kernel) rfl) <|
  jx_all1 (sd_gI (pc := 38) kf_30 (f := 2) (q := jx_f0) (idx := 76) (by decide +kernel) rfl wd_812 rfl) <|
  jx_all1 (sd_ifeq (pc := 41) (off := 17) (by decide +kernel) (by decide +kernel)) <|
  jx_all1 (sd_iload_n (pc := 44) (q := 1) (by decide +kernel) rfl) <|
  jx_all1 (sd_aload_n (pc := 45) (q := 0) (by decide +kernel) rfl) <|
  jx_all1 (sd_gR (pc := 46) kf_30 (f := 3) (q := (jx_f1 33 0)) (idx := 7) (by decide +kernel) rfl wd_813 rfl) <|
  jx_all1 (sd_iload (pc := 49) (by decide +kernel)) <|
  jx_all1 (sd_iaload (pc := 51) (by decide +kernel)) <|
  jx_all1 (sd_cI (pc := 52) (idx := 123) (by decide +kernel) mf_136 (Or.inl wd_986)) <|
  jx_all1 (sd_ifeq (pc := 55) (off := 7) (by decide +kernel) (by decide +kernel)) <|
  jx_all1 (sd_iconst (pc := 58) (n := 1) (by decide +kernel) (by decide +kernel)) <|
  jx_all1 (sd_goto (pc := 59) (off := 4) (by decide +kernel) (by decide +kernel)) <|
  jx_all1 (sd_iconst (pc := 62) (n := 0) (by decide +kernel) (by decide +kernel)) <|
  jx_all1 (sd_istore (pc := 63) (by decide +kernel)) <|
  jx_all1 (sd_iload (pc := 65) (by decide +kernel)) <|
  jx_all1 (sd_iload (pc := 67) (by decide +kernel)) <|
  jx_all1 (sd_ifeq (pc := 69) (off := 23) (by decide +kernel) (by decide +kernel)) <|
  jx_all1 (sd_iload (pc := 72) (by decide +kernel)) <|
  jx_all1 (sd_bipush (pc := 74) (n := 20) (by decide +kernel) (by decide +kernel)) <|
  jx_all1 (sd_icge (pc := 76) (off := 12) (by decide +kernel) (by decide +kernel)) <|
  jx_all1 (sd_iload_n (pc := 79) (q := 3) (by decide +kernel) rfl) <|
  jx_all1 (sd_iload (pc := 80) (by decide +kernel)) <|
  jx_all1 (sd_cI (pc := 82) (idx := 123) (by decide +kernel) mf_136 (Or.inl wd_986)) <|
  jx_all1 (sd_ifeq (pc := 85) (off := 7) (by decide +kernel) (by decide +kernel)) <|
  jx_all1 (sd_iconst (pc := 88) (n := 1) (by decide +kernel) (by decide +kernel)) <|
  jx_all1 (sd_goto (pc := 89) (off := 4) (by decide +kernel) (by decide +kernel)) <|
  jx_all1 (sd_iconst (pc := 92) (n := 0) (by decide +kernel) (by decide +kernel)) <|
  jx_all1 (sd_iadd (pc := 93) (by decide +kernel)) <|
  jx_all1 (sd_istore (pc := 94) (by decide +kernel)) <|
  jx_all1 (sd_iinc (pc := 96) (n := 1) (by decide +kernel) (by decide +kernel)) <|
  jx_all1 (sd_goto (pc := 99) (off := (-93)) (by decide +kernel) (by decide +kernel)) <|
  jx_all1 (sd_iload (pc := 102) (by decide +kernel)) <|
  jx_all1 (sd_ireturn (pc := 104) (by decide +kernel) rfl) <|
  jx_all0
set_option maxRecDepth 100000 in
theorem sn_139 (D : jx_D) : jx_all (fun q => jx_Snd cX10_cut 7 RX10 (some .int) D q.1 q.2) (tb_139 D) := by
  unfold tb_139
  exact jx_all1 (sd_aload_n (pc := 0) (q := 0) (by decide +kernel) rfl) <|
  jx_all1 (sd_iload_n (pc := 1) (q := 1) (by decide +kernel) rfl) <|
  jx_all1 (sd_vI (pc := 2) (idx := 97) (kd := 30) (by decide +kernel) mf_118 wd_916 rfl rfl) <|
  jx_all1 (sd_ifeq (pc := 5) (off := 11) (by decide +kernel) (by decide +kernel)) <|
  jx_all1 (sd_aload_n (pc := 8) (q := 0) (by decide +kernel) rfl) <|
  jx_all1 (sd_iload_n (pc := 9) (q := 2) (by decide +kernel) rfl) <|
  jx_all1 (sd_vI (pc := 10) (idx := 97) (kd := 30) (by decide +kernel) mf_118 wd_916 rfl rfl) <|
  jx_all1 (sd_ifne (pc := 13) (off := 9) (by decide +kernel) (by decide +kernel)) <|
  jx_all1 (sd_aload_n (pc := 16) (q := 0) (by decide +kernel) rfl) <|
  jx_all1 (sd_iconst (pc := 17) (n := (-1)) (by decide +kernel) (by decide +kernel)) <|
  jx_all1 (sd_vI (pc := 18) (idx := 87) (kd := 30) (by decide +kernel) mf_111 wd_888 rfl rfl) <|
  jx_all1 (sd_ireturn (pc := 21) (by decide +kernel) rfl) <|
  jx_all1 (sd_iload_n (pc := 22) (q := 1) (by decide +kernel) rfl) <|
  jx_all1 (sd_iload_n (pc := 23) (q := 2) (by decide +kernel) rfl) <|
  jx_all1 (sd_icne (pc := 24) (off := 10) (by decide +kernel) (by decide +kernel)) <|
  jx_all1 (sd_aload_n (pc := 27) (q := 0) (by decide +kernel) rfl) <|
  jx_all1 (sd_bipush (pc := 28) (n := (-3)) (by decide +kernel) (by decide +kernel)) <|
  jx_all1 (sd_vI (pc := 30) (idx := 87) (kd := 30) (by decide +kernel) mf_111 wd_888 rfl rfl) <|
  jx_all1 (sd_ireturn (pc := 33) (by decide +kernel) rfl) <|
  jx_all1 (sd_aload_n (pc := 34) (q := 0) (by decide +kernel) rfl) <|
  jx_all1 (sd_iload_n (pc := 35) (q := 1) (by decide +kernel) rfl) <|
  jx_all1 (sd_iload_n (pc := 36) (q := 2) (by decide +kernel) rfl) <|
  jx_all1 (sd_vI (pc := 37) (idx := 137) (kd := 30) (by decide +kernel) mf_134 wd_978 rfl rfl) <|
  jx_all1 (sd_istore_n (pc := 40) (q := 3) (by decide +kernel) rfl) <|
  jx_all1 (sd_aload_n (pc := 41) (q := 0) (by decide +kernel) rfl) <|
  jx_all1 (sd_vI (pc := 42) (idx := 127) (kd := 30) (by decide +kernel) mf_135 wd_982 rfl rfl) <|
  jx_all1 (sd_istore (pc := 45) (by decide +kernel)) <|
  jx_all1 (sd_iconst (pc := 47) (n := 0) (by decide +kernel) (by decide +kernel)) <|
  jx_all1 (sd_istore (pc := 48) (by decide +kernel)) <|
  jx_all1 (sd_iload (pc := 50) (by decide +kernel)) <|
  jx_all1 (sd_aload_n (pc := 52) (q := 0) (by decide +kernel) rfl) <|
  jx_all1 (sd_vI (pc := 53) (idx := 127) (kd := 30) (by decide +kernel) mf_135 wd_982 rfl rfl) <|
  jx_all1 (sd_icgt (pc := 56) (off := 79) (by decide +kernel) (by decide +kernel)) <|
  jx_all1 (sd_iload (pc := 59) (by decide +kernel)) <|
  jx_all1 (sd_iload_n (pc := 61) (q := 1) (by decide +kernel) rfl) <|
  jx_all1 (sd_cI (pc := 62) (idx := 123) (by decide +kernel) mf_136 (Or.inl wd_986)) <|
  jx_all1 (sd_ifeq (pc := 65) (off := 34) (by decide +kernel) (by decide +kernel)) <|
  jx_all1 (sd_iload (pc := 68) (by decide +kernel)) <|
  jx_all1 (sd_iload_n (pc := 70) (q := 2) (by decide +kernel) rfl) <|
  jx_all1 (sd_cI (pc := 71) (idx := 123) (by decide +kernel) mf_136 (Or.inl wd_986)) <|
  jx_all1 (sd_ifne (pc := 74) (off := 25) (by decide +kernel) (by decide +kernel)) <|
  jx_all1 (sd_aload_n (pc := 77) (q := 0) (by decide +kernel) rfl) <|
  jx_all1 (sd_iload (pc := 78) (by decide +kernel)) <|
  jx_all1 (sd_aload_n (pc := 80) (q := 0) (by decide +kernel) rfl) <|
  jx_all1 (sd_gI (pc := 81) kf_30 (f := 1) (q := jx_f0) (idx := 73) (by decide +kernel) rfl wd_811 rfl) <|
  jx_all1 (sd_aload_n (pc := 84) (q := 0) (by decide +kernel) rfl) <|
  jx_all1 (sd_vI (pc := 85) (idx := 131) (kd := 30) (by decide +kernel) mf_137 wd_989 rfl rfl) <|
  jx_all1 (sd_vI (pc := 88) (idx := 134) (kd := 30) (by decide +kernel) mf_138 wd_993 rfl rfl) <|
  jx_all1 (sd_iload_n (pc := 91) (q := 3) (by decide +kernel) rfl) <|
  jx_all1 (sd_icne (pc := 92) (off := 7) (by decide +kernel) (by decide +kernel)) <|
  jx_all1 (sd_iconst (pc := 95) (n := 1) (by decide +kernel) (by decide +kernel)) <|
  jx_all1 (sd_goto (pc := 96) (off := 4) (by decide +kernel) (by decide +kernel)) <|
  jx_all1 (sd_iconst (pc := 99) (n := 0) (by decide +kernel) (by decide +kernel)) <|
  jx_all1 (sd_istore (pc := 100) (by decide +kernel)) <|
  jx_all1 (sd_iload (pc := 102) (by decide +kernel)) <|
  jx_all1 (sd_ifeq (pc := 104) (off := 21) (by decide +kernel) (by decide +kernel)) <|
  jx_all1 (sd_iload (pc := 107) (by decide +kernel)) <|
  jx_all1 (sd_cI (pc := 109) (idx := 141) (by decide +kernel) mf_140 (Or.inl wd_1001)) <|
  jx_all1 (sd_iload (pc := 112) (by decide +kernel)) <|
  jx_all1 (sd_cI (pc := 114) (idx := 141) (by decide +kernel) mf_140 (Or.inl wd_1001)) <|
  jx_all1 (sd_icge (pc := 117) (off := 8) (by decide +kernel) (by decide +kernel)) <|
  jx_all1 (sd_iload (pc := 120) (by decide +kernel)) <|
  jx_all1 (sd_goto (pc := 122) (off := 5) (by decide +kernel) (by decide +kernel)) <|
  jx_all1 (sd_iload (pc := 125) (by decide +kernel)) <|
  jx_all1 (sd_istore (pc := 127) (by decide +kernel)) <|
  jx_all1 (sd_iinc (pc := 129) (n := 1) (by decide +kernel) (by decide +kernel)) <|
  jx_all1 (sd_goto (pc := 132) (off := (-82)) (by decide +kernel) (by decide +kernel)) <|
  jx_all1 (sd_iload (pc := 135) (by decide +kernel)) <|
  jx_all1 (sd_ireturn (pc := 137) (by decide +kernel) rfl) <|
  jx_all0
set_option maxRecDepth 100000 in
theorem sn_140 (D : jx_D) : jx_all (fun q => jx_Snd cX10_countOf 3 RX10 (some .int) D q.1 q.2) (tb_140 D) := by
  unfold tb_140
  exact jx_all1 (sd_iconst (pc := 0) (n := 0) (by decide +kernel) (by decide +kernel)) <|
  jx_all1 (sd_istore_n (pc := 1) (q := 1) (by decide +kernel) rfl) <|
  jx_all1 (sd_iconst (pc := 2) (n := 0) (by decide +kernel) (by decide +kernel)) <|
  jx_all1 (sd_istore_n (pc := 3) (q := 2) (by decide +kernel) rfl) <|
  jx_all1 (sd_iload_n (pc := 4) (q := 2) (by decide +kernel) rfl) <|
  jx_all1 (sd_bipush (pc := 5) (n := 31) (by decide +kernel) (by decide +kernel)) <|
  jx_all1 (sd_icge (pc := 7) (off := 17) (by decide +kernel) (by decide +kernel)) <|
  jx_all1 (sd_iload_n (pc := 10) (q := 1) (by decide +kernel) rfl) <|
  jx_all1 (sd_iload_n (pc := 11) (q := 0) (by decide +kernel) rfl) <|
  jx_all1 (sd_iload_n (pc := 12) (q := 2) (by decide +kernel) rfl) <|
  jx_all1 (sd_ishr (pc := 13) (by decide +kernel)) <|
  jx_all1 (sd_iconst (pc := 14) (n := 1) (by decide +kernel) (by decide +kernel)) <|
  jx_all1 (sd_iand (pc := 15) (by decide +kernel)) <|
  jx_all1 (sd_iadd (pc := 16) (by decide +kernel)) <|
  jx_all1 (sd_istore_n (pc := 17) (q := 1) (by decide +kernel) rfl) <|
  jx_all1 (sd_iinc (pc := 18) (n := 1) (by decide +kernel) (by decide +kernel)) <|
  jx_all1 (sd_goto (pc := 21) (off := (-17)) (by decide +kernel) (by decide +kernel)) <|
  jx_all1 (sd_iload_n (pc := 24) (q := 1) (by decide +kernel) rfl) <|
  jx_all1 (sd_ireturn (pc := 25) (by decide +kernel) rfl) <|
  jx_all0
set_option maxRecDepth 100000 in
theorem sn_141 (D : jx_D) : jx_all (fun q => jx_Snd cX10_netHold 1 RX10 (some .int) D q.1 q.2) (tb_141 D) := by
  unfold tb_141
  exact jx_all1 (sd_aload_n (pc := 0) (q := 0) (by decide +kernel) rfl) <|
  jx_all1 (sd_aload_n (pc := 1) (q := 0) (by decide +kernel) rfl) <|
  jx_all1 (sd_gI (pc := 2) kf_30 (f := 1) (q := jx_f0) (idx := 73) (by decide +kernel) rfl wd_811 rfl) <|
  jx_all1 (sd_aload_n (pc := 5) (q := 0) (by decide +kernel) rfl) <|
  jx_all1 (sd_vI (pc := 6) (idx := 131) (kd := 30) (by decide +kernel) mf_137 wd_989 rfl rfl) <|
  jx_all1 (sd_vI (pc := 9) (idx := 144) (kd := 30) (by decide +kernel) mf_142 wd_1008 rfl rfl) <|
  jx_all1 (sd_ireturn (pc := 12) (by decide +kernel) rfl) <|
  jx_all0
set_option maxRecDepth 100000 in
theorem sn_142 (D : jx_D) : jx_all (fun q => jx_Snd cX10_netHoldOf 6 RX10 (some .int) D q.1 q.2) (tb_142 D) := by
  unfold tb_142
  exact jx_all1 (sd_aload_n (pc := 0) (q := 0) (by decide +kernel) rfl) <|
  jx_all1 (sd_gI (pc := 1) kf_30 (f := 0) (q := jx_f0) (idx := 70) (by decide +kernel) rfl wd_810 rfl) <|
  jx_all1 (sd_iconst (pc := 4) (n := 2) (by decide +kernel) (by decide +kernel)) <|
  jx_all1 (sd_icge (pc := 5) (off := 7) (by decide +kernel) (by decide +kernel)) <|
  jx_all1 (sd_iconst (pc := 8) (n := 0) (by decide +kernel) (by decide +kernel)) <|
  jx_all1 (sd_goto (pc := 9) (off := 6) (by decide +kernel) (by decide +kernel)) <|
  jx_all1 (sd_sipush (pc := 12) (n := 1000) (by decide +kernel) (by decide +kernel)) <|
  jx_all1 (sd_istore_n (pc := 15) (q := 3) (by decide +kernel) rfl) <|
  jx_all1 (sd_iconst (pc := 16) (n := 1) (by decide +kernel) (by decide +kernel)) <|
  jx_all1 (sd_istore (pc := 17) (by decide +kernel)) <|
  jx_all1 (sd_iload (pc := 19) (by decide +kernel)) <|
  jx_all1 (sd_aload_n (pc := 21) (q := 0) (by decide +kernel) rfl) <|
  jx_all1 (sd_vI (pc := 22) (idx := 127) (kd := 30) (by decide +kernel) mf_135 wd_982 rfl rfl) <|
  jx_all1 (sd_icge (pc := 25) (off := 32) (by decide +kernel) (by decide +kernel)) <|
  jx_all1 (sd_aload_n (pc := 28) (q := 0) (by decide +kernel) rfl) <|
  jx_all1 (sd_iload (pc := 29) (by decide +kernel)) <|
  jx_all1 (sd_iload_n (pc := 31) (q := 1) (by decide +kernel) rfl) <|
  jx_all1 (sd_iload_n (pc := 32) (q := 2) (by decide +kernel) rfl) <|
  jx_all1 (sd_vI (pc := 33) (idx := 134) (kd := 30) (by decide +kernel) mf_138 wd_993 rfl rfl) <|
  jx_all1 (sd_istore (pc := 36) (by decide +kernel)) <|
  jx_all1 (sd_iload (pc := 38) (by decide +kernel)) <|
  jx_all1 (sd_iload_n (pc := 40) (q := 3) (by decide +kernel) rfl) <|
  jx_all1 (sd_icge (pc := 41) (off := 8) (by decide +kernel) (by decide +kernel)) <|
  jx_all1 (sd_iload (pc := 44) (by decide +kernel)) <|
  jx_all1 (sd_goto (pc := 46) (off := 4) (by decide +kernel) (by decide +kernel)) <|
  jx_all1 (sd_iload_n (pc := 49) (q := 3) (by decide +kernel) rfl) <|
  jx_all1 (sd_istore_n (pc := 50) (q := 3) (by decide +kernel) rfl) <|
  jx_all1 (sd_iinc (pc := 51) (n := 1) (by decide +kernel) (by decide +kernel)) <|
  jx_all1 (sd_goto (pc := 54) (off := (-35)) (by decide +kernel) (by decide +kernel)) <|
  jx_all1 (sd_iload_n (pc := 57) (q := 3) (by decide +kernel) rfl) <|
  jx_all1 (sd_ireturn (pc := 58) (by decide +kernel) rfl) <|
  jx_all0
set_option maxRecDepth 100000 in
theorem sn_143 (D : jx_D) : jx_all (fun q => jx_Snd cX10_least 5 RX10 (some .int) D q.1 q.2) (tb_143 D) := by
  unfold tb_143
  exact jx_all1 (sd_aload_n (pc := 0) (q := 0) (by decide +kernel) rfl) <|
  jx_all1 (sd_vI (pc := 1) (idx := 147) (kd := 30) (by decide +kernel) mf_141 wd_1016 rfl rfl) <|
  jx_all1 (sd_istore_n (pc := 4) (q := 2) (by decide +kernel) rfl) <|
  jx_all1 (sd_iconst (pc := 5) (n := 0) (by decide +kernel) (by decide +kernel)) <|
  jx_all1 (sd_istore_n (pc := 6) (q := 3) (by decide +kernel) rfl) <|
  jx_all1 (sd_iconst (pc := 7) (n := 1) (by decide +kernel) (by decide +kernel)) <|
  jx_all1 (sd_istore (pc := 8) (by decide +kernel)) <|
  jx_all1 (sd_iload (pc := 10) (by decide +kernel)) <|
  jx_all1 (sd_aload_n (pc := 12) (q := 0) (by decide +kernel) rfl) <|
  jx_all1 (sd_vI (pc := 13) (idx := 127) (kd := 30) (by decide +kernel) mf_135 wd_982 rfl rfl) <|
  jx_all1 (sd_icge (pc := 16) (off := 54) (by decide +kernel) (by decide +kernel)) <|
  jx_all1 (sd_aload_n (pc := 19) (q := 0) (by decide +kernel) rfl) <|
  jx_all1 (sd_gI (pc := 20) kf_30 (f := 2) (q := jx_f0) (idx := 76) (by decide +kernel) rfl wd_812 rfl) <|
  jx_all1 (sd_ifne (pc := 23) (off := 12) (by decide +kernel) (by decide +kernel)) <|
  jx_all1 (sd_iload (pc := 26) (by decide +kernel)) <|
  jx_all1 (sd_iconst (pc := 28) (n := 0) (by decide +kernel) (by decide +kernel)) <|
  jx_all1 (sd_cI (pc := 29) (idx := 123) (by decide +kernel) mf_136 (Or.inl wd_986)) <|
  jx_all1 (sd_ifne (pc := 32) (off := 32) (by decide +kernel) (by decide +kernel)) <|
  jx_all1 (sd_aload_n (pc := 35) (q := 0) (by decide +kernel) rfl) <|
  jx_all1 (sd_iload (pc := 36) (by decide +kernel)) <|
  jx_all1 (sd_aload_n (pc := 38) (q := 0) (by decide +kernel) rfl) <|
  jx_all1 (sd_gI (pc := 39) kf_30 (f := 1) (q := jx_f0) (idx := 73) (by decide +kernel) rfl wd_811 rfl) <|
  jx_all1 (sd_aload_n (pc := 42) (q := 0) (by decide +kernel) rfl) <|
  jx_all1 (sd_vI (pc := 43) (idx := 131) (kd := 30) (by decide +kernel) mf_137 wd_989 rfl rfl) <|
  jx_all1 (sd_vI (pc := 46) (idx := 134) (kd := 30) (by decide +kernel) mf_138 wd_993 rfl rfl) <|
  jx_all1 (sd_iload_n (pc := 49) (q := 2) (by decide +kernel) rfl) <|
  jx_all1 (sd_icne (pc := 50) (off := 14) (by decide +kernel) (by decide +kernel)) <|
  jx_all1 (sd_iload_n (pc := 53) (q := 3) (by decide +kernel) rfl) <|
  jx_all1 (sd_iload_n (pc := 54) (q := 1) (by decide +kernel) rfl) <|
  jx_all1 (sd_icne (pc := 55) (off := 6) (by decide +kernel) (by decide +kernel)) <|
  jx_all1 (sd_iload (pc := 58) (by decide +kernel)) <|
  jx_all1 (sd_ireturn (pc := 60) (by decide +kernel) rfl) <|
  jx_all1 (sd_iinc (pc := 61) (n := 1) (by decide +kernel) (by decide +kernel)) <|
  jx_all1 (sd_iinc (pc := 64) (n := 1) (by decide +kernel) (by decide +kernel)) <|
  jx_all1 (sd_goto (pc := 67) (off := (-57)) (by decide +kernel) (by decide +kernel)) <|
  jx_all1 (sd_iload_n (pc := 70) (q := 1) (by decide +kernel) rfl) <|
  jx_all1 (sd_iconst (pc := 71) (n := (-1)) (by decide +kernel) (by decide +kernel)) <|
  jx_all1 (sd_icne (pc := 72) (off := 7) (by decide +kernel) (by decide +kernel)) <|
  jx_all1 (sd_iload_n (pc := 75) (q := 3) (by decide +kernel) rfl) <|
  jx_all1 (sd_goto (pc := 76) (off := 9) (by decide +kernel) (by decide +kernel)) <|
  jx_all1 (sd_aload_n (pc := 79) (q := 0) (by decide +kernel) rfl) <|
  jx_all1 (sd_bipush (pc := 80) (n := (-6)) (by decide +kernel) (by decide +kernel)) <|
  jx_all1 (sd_vI (pc := 82) (idx := 87) (kd := 30) (by decide +kernel) mf_111 wd_888 rfl rfl) <|
  jx_all1 (sd_ireturn (pc := 85) (by decide +kernel) rfl) <|
  jx_all0
set_option maxRecDepth 100000 in
theorem sn_144 (D : jx_D) : jx_all (fun q => jx_Snd cX10_apart 8 RX10 (some .int) D q.1 q.2) (tb_144 D) := by
  unfold tb_144
  exact jx_all1 (sd_aload_n (pc := 0) (q := 0) (by decide +kernel) rfl) <|
  jx_all1 (sd_iload_n (pc := 1) (q := 1) (by decide +kernel) rfl) <|
  jx_all1 (sd_vI (pc := 2) (idx := 97) (kd := 30) (by decide +kernel) mf_118 wd_916 rfl rfl) <|
  jx_all1 (sd_ifeq (pc := 5) (off := 11) (by decide +kernel) (by decide +kernel)) <|
  jx_all1 (sd_aload_n (pc := 8) (q := 0) (by decide +kernel) rfl) <|
  jx_all1 (sd_iload_n (pc := 9) (q := 2) (by decide +kernel) rfl) <|
  jx_all1 (sd_vI (pc := 10) (idx := 97) (kd := 30) (by decide +kernel) mf_118 wd_916 rfl rfl) <|
  jx_all1 (sd_ifne (pc := 13) (off := 9) (by decide +kernel) (by decide +kernel)) <|
  jx_all1 (sd_aload_n (pc := 16) (q := 0) (by decide +kernel) rfl) <|
  jx_all1 (sd_iconst (pc := 17) (n := (-1)) (by decide +kernel) (by decide +kernel)) <|
  jx_all1 (sd_vI (pc := 18) (idx := 87) (kd := 30) (by decide +kernel) mf_111 wd_888 rfl rfl) <|
  jx_all1 (sd_ireturn (pc := 21) (by decide +kernel) rfl) <|
  jx_all1 (sd_iload_n (pc := 22) (q := 1) (by decide +kernel) rfl) <|
  jx_all1 (sd_iload_n (pc := 23) (q := 2) (by decide +kernel) rfl) <|
  jx_all1 (sd_icne (pc := 24) (off := 10) (by decide +kernel) (by decide +kernel)) <|
  jx_all1 (sd_aload_n (pc := 27) (q := 0) (by decide +kernel) rfl) <|
  jx_all1 (sd_bipush (pc := 28) (n := (-3)) (by decide +kernel) (by decide +kernel)) <|
  jx_all1 (sd_vI (pc := 30) (idx := 87) (kd := 30) (by decide +kernel) mf_111 wd_888 rfl rfl) <|
  jx_all1 (sd_ireturn (pc := 33) (by decide +kernel) rfl) <|
  jx_all1 (sd_iconst (pc := 34) (n := 0) (by decide +kernel) (by decide +kernel)) <|
  jx_all1 (sd_istore_n (pc := 35) (q := 3) (by decide +kernel) rfl) <|
  jx_all1 (sd_iconst (pc := 36) (n := 0) (by decide +kernel) (by decide +kernel)) <|
  jx_all1 (sd_istore (pc := 37) (by decide +kernel)) <|
  jx_all1 (sd_iconst (pc := 39) (n := 0) (by decide +kernel) (by decide +kernel)) <|
  jx_all1 (sd_istore (pc := 40) (by decide +kernel)) <|
  jx_all1 (sd_iload (pc := 42) (by decide +kernel)) <|
  jx_all1 (sd_aload_n (pc := 44) (q := 0) (by decide +kernel) rfl) <|
  jx_all1 (sd_gI (pc := 45) kf_30 (f := 1) (q := jx_f0) (idx := 73) (by decide +kernel) rfl wd_811 rfl) <|
  jx_all1 (sd_icge (pc := 48) (off := 98) (by decide +kernel) (by decide +kernel)) <|
  jx_all1 (sd_aload_n (pc := 51) (q := 0) (by decide +kernel) rfl) <|
  jx_all1 (sd_gR (pc := 52) kf_30 (f := 3) (q := (jx_f1 33 0)) (idx := 7) (by decide +kernel) rfl wd_813 rfl) <|
  jx_all1 (sd_iload (pc := 55) (by decide +kernel)) <|
  jx_all1 (sd_iaload (pc := 57) (by decide +kernel)) <|
  jx_all1 (sd_iload_n (pc := 58) (q := 1) (by decide +kernel) rfl) <|
  jx_all1 (sd_icne (pc := 59) (off := 14) (by decide +kernel) (by decide +kernel)) <|
  jx_all1 (sd_aload_n (pc := 62) (q := 0) (by decide +kernel) rfl) <|
  jx_all1 (sd_gR (pc := 63) kf_30 (f := 4) (q := (jx_f1 34 0)) (idx := 13) (by decide +kernel) rfl wd_814 rfl) <|
  jx_all1 (sd_iload (pc := 66) (by decide +kernel)) <|
  jx_all1 (sd_iaload (pc := 68) (by decide +kernel)) <|
  jx_all1 (sd_iload_n (pc := 69) (q := 2) (by decide +kernel) rfl) <|
  jx_all1 (sd_iceq (pc := 70) (off := 32) (by decide +kernel) (by decide +kernel)) <|
  jx_all1 (sd_aload_n (pc := 73) (q := 0) (by decide +kernel) rfl) <|
  jx_all1 (sd_gI (pc := 74) kf_30 (f := 2) (q := jx_f0) (idx := 76) (by decide +kernel) rfl wd_812 rfl) <|
  jx_all1 (sd_ifne (pc := 77) (off := 29) (by decide +kernel) (by decide +kernel)) <|
  jx_all1 (sd_aload_n (pc := 80) (q := 0) (by decide +kernel) rfl) <|
  jx_all1 (sd_gR (pc := 81) kf_30 (f := 3) (q := (jx_f1 33 0)) (idx := 7) (by decide +kernel) rfl wd_813 rfl) <|
  jx_all1 (sd_iload (pc := 84) (by decide +kernel)) <|
  jx_all1 (sd_iaload (pc := 86) (by decide +kernel)) <|
  jx_all1 (sd_iload_n (pc := 87) (q := 2) (by decide +kernel) rfl) <|
  jx_all1 (sd_icne (pc := 88) (off := 18) (by decide +kernel) (by decide +kernel)) <|
  jx_all1 (sd_aload_n (pc := 91) (q := 0) (by decide +kernel) rfl) <|
  jx_all1 (sd_gR (pc := 92) kf_30 (f := 4) (q := (jx_f1 34 0)) (idx := 13) (by decide +kernel) rfl wd_814 rfl) <|
  jx_all1 (sd_iload (pc := 95) (by decide +kernel)) <|
  jx_all1 (sd_iaload (pc := 97) (by decide +kernel)) <|
  jx_all1 (sd_iload_n (pc := 98) (q := 1) (by decide +kernel) rfl) <|
  jx_all1 (sd_icne (pc := 99) (off := 7) (by decide +kernel) (by decide +kernel)) <|
  jx_all1 (sd_iconst (pc := 102) (n := 1) (by decide +kernel) (by decide +kernel)) <|
  jx_all1 (sd_goto (pc := 103) (off := 4) (by decide +kernel) (by decide +kernel)) <|
  jx_all1 (sd_iconst (pc := 106) (n := 0) (by decide +kernel) (by decide +kernel)) <|
  jx_all1 (sd_istore (pc := 107) (by decide +kernel)) <|
  jx_all1 (sd_iload_n (pc := 109) (q := 3) (by decide +kernel) rfl) <|
  jx_all1 (sd_iload (pc := 110) (by decide +kernel)) <|
  jx_all1 (sd_ifeq (pc := 112) (off := 7) (by decide +kernel) (by decide +kernel)) <|
  jx_all1 (sd_iconst (pc := 115) (n := 1) (by decide +kernel) (by decide +kernel)) <|
  jx_all1 (sd_goto (pc := 116) (off := 4) (by decide +kernel) (by decide +kernel)) <|
  jx_all1 (sd_iconst (pc := 119) (n := 0) (by decide +kernel) (by decide +kernel)) <|
  jx_all1 (sd_iadd (pc := 120) (by decide +kernel)) <|
  jx_all1 (sd_istore_n (pc := 121) (q := 3) (by decide +kernel) rfl) <|
  jx_all1 (sd_iload (pc := 122) (by decide +kernel)) <|
  jx_all1 (sd_iload (pc := 124) (by decide +kernel)) <|
  jx_all1 (sd_ifeq (pc := 126) (off := 7) (by decide +kernel) (by decide +kernel)) <|
  jx_all1 (sd_iconst (pc := 129) (n := 0) (by decide +kernel) (by decide +kernel)) <|
  jx_all1 (sd_goto (pc := 130) (off := 7) (by decide +kernel) (by decide +kernel)) <|
  jx_all1 (sd_iconst (pc := 133) (n := 1) (by decide +kernel) (by decide +kernel)) <|
  jx_all1 (sd_iload (pc := 134) (by decide +kernel)) <|
  jx_all1 (sd_ishl (pc := 136) (by decide +kernel)) <|
  jx_all1 (sd_ior (pc := 137) (by decide +kernel)) <|
  jx_all1 (sd_istore (pc := 138) (by decide +kernel)) <|
  jx_all1 (sd_iinc (pc := 140) (n := 1) (by decide +kernel) (by decide +kernel)) <|
  jx_all1 (sd_goto (pc := 143) (off := (-101)) (by decide +kernel) (by decide +kernel)) <|
  jx_all1 (sd_bipush (pc := 146) (n := 8) (by decide +kernel) (by decide +kernel)) <|
  jx_all1 (sd_istore (pc := 148) (by decide +kernel)) <|
  jx_all1 (sd_iconst (pc := 150) (n := 0) (by decide +kernel) (by decide +kernel)) <|
  jx_all1 (sd_istore (pc := 151) (by decide +kernel)) <|
  jx_all1 (sd_iload (pc := 153) (by decide +kernel)) <|
  jx_all1 (sd_aload_n (pc := 155) (q := 0) (by decide +kernel) rfl) <|
  jx_all1 (sd_vI (pc := 156) (idx := 127) (kd := 30) (by decide +kernel) mf_135 wd_982 rfl rfl) <|
  jx_all1 (sd_icgt (pc := 159) (off := 77) (by decide +kernel) (by decide +kernel)) <|
  jx_all1 (sd_iload (pc := 162) (by decide +kernel)) <|
  jx_all1 (sd_iload_n (pc := 164) (q := 1) (by decide +kernel) rfl) <|
  jx_all1 (sd_cI (pc := 165) (idx := 123) (by decide +kernel) mf_136 (Or.inl wd_986)) <|
  jx_all1 (sd_ifne (pc := 168) (off := 32) (by decide +kernel) (by decide +kernel)) <|
  jx_all1 (sd_iload (pc := 171) (by decide +kernel)) <|
  jx_all1 (sd_iload_n (pc := 173) (q := 2) (by decide +kernel) rfl) <|
  jx_all1 (sd_cI (pc := 174) (idx := 123) (by decide +kernel) mf_136 (Or.inl wd_986)) <|
  jx_all1 (sd_ifne (pc := 177) (off := 23) (by decide +kernel) (by decide +kernel)) <|
  jx_all1 (sd_aload_n (pc := 180) (q := 0) (by decide +kernel) rfl) <|
  jx_all1 (sd_iload_n (pc := 181) (q := 1) (by decide +kernel) rfl) <|
  jx_all1 (sd_iload (pc := 182) (by decide +kernel)) <|
  jx_all1 (sd_iload (pc := 184) (by decide +kernel)) <|
  jx_all1 (sd_vI (pc := 186) (idx := 150) (kd := 30) (by decide +kernel) mf_145 wd_1021 rfl rfl) <|
  jx_all1 (sd_iload_n (pc := 189) (q := 2) (by decide +kernel) rfl) <|
  jx_all1 (sd_cI (pc := 190) (idx := 123) (by decide +kernel) mf_136 (Or.inl wd_986)) <|
  jx_all1 (sd_ifne (pc := 193) (off := 7) (by decide +kernel) (by decide +kernel)) <|
  jx_all1 (sd_iconst (pc := 196) (n := 1) (by decide +kernel) (by decide +kernel)) <|
  jx_all1 (sd_goto (pc := 197) (off := 4) (by decide +kernel) (by decide +kernel)) <|
  jx_all1 (sd_iconst (pc := 200) (n := 0) (by decide +kernel) (by decide +kernel)) <|
  jx_all1 (sd_istore (pc := 201) (by decide +kernel)) <|
  jx_all1 (sd_iload (pc := 203) (by decide +kernel)) <|
  jx_all1 (sd_ifeq (pc := 205) (off := 21) (by decide +kernel) (by decide +kernel)) <|
  jx_all1 (sd_iload (pc := 208) (by decide +kernel)) <|
  jx_all1 (sd_cI (pc := 210) (idx := 141) (by decide +kernel) mf_140 (Or.inl wd_1001)) <|
  jx_all1 (sd_iload (pc := 213) (by decide +kernel)) <|
  jx_all1 (sd_icge (pc := 215) (off := 11) (by decide +kernel) (by decide +kernel)) <|
  jx_all1 (sd_iload (pc := 218) (by decide +kernel)) <|
  jx_all1 (sd_cI (pc := 220) (idx := 141) (by decide +kernel) mf_140 (Or.inl wd_1001)) <|
  jx_all1 (sd_goto (pc := 223) (off := 5) (by decide +kernel) (by decide +kernel)) <|
  jx_all1 (sd_iload (pc := 226) (by decide +kernel)) <|
  jx_all1 (sd_istore (pc := 228) (by decide +kernel)) <|
  jx_all1 (sd_iinc (pc := 230) (n := 1) (by decide +kernel) (by decide +kernel)) <|
  jx_all1 (sd_goto (pc := 233) (off := (-80)) (by decide +kernel) (by decide +kernel)) <|
  jx_all1 (sd_iload_n (pc := 236) (q := 3) (by decide +kernel) rfl) <|
  jx_all1 (sd_iload (pc := 237) (by decide +kernel)) <|
  jx_all1 (sd_iadd (pc := 239) (by decide +kernel)) <|
  jx_all1 (sd_ireturn (pc := 240) (by decide +kernel) rfl) <|
  jx_all0
set_option maxRecDepth 100000 in
theorem sn_145 (D : jx_D) : jx_all (fun q => jx_Snd cX10_reach 7 RX10 (some .int) D q.1 q.2) (tb_145 D) := by
  unfold tb_145
  exact jx_all1 (sd_iload_n (pc := 0) (q := 2) (by decide +kernel) rfl) <|
  jx_all1 (sd_iload_n (pc := 1) (q := 1) (by decide +kernel) rfl) <|
  jx_all1 (sd_cI (pc := 2) (idx := 123) (by decide +kernel) mf_136 (Or.inl wd_986)) <|
  jx_all1 (sd_ifeq (pc := 5) (off := 7) (by decide +kernel) (by decide +kernel)) <|
  jx_all1 (sd_iconst (pc := 8) (n := 0) (by decide +kernel) (by decide +kernel)) <|
  jx_all1 (sd_goto (pc := 9) (off := 6) (by decide +kernel) (by decide +kernel)) <|
  jx_all1 (sd_iconst (pc := 12) (n := 1) (by decide +kernel) (by decide +kernel)) <|
  jx_all1 (sd_iload_n (pc := 13) (q := 1) (by decide +kernel) rfl) <|
  jx_all1 (sd_ishl (pc := 14) (by decide +kernel)) <|
  jx_all1 (sd_istore (pc := 15) (by decide +kernel)) <|
  jx_all1 (sd_iconst (pc := 17) (n := 0) (by decide +kernel) (by decide +kernel)) <|
  jx_all1 (sd_istore (pc := 18) (by decide +kernel)) <|
  jx_all1 (sd_iload (pc := 20) (by decide +kernel)) <|
  jx_all1 (sd_iload (pc := 22) (by decide +kernel)) <|
  jx_all1 (sd_iceq (pc := 24) (off := 138) (by decide +kernel) (by decide +kernel)) <|
  jx_all1 (sd_iload (pc := 27) (by decide +kernel)) <|
  jx_all1 (sd_istore (pc := 29) (by decide +kernel)) <|
  jx_all1 (sd_iconst (pc := 31) (n := 0) (by decide +kernel) (by decide +kernel)) <|
  jx_all1 (sd_istore (pc := 32) (by decide +kernel)) <|
  jx_all1 (sd_iload (pc := 34) (by decide +kernel)) <|
  jx_all1 (sd_aload_n (pc := 36) (q := 0) (by decide +kernel) rfl) <|
  jx_all1 (sd_gI (pc := 37) kf_30 (f := 1) (q := jx_f0) (idx := 73) (by decide +kernel) rfl wd_811 rfl) <|
  jx_all1 (sd_icge (pc := 40) (off := 119) (by decide +kernel) (by decide +kernel)) <|
  jx_all1 (sd_iload_n (pc := 43) (q := 3) (by decide +kernel) rfl) <|
  jx_all1 (sd_iload (pc := 44) (by decide +kernel)) <|
  jx_all1 (sd_cI (pc := 46) (idx := 123) (by decide +kernel) mf_136 (Or.inl wd_986)) <|
  jx_all1 (sd_ifeq (pc := 49) (off := 104) (by decide +kernel) (by decide +kernel)) <|
  jx_all1 (sd_iload_n (pc := 52) (q := 2) (by decide +kernel) rfl) <|
  jx_all1 (sd_aload_n (pc := 53) (q := 0) (by decide +kernel) rfl) <|
  jx_all1 (sd_gR (pc := 54) kf_30 (f := 3) (q := (jx_f1 33 0)) (idx := 7) (by decide +kernel) rfl wd_813 rfl) <|
  jx_all1 (sd_iload (pc := 57) (by decide +kernel)) <|
  jx_all1 (sd_iaload (pc := 59) (by decide +kernel)) <|
  jx_all1 (sd_cI (pc := 60) (idx := 123) (by decide +kernel) mf_136 (Or.inl wd_986)) <|
  jx_all1 (sd_ifne (pc := 63) (off := 90) (by decide +kernel) (by decide +kernel)) <|
  jx_all1 (sd_iload_n (pc := 66) (q := 2) (by decide +kernel) rfl) <|
  jx_all1 (sd_aload_n (pc := 67) (q := 0) (by decide +kernel) rfl) <|
  jx_all1 (sd_gR (pc := 68) kf_30 (f := 4) (q := (jx_f1 34 0)) (idx := 13) (by decide +kernel) rfl wd_814 rfl) <|
  jx_all1 (sd_iload (pc := 71) (by decide +kernel)) <|
  jx_all1 (sd_iaload (pc := 73) (by decide +kernel)) <|
  jx_all1 (sd_cI (pc := 74) (idx := 123) (by decide +kernel) mf_136 (Or.inl wd_986)) <|
  jx_all1 (sd_ifne (pc := 77) (off := 76) (by decide +kernel) (by decide +kernel)) <|
  jx_all1 (sd_iload (pc := 80) (by decide +kernel)) <|
  jx_all1 (sd_iload (pc := 82) (by decide +kernel)) <|
  jx_all1 (sd_aload_n (pc := 84) (q := 0) (by decide +kernel) rfl) <|
  jx_all1 (sd_gR (pc := 85) kf_30 (f := 3) (q := (jx_f1 33 0)) (idx := 7) (by decide +kernel) rfl wd_813 rfl) <|
  jx_all1 (sd_iload (pc := 88) (by decide +kernel)) <|
  jx_all1 (sd_iaload (pc := 90) (by decide +kernel)) <|
  jx_all1 (sd_cI (pc := 91) (idx := 123) (by decide +kernel) mf_136 (Or.inl wd_986)) <|
  jx_all1 (sd_ifeq (pc := 94) (off := 15) (by decide +kernel) (by decide +kernel)) <|
  jx_all1 (sd_iconst (pc := 97) (n := 1) (by decide +kernel) (by decide +kernel)) <|
  jx_all1 (sd_aload_n (pc := 98) (q := 0) (by decide +kernel) rfl) <|
  jx_all1 (sd_gR (pc := 99) kf_30 (f := 4) (q := (jx_f1 34 0)) (idx := 13) (by decide +kernel) rfl wd_814 rfl) <|
  jx_all1 (sd_iload (pc := 102) (by decide +kernel)) <|
  jx_all1 (sd_iaload (pc := 104) (by decide +kernel)) <|
  jx_all1 (sd_ishl (pc := 105) (by decide +kernel)) <|
  jx_all1 (sd_goto (pc := 106) (off := 4) (by decide +kernel) (by decide +kernel)) <|
  jx_all1 (sd_iconst (pc := 109) (n := 0) (by decide +kernel) (by decide +kernel)) <|
  jx_all1 (sd_ior (pc := 110) (by decide +kernel)) <|
  jx_all1 (sd_istore (pc := 111) (by decide +kernel)) <|
  jx_all1 (sd_iload (pc := 113) (by decide +kernel)) <|
  jx_all1 (sd_aload_n (pc := 115) (q := 0) (by decide +kernel) rfl) <|
  jx_all1 (sd_gI (pc := 116) kf_30 (f := 2) (q := jx_f0) (idx := 76) (by decide +kernel) rfl wd_812 rfl) <|
  jx_all1 (sd_ifne (pc := 119) (off := 30) (by decide +kernel) (by decide +kernel)) <|
  jx_all1 (sd_iload (pc := 122) (by decide +kernel)) <|
  jx_all1 (sd_aload_n (pc := 124) (q := 0) (by decide +kernel) rfl) <|
  jx_all1 (sd_gR (pc := 125) kf_30 (f := 4) (q := (jx_f1 34 0)) (idx := 13) (by decide +kernel) rfl wd_814 rfl) <|
  jx_all1 (sd_iload (pc := 128) (by decide +kernel)) <|
  jx_all1 (sd_iaload (pc := 130) (by decide +kernel)) <|
  jx_all1 (sd_cI (pc := 131) (idx := 123) (by decide +kernel) mf_136 (Or.inl wd_986)) <|
  jx_all1 (sd_ifeq (pc := 134) (off := 15) (by decide +kernel) (by decide +kernel)) <|
  jx_all1 (sd_iconst (pc := 137) (n := 1) (by decide +kernel) (by decide +kernel)) <|
  jx_all1 (sd_aload_n (pc := 138) (q := 0) (by decide +kernel) rfl) <|
  jx_all1 (sd_gR (pc := 139) kf_30 (f := 3) (q := (jx_f1 33 0)) (idx := 7) (by decide +kernel) rfl wd_813 rfl) <|
  jx_all1 (sd_iload (pc := 142) (by decide +kernel)) <|
  jx_all1 (sd_iaload (pc := 144) (by decide +kernel)) <|
  jx_all1 (sd_ishl (pc := 145) (by decide +kernel)) <|
  jx_all1 (sd_goto (pc := 146) (off := 4) (by decide +kernel) (by decide +kernel)) <|
  jx_all1 (sd_iconst (pc := 149) (n := 0) (by decide +kernel) (by decide +kernel)) <|
  jx_all1 (sd_ior (pc := 150) (by decide +kernel)) <|
  jx_all1 (sd_istore (pc := 151) (by decide +kernel)) <|
  jx_all1 (sd_iinc (pc := 153) (n := 1) (by decide +kernel) (by decide +kernel)) <|
  jx_all1 (sd_goto (pc := 156) (off := (-122)) (by decide +kernel) (by decide +kernel)) <|
  jx_all1 (sd_goto (pc := 159) (off := (-139)) (by decide +kernel) (by decide +kernel)) <|
  jx_all1 (sd_iload (pc := 162) (by decide +kernel)) <|
  jx_all1 (sd_ireturn (pc := 164) (by decide +kernel) rfl) <|
  jx_all0
set_option maxRecDepth 100000 in
theorem sn_146 (D : jx_D) : jx_all (fun q => jx_Snd cX10_heap 5 RX10 (some .int) D q.1 q.2) (tb_146 D) := by
  unfold tb_146
  exact jx_all1 (sd_aload_n (pc := 0) (q := 0) (by decide +kernel) rfl) <|
  jx_all1 (sd_iload_n (pc := 1) (q := 1) (by decide +kernel) rfl) <|
  jx_all1 (sd_vI (pc := 2) (idx := 97) (kd := 30) (by decide +kernel) mf_118 wd_916 rfl rfl) <|
  jx_all1 (sd_ifeq (pc := 5) (off := 8) (by decide +kernel) (by decide +kernel)) <|
  jx_all1 (sd_iload_n (pc := 8) (q := 2) (by decide +kernel) rfl) <|
  jx_all1 (sd_iconst (pc := 9) (n := 1) (by decide +kernel) (by decide +kernel)) <|
  jx_all1 (sd_icge (pc := 10) (off := 9) (by decide +kernel) (by decide +kernel)) <|
  jx_all1 (sd_aload_n (pc := 13) (q := 0) (by decide +kernel) rfl) <|
  jx_all1 (sd_iconst (pc := 14) (n := (-1)) (by decide +kernel) (by decide +kernel)) <|
  jx_all1 (sd_vI (pc := 15) (idx := 87) (kd := 30) (by decide +kernel) mf_111 wd_888 rfl rfl) <|
  jx_all1 (sd_ireturn (pc := 18) (by decide +kernel) rfl) <|
  jx_all1 (sd_aload_n (pc := 19) (q := 0) (by decide +kernel) rfl) <|
  jx_all1 (sd_gI (pc := 20) kf_30 (f := 2) (q := jx_f0) (idx := 76) (by decide +kernel) rfl wd_812 rfl) <|
  jx_all1 (sd_ifeq (pc := 23) (off := 10) (by decide +kernel) (by decide +kernel)) <|
  jx_all1 (sd_aload_n (pc := 26) (q := 0) (by decide +kernel) rfl) <|
  jx_all1 (sd_bipush (pc := 27) (n := (-8)) (by decide +kernel) (by decide +kernel)) <|
  jx_all1 (sd_vI (pc := 29) (idx := 87) (kd := 30) (by decide +kernel) mf_111 wd_888 rfl rfl) <|
  jx_all1 (sd_ireturn (pc := 32) (by decide +kernel) rfl) <|
  jx_all1 (sd_iload_n (pc := 33) (q := 1) (by decide +kernel) rfl) <|
  jx_all1 (sd_istore_n (pc := 34) (q := 3) (by decide +kernel) rfl) <|
  jx_all1 (sd_aload_n (pc := 35) (q := 0) (by decide +kernel) rfl) <|
  jx_all1 (sd_gI (pc := 36) kf_30 (f := 0) (q := jx_f0) (idx := 70) (by decide +kernel) rfl wd_810 rfl) <|
  jx_all1 (sd_iconst (pc := 39) (n := 1) (by decide +kernel) (by decide +kernel)) <|
  jx_all1 (sd_isub (pc := 40) (by decide +kernel)) <|
  jx_all1 (sd_istore (pc := 41) (by decide +kernel)) <|
  jx_all1 (sd_iload (pc := 43) (by decide +kernel)) <|
  jx_all1 (sd_iflt (pc := 45) (off := 43) (by decide +kernel) (by decide +kernel)) <|
  jx_all1 (sd_iload (pc := 48) (by decide +kernel)) <|
  jx_all1 (sd_iload_n (pc := 50) (q := 1) (by decide +kernel) rfl) <|
  jx_all1 (sd_iceq (pc := 51) (off := 14) (by decide +kernel) (by decide +kernel)) <|
  jx_all1 (sd_aload_n (pc := 54) (q := 0) (by decide +kernel) rfl) <|
  jx_all1 (sd_iload_n (pc := 55) (q := 1) (by decide +kernel) rfl) <|
  jx_all1 (sd_iload (pc := 56) (by decide +kernel)) <|
  jx_all1 (sd_vI (pc := 58) (idx := 137) (kd := 30) (by decide +kernel) mf_134 wd_978 rfl rfl) <|
  jx_all1 (sd_iload_n (pc := 61) (q := 2) (by decide +kernel) rfl) <|
  jx_all1 (sd_iclt (pc := 62) (off := 18) (by decide +kernel) (by decide +kernel)) <|
  jx_all1 (sd_iload (pc := 65) (by decide +kernel)) <|
  jx_all1 (sd_iload_n (pc := 67) (q := 3) (by decide +kernel) rfl) <|
  jx_all1 (sd_icge (pc := 68) (off := 8) (by decide +kernel) (by decide +kernel)) <|
  jx_all1 (sd_iload (pc := 71) (by decide +kernel)) <|
  jx_all1 (sd_goto (pc := 73) (off := 8) (by decide +kernel) (by decide +kernel)) <|
  jx_all1 (sd_iload_n (pc := 76) (q := 3) (by decide +kernel) rfl) <|
  jx_all1 (sd_goto (pc := 77) (off := 4) (by decide +kernel) (by decide +kernel)) <|
  jx_all1 (sd_iload_n (pc := 80) (q := 3) (by decide +kernel) rfl) <|
  jx_all1 (sd_istore_n (pc := 81) (q := 3) (by decide +kernel) rfl) <|
  jx_all1 (sd_iinc (pc := 82) (n := (-1)) (by decide +kernel) (by decide +kernel)) <|
  jx_all1 (sd_goto (pc := 85) (off := (-42)) (by decide +kernel) (by decide +kernel)) <|
  jx_all1 (sd_iload_n (pc := 88) (q := 3) (by decide +kernel) rfl) <|
  jx_all1 (sd_ireturn (pc := 89) (by decide +kernel) rfl) <|
  jx_all0
set_option maxRecDepth 100000 in
theorem sn_147 (D : jx_D) : jx_all (fun q => jx_Snd cX10_still 4 RX10 (some .int) D q.1 q.2) (tb_147 D) := by
  unfold tb_147
  exact jx_all1 (sd_iload_n (pc := 0) (q := 1) (by decide +kernel) rfl) <|
  jx_all1 (sd_ifeq (pc := 1) (off := 10) (by decide +kernel) (by decide +kernel)) <|
  jx_all1 (sd_aload_n (pc := 4) (q := 0) (by decide +kernel) rfl) <|
  jx_all1 (sd_vI (pc := 5) (idx := 127) (kd := 30) (by decide +kernel) mf_135 wd_982 rfl rfl) <|
  jx_all1 (sd_goto (pc := 8) (off := 7) (by decide +kernel) (by decide +kernel)) <|
  jx_all1 (sd_aload_n (pc := 11) (q := 0) (by decide +kernel) rfl) <|
  jx_all1 (sd_vI (pc := 12) (idx := 131) (kd := 30) (by decide +kernel) mf_137 wd_989 rfl rfl) <|
  jx_all1 (sd_istore_n (pc := 15) (q := 3) (by decide +kernel) rfl) <|
  jx_all1 (sd_iload_n (pc := 16) (q := 2) (by decide +kernel) rfl) <|
  jx_all1 (sd_iflt (pc := 17) (off := 8) (by decide +kernel) (by decide +kernel)) <|
  jx_all1 (sd_iload_n (pc := 20) (q := 2) (by decide +kernel) rfl) <|
  jx_all1 (sd_iload_n (pc := 21) (q := 3) (by decide +kernel) rfl) <|
  jx_all1 (sd_icle (pc := 22) (off := 9) (by decide +kernel) (by decide +kernel)) <|
  jx_all1 (sd_aload_n (pc := 25) (q := 0) (by decide +kernel) rfl) <|
  jx_all1 (sd_iconst (pc := 26) (n := (-1)) (by decide +kernel) (by decide +kernel)) <|
  jx_all1 (sd_vI (pc := 27) (idx := 87) (kd := 30) (by decide +kernel) mf_111 wd_888 rfl rfl) <|
  jx_all1 (sd_ireturn (pc := 30) (by decide +kernel) rfl) <|
  jx_all1 (sd_iload_n (pc := 31) (q := 1) (by decide +kernel) rfl) <|
  jx_all1 (sd_ifeq (pc := 32) (off := 20) (by decide +kernel) (by decide +kernel)) <|
  jx_all1 (sd_aload_n (pc := 35) (q := 0) (by decide +kernel) rfl) <|
  jx_all1 (sd_vI (pc := 36) (idx := 127) (kd := 30) (by decide +kernel) mf_135 wd_982 rfl rfl) <|
  jx_all1 (sd_iload_n (pc := 39) (q := 2) (by decide +kernel) rfl) <|
  jx_all1 (sd_iconst (pc := 40) (n := (-1)) (by decide +kernel) (by decide +kernel)) <|
  jx_all1 (sd_ixor (pc := 41) (by decide +kernel)) <|
  jx_all1 (sd_iand (pc := 42) (by decide +kernel)) <|
  jx_all1 (sd_cI (pc := 43) (idx := 141) (by decide +kernel) mf_140 (Or.inl wd_1001)) <|
  jx_all1 (sd_iconst (pc := 46) (n := 1) (by decide +kernel) (by decide +kernel)) <|
  jx_all1 (sd_icgt (pc := 47) (off := 5) (by decide +kernel) (by decide +kernel)) <|
  jx_all1 (sd_iconst (pc := 50) (n := 1) (by decide +kernel) (by decide +kernel)) <|
  jx_all1 (sd_ireturn (pc := 51) (by decide +kernel) rfl) <|
  jx_all1 (sd_iload_n (pc := 52) (q := 1) (by decide +kernel) rfl) <|
  jx_all1 (sd_ifeq (pc := 53) (off := 18) (by decide +kernel) (by decide +kernel)) <|
  jx_all1 (sd_aload_n (pc := 56) (q := 0) (by decide +kernel) rfl) <|
  jx_all1 (sd_iload_n (pc := 57) (q := 2) (by decide +kernel) rfl) <|
  jx_all1 (sd_aload_n (pc := 58) (q := 0) (by decide +kernel) rfl) <|
  jx_all1 (sd_vI (pc := 59) (idx := 131) (kd := 30) (by decide +kernel) mf_137 wd_989 rfl rfl) <|
  jx_all1 (sd_vI (pc := 62) (idx := 153) (kd := 30) (by decide +kernel) mf_148 wd_1033 rfl rfl) <|
  jx_all1 (sd_ifeq (pc := 65) (off := 26) (by decide +kernel) (by decide +kernel)) <|
  jx_all1 (sd_goto (pc := 68) (off := 19) (by decide +kernel) (by decide +kernel)) <|
  jx_all1 (sd_aload_n (pc := 71) (q := 0) (by decide +kernel) rfl) <|
  jx_all1 (sd_iconst (pc := 72) (n := 0) (by decide +kernel) (by decide +kernel)) <|
  jx_all1 (sd_aload_n (pc := 73) (q := 0) (by decide +kernel) rfl) <|
  jx_all1 (sd_vI (pc := 74) (idx := 131) (kd := 30) (by decide +kernel) mf_137 wd_989 rfl rfl) <|
  jx_all1 (sd_iload_n (pc := 77) (q := 2) (by decide +kernel) rfl) <|
  jx_all1 (sd_iconst (pc := 78) (n := (-1)) (by decide +kernel) (by decide +kernel)) <|
  jx_all1 (sd_ixor (pc := 79) (by decide +kernel)) <|
  jx_all1 (sd_iand (pc := 80) (by decide +kernel)) <|
  jx_all1 (sd_vI (pc := 81) (idx := 153) (kd := 30) (by decide +kernel) mf_148 wd_1033 rfl rfl) <|
  jx_all1 (sd_ifeq (pc := 84) (off := 7) (by decide +kernel) (by decide +kernel)) <|
  jx_all1 (sd_iconst (pc := 87) (n := 1) (by decide +kernel) (by decide +kernel)) <|
  jx_all1 (sd_goto (pc := 88) (off := 4) (by decide +kernel) (by decide +kernel)) <|
  jx_all1 (sd_iconst (pc := 91) (n := 0) (by decide +kernel) (by decide +kernel)) <|
  jx_all1 (sd_ireturn (pc := 92) (by decide +kernel) rfl) <|
  jx_all0
set_option maxRecDepth 100000 in
theorem sn_148 (D : jx_D) : jx_all (fun q => jx_Snd cX10_hangs 5 RX10 (some .boolean) D q.1 q.2) (tb_148 D) := by
  unfold tb_148
  exact jx_all1 (sd_aload_n (pc := 0) (q := 0) (by decide +kernel) rfl) <|
  jx_all1 (sd_gI (pc := 1) kf_30 (f := 0) (q := jx_f0) (idx := 70) (by decide +kernel) rfl wd_810 rfl) <|
  jx_all1 (sd_ifle (pc := 4) (off := 7) (by decide +kernel) (by decide +kernel)) <|
  jx_all1 (sd_iconst (pc := 7) (n := 1) (by decide +kernel) (by decide +kernel)) <|
  jx_all1 (sd_goto (pc := 8) (off := 4) (by decide +kernel) (by decide +kernel)) <|
  jx_all1 (sd_iconst (pc := 11) (n := 0) (by decide +kernel) (by decide +kernel)) <|
  jx_all1 (sd_istore_n (pc := 12) (q := 3) (by decide +kernel) rfl) <|
  jx_all1 (sd_iconst (pc := 13) (n := 0) (by decide +kernel) (by decide +kernel)) <|
  jx_all1 (sd_istore (pc := 14) (by decide +kernel)) <|
  jx_all1 (sd_iload (pc := 16) (by decide +kernel)) <|
  jx_all1 (sd_aload_n (pc := 18) (q := 0) (by decide +kernel) rfl) <|
  jx_all1 (sd_gI (pc := 19) kf_30 (f := 0) (q := jx_f0) (idx := 70) (by decide +kernel) rfl wd_810 rfl) <|
  jx_all1 (sd_icge (pc := 22) (off := 45) (by decide +kernel) (by decide +kernel)) <|
  jx_all1 (sd_iload_n (pc := 25) (q := 3) (by decide +kernel) rfl) <|
  jx_all1 (sd_iload_n (pc := 26) (q := 1) (by decide +kernel) rfl) <|
  jx_all1 (sd_iload (pc := 27) (by decide +kernel)) <|
  jx_all1 (sd_cI (pc := 29) (idx := 123) (by decide +kernel) mf_136 (Or.inl wd_986)) <|
  jx_all1 (sd_ifne (pc := 32) (off := 22) (by decide +kernel) (by decide +kernel)) <|
  jx_all1 (sd_aload_n (pc := 35) (q := 0) (by decide +kernel) rfl) <|
  jx_all1 (sd_iload (pc := 36) (by decide +kernel)) <|
  jx_all1 (sd_iload_n (pc := 38) (q := 1) (by decide +kernel) rfl) <|
  jx_all1 (sd_iload_n (pc := 39) (q := 2) (by decide +kernel) rfl) <|
  jx_all1 (sd_vI (pc := 40) (idx := 150) (kd := 30) (by decide +kernel) mf_145 wd_1021 rfl rfl) <|
  jx_all1 (sd_aload_n (pc := 43) (q := 0) (by decide +kernel) rfl) <|
  jx_all1 (sd_vI (pc := 44) (idx := 127) (kd := 30) (by decide +kernel) mf_135 wd_982 rfl rfl) <|
  jx_all1 (sd_iload_n (pc := 47) (q := 1) (by decide +kernel) rfl) <|
  jx_all1 (sd_iconst (pc := 48) (n := (-1)) (by decide +kernel) (by decide +kernel)) <|
  jx_all1 (sd_ixor (pc := 49) (by decide +kernel)) <|
  jx_all1 (sd_iand (pc := 50) (by decide +kernel)) <|
  jx_all1 (sd_icne (pc := 51) (off := 7) (by decide +kernel) (by decide +kernel)) <|
  jx_all1 (sd_iconst (pc := 54) (n := 1) (by decide +kernel) (by decide +kernel)) <|
  jx_all1 (sd_goto (pc := 55) (off := 4) (by decide +kernel) (by decide +kernel)) <|
  jx_all1 (sd_iconst (pc := 58) (n := 0) (by decide +kernel) (by decide +kernel)) <|
  jx_all1 (sd_iand (pc := 59) (by decide +kernel)) <|
  jx_all1 (sd_istore_n (pc := 60) (q := 3) (by decide +kernel) rfl) <|
  jx_all1 (sd_iinc (pc := 61) (n := 1) (by decide +kernel) (by decide +kernel)) <|
  jx_all1 (sd_goto (pc := 64) (off := (-48)) (by decide +kernel) (by decide +kernel)) <|
  jx_all1 (sd_iload_n (pc := 67) (q := 3) (by decide +kernel) rfl) <|
  jx_all1 (sd_zreturn (pc := 68) (by decide +kernel) rfl) <|
  jx_all0
set_option maxRecDepth 100000 in
theorem sn_149 (D : jx_D) : jx_all (fun q => jx_Snd cX10_bridges 3 RX10 (some .int) D q.1 q.2) (tb_149 D) := by
  unfold tb_149
  exact jx_all1 (sd_aload_n (pc := 0) (q := 0) (by decide +kernel) rfl) <|
  jx_all1 (sd_gI (pc := 1) kf_30 (f := 2) (q := jx_f0) (idx := 76) (by decide +kernel) rfl wd_812 rfl) <|
  jx_all1 (sd_ifeq (pc := 4) (off := 10) (by decide +kernel) (by decide +kernel)) <|
  jx_all1 (sd_aload_n (pc := 7) (q := 0) (by decide +kernel) rfl) <|
  jx_all1 (sd_bipush (pc := 8) (n := (-8)) (by decide +kernel) (by decide +kernel)) <|
  jx_all1 (sd_vI (pc := 10) (idx := 87) (kd := 30) (by decide +kernel) mf_111 wd_888 rfl rfl) <|
  jx_all1 (sd_ireturn (pc := 13) (by decide +kernel) rfl) <|
  jx_all1 (sd_iconst (pc := 14) (n := 0) (by decide +kernel) (by decide +kernel)) <|
  jx_all1 (sd_istore_n (pc := 15) (q := 1) (by decide +kernel) rfl) <|
  jx_all1 (sd_iconst (pc := 16) (n := 0) (by decide +kernel) (by decide +kernel)) <|
  jx_all1 (sd_istore_n (pc := 17) (q := 2) (by decide +kernel) rfl) <|
  jx_all1 (sd_iload_n (pc := 18) (q := 2) (by decide +kernel) rfl) <|
  jx_all1 (sd_aload_n (pc := 19) (q := 0) (by decide +kernel) rfl) <|
  jx_all1 (sd_gI (pc := 20) kf_30 (f := 1) (q := jx_f0) (idx := 73) (by decide +kernel) rfl wd_811 rfl) <|
  jx_all1 (sd_icge (pc := 23) (off := 52) (by decide +kernel) (by decide +kernel)) <|
  jx_all1 (sd_iload_n (pc := 26) (q := 1) (by decide +kernel) rfl) <|
  jx_all1 (sd_aload_n (pc := 27) (q := 0) (by decide +kernel) rfl) <|
  jx_all1 (sd_aload_n (pc := 28) (q := 0) (by decide +kernel) rfl) <|
  jx_all1 (sd_gR (pc := 29) kf_30 (f := 3) (q := (jx_f1 33 0)) (idx := 7) (by decide +kernel) rfl wd_813 rfl) <|
  jx_all1 (sd_iload_n (pc := 32) (q := 2) (by decide +kernel) rfl) <|
  jx_all1 (sd_iaload (pc := 33) (by decide +kernel)) <|
  jx_all1 (sd_iconst (pc := 34) (n := 0) (by decide +kernel) (by decide +kernel)) <|
  jx_all1 (sd_aload_n (pc := 35) (q := 0) (by decide +kernel) rfl) <|
  jx_all1 (sd_vI (pc := 36) (idx := 131) (kd := 30) (by decide +kernel) mf_137 wd_989 rfl rfl) <|
  jx_all1 (sd_iconst (pc := 39) (n := 1) (by decide +kernel) (by decide +kernel)) <|
  jx_all1 (sd_iload_n (pc := 40) (q := 2) (by decide +kernel) rfl) <|
  jx_all1 (sd_ishl (pc := 41) (by decide +kernel)) <|
  jx_all1 (sd_iconst (pc := 42) (n := (-1)) (by decide +kernel) (by decide +kernel)) <|
  jx_all1 (sd_ixor (pc := 43) (by decide +kernel)) <|
  jx_all1 (sd_iand (pc := 44) (by decide +kernel)) <|
  jx_all1 (sd_vI (pc := 45) (idx := 150) (kd := 30) (by decide +kernel) mf_145 wd_1021 rfl rfl) <|
  jx_all1 (sd_aload_n (pc := 48) (q := 0) (by decide +kernel) rfl) <|
  jx_all1 (sd_gR (pc := 49) kf_30 (f := 4) (q := (jx_f1 34 0)) (idx := 13) (by decide +kernel) rfl wd_814 rfl) <|
  jx_all1 (sd_iload_n (pc := 52) (q := 2) (by decide +kernel) rfl) <|
  jx_all1 (sd_iaload (pc := 53) (by decide +kernel)) <|
  jx_all1 (sd_cI (pc := 54) (idx := 123) (by decide +kernel) mf_136 (Or.inl wd_986)) <|
  jx_all1 (sd_ifeq (pc := 57) (off := 7) (by decide +kernel) (by decide +kernel)) <|
  jx_all1 (sd_iconst (pc := 60) (n := 0) (by decide +kernel) (by decide +kernel)) <|
  jx_all1 (sd_goto (pc := 61) (off := 6) (by decide +kernel) (by decide +kernel)) <|
  jx_all1 (sd_iconst (pc := 64) (n := 1) (by decide +kernel) (by decide +kernel)) <|
  jx_all1 (sd_iload_n (pc := 65) (q := 2) (by decide +kernel) rfl) <|
  jx_all1 (sd_ishl (pc := 66) (by decide +kernel)) <|
  jx_all1 (sd_ior (pc := 67) (by decide +kernel)) <|
  jx_all1 (sd_istore_n (pc := 68) (q := 1) (by decide +kernel) rfl) <|
  jx_all1 (sd_iinc (pc := 69) (n := 1) (by decide +kernel) (by decide +kernel)) <|
  jx_all1 (sd_goto (pc := 72) (off := (-54)) (by decide +kernel) (by decide +kernel)) <|
  jx_all1 (sd_iload_n (pc := 75) (q := 1) (by decide +kernel) rfl) <|
  jx_all1 (sd_ireturn (pc := 76) (by decide +kernel) rfl) <|
  jx_all0
set_option maxRecDepth 100000 in
theorem sn_150 (D : jx_D) : jx_all (fun q => jx_Snd cX10_joints 5 RX10 (some .int) D q.1 q.2) (tb_150 D) := by
  unfold tb_150
  exact jx_all1 (sd_aload_n (pc := 0) (q := 0) (by decide +kernel) rfl) <|
  jx_all1 (sd_gI (pc := 1) kf_30 (f := 2) (q := jx_f0) (idx := 76) (by decide +kernel) rfl wd_812 rfl) <|
  jx_all1 (sd_ifeq (pc := 4) (off := 10) (by decide +kernel) (by decide +kernel)) <|
  jx_all1 (sd_aload_n (pc := 7) (q := 0) (by decide +kernel) rfl) <|
  jx_all1 (sd_bipush (pc := 8) (n := (-8)) (by decide +kernel) (by decide +kernel)) <|
  jx_all1 (sd_vI (pc := 10) (idx := 87) (kd := 30) (by decide +kernel) mf_111 wd_888 rfl rfl) <|
  jx_all1 (sd_ireturn (pc := 13) (by decide +kernel) rfl) <|
  jx_all1 (sd_iconst (pc := 14) (n := 0) (by decide +kernel) (by decide +kernel)) <|
  jx_all1 (sd_istore_n (pc := 15) (q := 1) (by decide +kernel) rfl) <|
  jx_all1 (sd_iconst (pc := 16) (n := 0) (by decide +kernel) (by decide +kernel)) <|
  jx_all1 (sd_istore_n (pc := 17) (q := 2) (by decide +kernel) rfl) <|
  jx_all1 (sd_iload_n (pc := 18) (q := 2) (by decide +kernel) rfl) <|
  jx_all1 (sd_aload_n (pc := 19) (q := 0) (by decide +kernel) rfl) <|
  jx_all1 (sd_gI (pc := 20) kf_30 (f := 0) (q := jx_f0) (idx := 70) (by decide +kernel) rfl wd_810 rfl) <|
  jx_all1 (sd_icge (pc := 23) (off := 90) (by decide +kernel) (by decide +kernel)) <|
  jx_all1 (sd_iconst (pc := 26) (n := 0) (by decide +kernel) (by decide +kernel)) <|
  jx_all1 (sd_istore_n (pc := 27) (q := 3) (by decide +kernel) rfl) <|
  jx_all1 (sd_iconst (pc := 28) (n := 0) (by decide +kernel) (by decide +kernel)) <|
  jx_all1 (sd_istore (pc := 29) (by decide +kernel)) <|
  jx_all1 (sd_iload (pc := 31) (by decide +kernel)) <|
  jx_all1 (sd_aload_n (pc := 33) (q := 0) (by decide +kernel) rfl) <|
  jx_all1 (sd_gI (pc := 34) kf_30 (f := 0) (q := jx_f0) (idx := 70) (by decide +kernel) rfl wd_810 rfl) <|
  jx_all1 (sd_icge (pc := 37) (off := 56) (by decide +kernel) (by decide +kernel)) <|
  jx_all1 (sd_iload_n (pc := 40) (q := 3) (by decide +kernel) rfl) <|
  jx_all1 (sd_iload (pc := 41) (by decide +kernel)) <|
  jx_all1 (sd_iload_n (pc := 43) (q := 2) (by decide +kernel) rfl) <|
  jx_all1 (sd_iceq (pc := 44) (off := 40) (by decide +kernel) (by decide +kernel)) <|
  jx_all1 (sd_aload_n (pc := 47) (q := 0) (by decide +kernel) rfl) <|
  jx_all1 (sd_iload (pc := 48) (by decide +kernel)) <|
  jx_all1 (sd_iconst (pc := 50) (n := 1) (by decide +kernel) (by decide +kernel)) <|
  jx_all1 (sd_iload_n (pc := 51) (q := 2) (by decide +kernel) rfl) <|
  jx_all1 (sd_ishl (pc := 52) (by decide +kernel)) <|
  jx_all1 (sd_aload_n (pc := 53) (q := 0) (by decide +kernel) rfl) <|
  jx_all1 (sd_vI (pc := 54) (idx := 131) (kd := 30) (by decide +kernel) mf_137 wd_989 rfl rfl) <|
  jx_all1 (sd_vI (pc := 57) (idx := 150) (kd := 30) (by decide +kernel) mf_145 wd_1021 rfl rfl) <|
  jx_all1 (sd_aload_n (pc := 60) (q := 0) (by decide +kernel) rfl) <|
  jx_all1 (sd_iload (pc := 61) (by decide +kernel)) <|
  jx_all1 (sd_iconst (pc := 63) (n := 0) (by decide +kernel) (by decide +kernel)) <|
  jx_all1 (sd_aload_n (pc := 64) (q := 0) (by decide +kernel) rfl) <|
  jx_all1 (sd_vI (pc := 65) (idx := 131) (kd := 30) (by decide +kernel) mf_137 wd_989 rfl rfl) <|
  jx_all1 (sd_vI (pc := 68) (idx := 150) (kd := 30) (by decide +kernel) mf_145 wd_1021 rfl rfl) <|
  jx_all1 (sd_iconst (pc := 71) (n := 1) (by decide +kernel) (by decide +kernel)) <|
  jx_all1 (sd_iload_n (pc := 72) (q := 2) (by decide +kernel) rfl) <|
  jx_all1 (sd_ishl (pc := 73) (by decide +kernel)) <|
  jx_all1 (sd_iconst (pc := 74) (n := (-1)) (by decide +kernel) (by decide +kernel)) <|
  jx_all1 (sd_ixor (pc := 75) (by decide +kernel)) <|
  jx_all1 (sd_iand (pc := 76) (by decide +kernel)) <|
  jx_all1 (sd_iceq (pc := 77) (off := 7) (by decide +kernel) (by decide +kernel)) <|
  jx_all1 (sd_iconst (pc := 80) (n := 1) (by decide +kernel) (by decide +kernel)) <|
  jx_all1 (sd_goto (pc := 81) (off := 4) (by decide +kernel) (by decide +kernel)) <|
  jx_all1 (sd_iconst (pc := 84) (n := 0) (by decide +kernel) (by decide +kernel)) <|
  jx_all1 (sd_ior (pc := 85) (by decide +kernel)) <|
  jx_all1 (sd_istore_n (pc := 86) (q := 3) (by decide +kernel) rfl) <|
  jx_all1 (sd_iinc (pc := 87) (n := 1) (by decide +kernel) (by decide +kernel)) <|
  jx_all1 (sd_goto (pc := 90) (off := (-59)) (by decide +kernel) (by decide +kernel)) <|
  jx_all1 (sd_iload_n (pc := 93) (q := 1) (by decide +kernel) rfl) <|
  jx_all1 (sd_iload_n (pc := 94) (q := 3) (by decide +kernel) rfl) <|
  jx_all1 (sd_ifeq (pc := 95) (off := 9) (by decide +kernel) (by decide +kernel)) <|
  jx_all1 (sd_iconst (pc := 98) (n := 1) (by decide +kernel) (by decide +kernel)) <|
  jx_all1 (sd_iload_n (pc := 99) (q := 2) (by decide +kernel) rfl) <|
  jx_all1 (sd_ishl (pc := 100) (by decide +kernel)) <|
  jx_all1 (sd_goto (pc := 101) (off := 4) (by decide +kernel) (by decide +kernel)) <|
  jx_all1 (sd_iconst (pc := 104) (n := 0) (by decide +kernel) (by decide +kernel)) <|
  jx_all1 (sd_ior (pc := 105) (by decide +kernel)) <|
  jx_all1 (sd_istore_n (pc := 106) (q := 1) (by decide +kernel) rfl) <|
  jx_all1 (sd_iinc (pc := 107) (n := 1) (by decide +kernel) (by decide +kernel)) <|
  jx_all1 (sd_goto (pc := 110) (off := (-92)) (by decide +kernel) (by decide +kernel)) <|
  jx_all1 (sd_iload_n (pc := 113) (q := 1) (by decide +kernel) rfl) <|
  jx_all1 (sd_ireturn (pc := 114) (by decide +kernel) rfl) <|
  jx_all0
set_option maxRecDepth 100000 in
theorem sn_151 (D : jx_D) : jx_all (fun q => jx_Snd cX10_block 3 RX10 (some .int) D q.1 q.2) (tb_151 D) := by
  unfold tb_151
  exact jx_all1 (sd_aload_n (pc := 0) (q := 0) (by decide +kernel) rfl) <|
  jx_all1 (sd_iload_n (pc := 1) (q := 1) (by decide +kernel) rfl) <|
  jx_all1 (sd_vI (pc := 2) (idx := 105) (kd := 30) (by decide +kernel) mf_121 wd_928 rfl rfl) <|
  jx_all1 (sd_ifne (pc := 5) (off := 9) (by decide +kernel) (by decide +kernel)) <|
  jx_all1 (sd_aload_n (pc := 8) (q := 0) (by decide +kernel) rfl) <|
  jx_all1 (sd_iconst (pc := 9) (n := (-1)) (by decide +kernel) (by decide +kernel)) <|
  jx_all1 (sd_vI (pc := 10) (idx := 87) (kd := 30) (by decide +kernel) mf_111 wd_888 rfl rfl) <|
  jx_all1 (sd_ireturn (pc := 13) (by decide +kernel) rfl) <|
  jx_all1 (sd_aload_n (pc := 14) (q := 0) (by decide +kernel) rfl) <|
  jx_all1 (sd_gI (pc := 15) kf_30 (f := 2) (q := jx_f0) (idx := 76) (by decide +kernel) rfl wd_812 rfl) <|
  jx_all1 (sd_ifeq (pc := 18) (off := 10) (by decide +kernel) (by decide +kernel)) <|
  jx_all1 (sd_aload_n (pc := 21) (q := 0) (by decide +kernel) rfl) <|
  jx_all1 (sd_bipush (pc := 22) (n := (-8)) (by decide +kernel) (by decide +kernel)) <|
  jx_all1 (sd_vI (pc := 24) (idx := 87) (kd := 30) (by decide +kernel) mf_111 wd_888 rfl rfl) <|
  jx_all1 (sd_ireturn (pc := 27) (by decide +kernel) rfl) <|
  jx_all1 (sd_iconst (pc := 28) (n := 0) (by decide +kernel) (by decide +kernel)) <|
  jx_all1 (sd_istore_n (pc := 29) (q := 2) (by decide +kernel) rfl) <|
  jx_all1 (sd_iload_n (pc := 30) (q := 2) (by decide +kernel) rfl) <|
  jx_all1 (sd_iload_n (pc := 31) (q := 1) (by decide +kernel) rfl) <|
  jx_all1 (sd_icge (pc := 32) (off := 20) (by decide +kernel) (by decide +kernel)) <|
  jx_all1 (sd_aload_n (pc := 35) (q := 0) (by decide +kernel) rfl) <|
  jx_all1 (sd_iload_n (pc := 36) (q := 2) (by decide +kernel) rfl) <|
  jx_all1 (sd_iload_n (pc := 37) (q := 1) (by decide +kernel) rfl) <|
  jx_all1 (sd_vI (pc := 38) (idx := 156) (kd := 30) (by decide +kernel) mf_152 wd_1049 rfl rfl) <|
  jx_all1 (sd_ifeq (pc := 41) (off := 5) (by decide +kernel) (by decide +kernel)) <|
  jx_all1 (sd_iload_n (pc := 44) (q := 2) (by decide +kernel) rfl) <|
  jx_all1 (sd_ireturn (pc := 45) (by decide +kernel) rfl) <|
  jx_all1 (sd_iinc (pc := 46) (n := 1) (by decide +kernel) (by decide +kernel)) <|
  jx_all1 (sd_goto (pc := 49) (off := (-19)) (by decide +kernel) (by decide +kernel)) <|
  jx_all1 (sd_iload_n (pc := 52) (q := 1) (by decide +kernel) rfl) <|
  jx_all1 (sd_ireturn (pc := 53) (by decide +kernel) rfl) <|
  jx_all0
set_option maxRecDepth 100000 in
theorem sn_152 (D : jx_D) : jx_all (fun q => jx_Snd cX10_areOneBlock 6 RX10 (some .boolean) D q.1 q.2) (tb_152 D) := by
  unfold tb_152
  exact jx_all1 (sd_iconst (pc := 0) (n := 0) (by decide +kernel) (by decide +kernel)) <|
  jx_all1 (sd_istore_n (pc := 1) (q := 3) (by decide +kernel) rfl) <|
  jx_all1 (sd_iload_n (pc := 2) (q := 3) (by decide +kernel) rfl) <|
  jx_all1 (sd_aload_n (pc := 3) (q := 0) (by decide +kernel) rfl) <|
  jx_all1 (sd_gI (pc := 4) kf_30 (f := 0) (q := jx_f0) (idx := 70) (by decide +kernel) rfl wd_810 rfl) <|
  jx_all1 (sd_icge (pc := 7) (off := 86) (by decide +kernel) (by decide +kernel)) <|
  jx_all1 (sd_aload_n (pc := 10) (q := 0) (by decide +kernel) rfl) <|
  jx_all1 (sd_gR (pc := 11) kf_30 (f := 3) (q := (jx_f1 33 0)) (idx := 7) (by decide +kernel) rfl wd_813 rfl) <|
  jx_all1 (sd_iload_n (pc := 14) (q := 1) (by decide +kernel) rfl) <|
  jx_all1 (sd_iaload (pc := 15) (by decide +kernel)) <|
  jx_all1 (sd_iload_n (pc := 16) (q := 3) (by decide +kernel) rfl) <|
  jx_all1 (sd_icne (pc := 17) (off := 12) (by decide +kernel) (by decide +kernel)) <|
  jx_all1 (sd_aload_n (pc := 20) (q := 0) (by decide +kernel) rfl) <|
  jx_all1 (sd_gR (pc := 21) kf_30 (f := 4) (q := (jx_f1 34 0)) (idx := 13) (by decide +kernel) rfl wd_814 rfl) <|
  jx_all1 (sd_iload_n (pc := 24) (q := 1) (by decide +kernel) rfl) <|
  jx_all1 (sd_iaload (pc := 25) (by decide +kernel)) <|
  jx_all1 (sd_goto (pc := 26) (off := 9) (by decide +kernel) (by decide +kernel)) <|
  jx_all1 (sd_aload_n (pc := 29) (q := 0) (by decide +kernel) rfl) <|
  jx_all1 (sd_gR (pc := 30) kf_30 (f := 3) (q := (jx_f1 33 0)) (idx := 7) (by decide +kernel) rfl wd_813 rfl) <|
  jx_all1 (sd_iload_n (pc := 33) (q := 1) (by decide +kernel) rfl) <|
  jx_all1 (sd_iaload (pc := 34) (by decide +kernel)) <|
  jx_all1 (sd_istore (pc := 35) (by decide +kernel)) <|
  jx_all1 (sd_aload_n (pc := 37) (q := 0) (by decide +kernel) rfl) <|
  jx_all1 (sd_gR (pc := 38) kf_30 (f := 3) (q := (jx_f1 33 0)) (idx := 7) (by decide +kernel) rfl wd_813 rfl) <|
  jx_all1 (sd_iload_n (pc := 41) (q := 2) (by decide +kernel) rfl) <|
  jx_all1 (sd_iaload (pc := 42) (by decide +kernel)) <|
  jx_all1 (sd_iload_n (pc := 43) (q := 3) (by decide +kernel) rfl) <|
  jx_all1 (sd_icne (pc := 44) (off := 12) (by decide +kernel) (by decide +kernel)) <|
  jx_all1 (sd_aload_n (pc := 47) (q := 0) (by decide +kernel) rfl) <|
  jx_all1 (sd_gR (pc := 48) kf_30 (f := 4) (q := (jx_f1 34 0)) (idx := 13) (by decide +kernel) rfl wd_814 rfl) <|
  jx_all1 (sd_iload_n (pc := 51) (q := 2) (by decide +kernel) rfl) <|
  jx_all1 (sd_iaload (pc := 52) (by decide +kernel)) <|
  jx_all1 (sd_goto (pc := 53) (off := 9) (by decide +kernel) (by decide +kernel)) <|
  jx_all1 (sd_aload_n (pc := 56) (q := 0) (by decide +kernel) rfl) <|
  jx_all1 (sd_gR (pc := 57) kf_30 (f := 3) (q := (jx_f1 33 0)) (idx := 7) (by decide +kernel) rfl wd_813 rfl) <|
  jx_all1 (sd_iload_n (pc := 60) (q := 2) (by decide +kernel) rfl) <|
  jx_all1 (sd_iaload (pc := 61) (by decide +kernel)) <|
  jx_all1 (sd_istore (pc := 62) (by decide +kernel)) <|
  jx_all1 (sd_aload_n (pc := 64) (q := 0) (by decide +kernel) rfl) <|
  jx_all1 (sd_iload (pc := 65) (by decide +kernel)) <|
  jx_all1 (sd_iconst (pc := 67) (n := 1) (by decide +kernel) (by decide +kernel)) <|
  jx_all1 (sd_iload_n (pc := 68) (q := 3) (by decide +kernel) rfl) <|
  jx_all1 (sd_ishl (pc := 69) (by decide +kernel)) <|
  jx_all1 (sd_aload_n (pc := 70) (q := 0) (by decide +kernel) rfl) <|
  jx_all1 (sd_vI (pc := 71) (idx := 131) (kd := 30) (by decide +kernel) mf_137 wd_989 rfl rfl) <|
  jx_all1 (sd_vI (pc := 74) (idx := 150) (kd := 30) (by decide +kernel) mf_145 wd_1021 rfl rfl) <|
  jx_all1 (sd_iload (pc := 77) (by decide +kernel)) <|
  jx_all1 (sd_cI (pc := 79) (idx := 123) (by decide +kernel) mf_136 (Or.inl wd_986)) <|
  jx_all1 (sd_ifne (pc := 82) (off := 5) (by decide +kernel) (by decide +kernel)) <|
  jx_all1 (sd_iconst (pc := 85) (n := 0) (by decide +kernel) (by decide +kernel)) <|
  jx_all1 (sd_zreturn (pc := 86) (by decide +kernel) rfl) <|
  jx_all1 (sd_iinc (pc := 87) (n := 1) (by decide +kernel) (by decide +kernel)) <|
  jx_all1 (sd_goto (pc := 90) (off := (-88)) (by decide +kernel) (by decide +kernel)) <|
  jx_all1 (sd_iconst (pc := 93) (n := 1) (by decide +kernel) (by decide +kernel)) <|
  jx_all1 (sd_zreturn (pc := 94) (by decide +kernel) rfl) <|
  jx_all0
set_option maxRecDepth 100000 in
theorem sn_153 (D : jx_D) : jx_all (fun q => jx_Snd cX10_harder 5 RX10 (some .int) D q.1 q.2) (tb_153 D) := by
  unfold tb_153
  exact jx_all1 (sd_iload_n (pc := 0) (q := 1) (by decide +kernel) rfl) <|
  jx_all1 (sd_iconst (pc := 1) (n := 1) (by decide +kernel) (by decide +kernel)) <|
  jx_all1 (sd_iclt (pc := 2) (off := 9) (by decide +kernel) (by decide +kernel)) <|
  jx_all1 (sd_iload_n (pc := 5) (q := 1) (by decide +kernel) rfl) <|
  jx_all1 (sd_bipush (pc := 6) (n := 8) (by decide +kernel) (by decide +kernel)) <|
  jx_all1 (sd_icle (pc := 8) (off := 9) (by decide +kernel) (by decide +kernel)) <|
  jx_all1 (sd_aload_n (pc := 11) (q := 0) (by decide +kernel) rfl) <|
  jx_all1 (sd_iconst (pc := 12) (n := (-1)) (by decide +kernel) (by decide +kernel)) <|
  jx_all1 (sd_vI (pc := 13) (idx := 87) (kd := 30) (by decide +kernel) mf_111 wd_888 rfl rfl) <|
  jx_all1 (sd_ireturn (pc := 16) (by decide +kernel) rfl) <|
  jx_all1 (sd_aload_n (pc := 17) (q := 0) (by decide +kernel) rfl) <|
  jx_all1 (sd_gI (pc := 18) kf_30 (f := 2) (q := jx_f0) (idx := 76) (by decide +kernel) rfl wd_812 rfl) <|
  jx_all1 (sd_ifeq (pc := 21) (off := 10) (by decide +kernel) (by decide +kernel)) <|
  jx_all1 (sd_aload_n (pc := 24) (q := 0) (by decide +kernel) rfl) <|
  jx_all1 (sd_bipush (pc := 25) (n := (-8)) (by decide +kernel) (by decide +kernel)) <|
  jx_all1 (sd_vI (pc := 27) (idx := 87) (kd := 30) (by decide +kernel) mf_111 wd_888 rfl rfl) <|
  jx_all1 (sd_ireturn (pc := 30) (by decide +kernel) rfl) <|
  jx_all1 (sd_aload_n (pc := 31) (q := 0) (by decide +kernel) rfl) <|
  jx_all1 (sd_gI (pc := 32) kf_30 (f := 0) (q := jx_f0) (idx := 70) (by decide +kernel) rfl wd_810 rfl) <|
  jx_all1 (sd_iconst (pc := 35) (n := 2) (by decide +kernel) (by decide +kernel)) <|
  jx_all1 (sd_icge (pc := 36) (off := 10) (by decide +kernel) (by decide +kernel)) <|
  jx_all1 (sd_aload_n (pc := 39) (q := 0) (by decide +kernel) rfl) <|
  jx_all1 (sd_bipush (pc := 40) (n := (-6)) (by decide +kernel) (by decide +kernel)) <|
  jx_all1 (sd_vI (pc := 42) (idx := 87) (kd := 30) (by decide +kernel) mf_111 wd_888 rfl rfl) <|
  jx_all1 (sd_ireturn (pc := 45) (by decide +kernel) rfl) <|
  jx_all1 (sd_iload_n (pc := 46) (q := 1) (by decide +kernel) rfl) <|
  jx_all1 (sd_iconst (pc := 47) (n := 1) (by decide +kernel) (by decide +kernel)) <|
  jx_all1 (sd_icne (pc := 48) (off := 56) (by decide +kernel) (by decide +kernel)) <|
  jx_all1 (sd_iconst (pc := 51) (n := 0) (by decide +kernel) (by decide +kernel)) <|
  jx_all1 (sd_istore_n (pc := 52) (q := 2) (by decide +kernel) rfl) <|
  jx_all1 (sd_iconst (pc := 53) (n := 0) (by decide +kernel) (by decide +kernel)) <|
  jx_all1 (sd_istore_n (pc := 54) (q := 3) (by decide +kernel) rfl) <|
  jx_all1 (sd_iload_n (pc := 55) (q := 3) (by decide +kernel) rfl) <|
  jx_all1 (sd_aload_n (pc := 56) (q := 0) (by decide +kernel) rfl) <|
  jx_all1 (sd_gI (pc := 57) kf_30 (f := 0) (q := jx_f0) (idx := 70) (by decide +kernel) rfl wd_810 rfl) <|
  jx_all1 (sd_icge (pc := 60) (off := 40) (by decide +kernel) (by decide +kernel)) <|
  jx_all1 (sd_aload_n (pc := 63) (q := 0) (by decide +kernel) rfl) <|
  jx_all1 (sd_iload_n (pc := 64) (q := 3) (by decide +kernel) rfl) <|
  jx_all1 (sd_iconst (pc := 65) (n := 0) (by decide +kernel) (by decide +kernel)) <|
  jx_all1 (sd_aload_n (pc := 66) (q := 0) (by decide +kernel) rfl) <|
  jx_all1 (sd_vI (pc := 67) (idx := 131) (kd := 30) (by decide +kernel) mf_137 wd_989 rfl rfl) <|
  jx_all1 (sd_vI (pc := 70) (idx := 150) (kd := 30) (by decide +kernel) mf_145 wd_1021 rfl rfl) <|
  jx_all1 (sd_istore (pc := 73) (by decide +kernel)) <|
  jx_all1 (sd_iload_n (pc := 75) (q := 2) (by decide +kernel) rfl) <|
  jx_all1 (sd_iload (pc := 76) (by decide +kernel)) <|
  jx_all1 (sd_iconst (pc := 78) (n := 1) (by decide +kernel) (by decide +kernel)) <|
  jx_all1 (sd_iload_n (pc := 79) (q := 3) (by decide +kernel) rfl) <|
  jx_all1 (sd_ishl (pc := 80) (by decide +kernel)) <|
  jx_all1 (sd_iconst (pc := 81) (n := 1) (by decide +kernel) (by decide +kernel)) <|
  jx_all1 (sd_isub (pc := 82) (by decide +kernel)) <|
  jx_all1 (sd_iand (pc := 83) (by decide +kernel)) <|
  jx_all1 (sd_ifne (pc := 84) (off := 7) (by decide +kernel) (by decide +kernel)) <|
  jx_all1 (sd_iconst (pc := 87) (n := 1) (by decide +kernel) (by decide +kernel)) <|
  jx_all1 (sd_goto (pc := 88) (off := 4) (by decide +kernel) (by decide +kernel)) <|
  jx_all1 (sd_iconst (pc := 91) (n := 0) (by decide +kernel) (by decide +kernel)) <|
  jx_all1 (sd_iadd (pc := 92) (by decide +kernel)) <|
  jx_all1 (sd_istore_n (pc := 93) (q := 2) (by decide +kernel) rfl) <|
  jx_all1 (sd_iinc (pc := 94) (n := 1) (by decide +kernel) (by decide +kernel)) <|
  jx_all1 (sd_goto (pc := 97) (off := (-42)) (by decide +kernel) (by decide +kernel)) <|
  jx_all1 (sd_iload_n (pc := 100) (q := 2) (by decide +kernel) rfl) <|
  jx_all1 (sd_iconst (pc := 101) (n := 1) (by decide +kernel) (by decide +kernel)) <|
  jx_all1 (sd_isub (pc := 102) (by decide +kernel)) <|
  jx_all1 (sd_ireturn (pc := 103) (by decide +kernel) rfl) <|
  jx_all1 (sd_iconst (pc := 104) (n := 0) (by decide +kernel) (by decide +kernel)) <|
  jx_all1 (sd_istore_n (pc := 105) (q := 2) (by decide +kernel) rfl) <|
  jx_all1 (sd_iload_n (pc := 106) (q := 2) (by decide +kernel) rfl) <|
  jx_all1 (sd_aload_n (pc := 107) (q := 0) (by decide +kernel) rfl) <|
  jx_all1 (sd_vI (pc := 108) (idx := 127) (kd := 30) (by decide +kernel) mf_135 wd_982 rfl rfl) <|
  jx_all1 (sd_icgt (pc := 111) (off := 114) (by decide +kernel) (by decide +kernel)) <|
  jx_all1 (sd_aload_n (pc := 114) (q := 0) (by decide +kernel) rfl) <|
  jx_all1 (sd_gR (pc := 115) kf_30 (f := 18) (q := (jx_f1 48 0)) (idx := 46) (by decide +kernel) rfl wd_828 rfl) <|
  jx_all1 (sd_iload_n (pc := 118) (q := 2) (by decide +kernel) rfl) <|
  jx_all1 (sd_iconst (pc := 119) (n := 0) (by decide +kernel) (by decide +kernel)) <|
  jx_all1 (sd_iastore (pc := 120) (by decide +kernel)) <|
  jx_all1 (sd_iconst (pc := 121) (n := 1) (by decide +kernel) (by decide +kernel)) <|
  jx_all1 (sd_istore_n (pc := 122) (q := 3) (by decide +kernel) rfl) <|
  jx_all1 (sd_iload_n (pc := 123) (q := 3) (by decide +kernel) rfl) <|
  jx_all1 (sd_iload_n (pc := 124) (q := 2) (by decide +kernel) rfl) <|
  jx_all1 (sd_icgt (pc := 125) (off := 94) (by decide +kernel) (by decide +kernel)) <|
  jx_all1 (sd_iload_n (pc := 128) (q := 3) (by decide +kernel) rfl) <|
  jx_all1 (sd_iload_n (pc := 129) (q := 2) (by decide +kernel) rfl) <|
  jx_all1 (sd_iconst (pc := 130) (n := (-1)) (by decide +kernel) (by decide +kernel)) <|
  jx_all1 (sd_ixor (pc := 131) (by decide +kernel)) <|
  jx_all1 (sd_iand (pc := 132) (by decide +kernel)) <|
  jx_all1 (sd_ifne (pc := 133) (off := 80) (by decide +kernel) (by decide +kernel)) <|
  jx_all1 (sd_iload_n (pc := 136) (q := 3) (by decide +kernel) rfl) <|
  jx_all1 (sd_aload_n (pc := 137) (q := 0) (by decide +kernel) rfl) <|
  jx_all1 (sd_vI (pc := 138) (idx := 127) (kd := 30) (by decide +kernel) mf_135 wd_982 rfl rfl) <|
  jx_all1 (sd_iceq (pc := 141) (off := 72) (by decide +kernel) (by decide +kernel)) <|
  jx_all1 (sd_iload_n (pc := 144) (q := 1) (by decide +kernel) rfl) <|
  jx_all1 (sd_aload_n (pc := 145) (q := 0) (by decide +kernel) rfl) <|
  jx_all1 (sd_iload_n (pc := 146) (q := 3) (by decide +kernel) rfl) <|
  jx_all1 (sd_aload_n (pc := 147) (q := 0) (by decide +kernel) rfl) <|
  jx_all1 (sd_gI (pc := 148) kf_30 (f := 1) (q := jx_f0) (idx := 73) (by decide +kernel) rfl wd_811 rfl) <|
  jx_all1 (sd_aload_n (pc := 151) (q := 0) (by decide +kernel) rfl) <|
  jx_all1 (sd_vI (pc := 152) (idx := 131) (kd := 30) (by decide +kernel) mf_137 wd_989 rfl rfl) <|
  jx_all1 (sd_vI (pc := 155) (idx := 134) (kd := 30) (by decide +kernel) mf_138 wd_993 rfl rfl) <|
  jx_all1 (sd_isub (pc := 158) (by decide +kernel)) <|
  jx_all1 (sd_istore (pc := 159) (by decide +kernel)) <|
  jx_all1 (sd_iload (pc := 161) (by decide +kernel)) <|
  jx_all1 (sd_ifle (pc := 163) (off := 8) (by decide +kernel) (by decide +kernel)) <|
  jx_all1 (sd_iload (pc := 166) (by decide +kernel)) <|
  jx_all1 (sd_goto (pc := 168) (off := 4) (by decide +kernel) (by decide +kernel)) <|
  jx_all1 (sd_iconst (pc := 171) (n := 0) (by decide +kernel) (by decide +kernel)) <|
  jx_all1 (sd_aload_n (pc := 172) (q := 0) (by decide +kernel) rfl) <|
  jx_all1 (sd_gR (pc := 173) kf_30 (f := 18) (q := (jx_f1 48 0)) (idx := 46) (by decide +kernel) rfl wd_828 rfl) <|
  jx_all1 (sd_iload_n (pc := 176) (q := 2) (by decide +kernel) rfl) <|
  jx_all1 (sd_iload_n (pc := 177) (q := 3) (by decide +kernel) rfl) <|
  jx_all1 (sd_iconst (pc := 178) (n := (-1)) (by decide +kernel) (by decide +kernel)) <|
  jx_all1 (sd_ixor (pc := 179) (by decide +kernel)) <|
  jx_all1 (sd_iand (pc := 180) (by decide +kernel)) <|
  jx_all1 (sd_iaload (pc := 181) (by decide +kernel)) <|
  jx_all1 (sd_iadd (pc := 182) (by decide +kernel)) <|
  jx_all1 (sd_istore (pc := 183) (by decide +kernel)) <|
  jx_all1 (sd_aload_n (pc := 185) (q := 0) (by decide +kernel) rfl) <|
  jx_all1 (sd_gR (pc := 186) kf_30 (f := 18) (q := (jx_f1 48 0)) (idx := 46) (by decide +kernel) rfl wd_828 rfl) <|
  jx_all1 (sd_iload_n (pc := 189) (q := 2) (by decide +kernel) rfl) <|
  jx_all1 (sd_iload (pc := 190) (by decide +kernel)) <|
  jx_all1 (sd_aload_n (pc := 192) (q := 0) (by decide +kernel) rfl) <|
  jx_all1 (sd_gR (pc := 193) kf_30 (f := 18) (q := (jx_f1 48 0)) (idx := 46) (by decide +kernel) rfl wd_828 rfl) <|
  jx_all1 (sd_iload_n (pc := 196) (q := 2) (by decide +kernel) rfl) <|
  jx_all1 (sd_iaload (pc := 197) (by decide +kernel)) <|
  jx_all1 (sd_icle (pc := 198) (off := 8) (by decide +kernel) (by decide +kernel)) <|
  jx_all1 (sd_iload (pc := 201) (by decide +kernel)) <|
  jx_all1 (sd_goto (pc := 203) (off := 9) (by decide +kernel) (by decide +kernel)) <|
  jx_all1 (sd_aload_n (pc := 206) (q := 0) (by decide +kernel) rfl) <|
  jx_all1 (sd_gR (pc := 207) kf_30 (f := 18) (q := (jx_f1 48 0)) (idx := 46) (by decide +kernel) rfl wd_828 rfl) <|
  jx_all1 (sd_iload_n (pc := 210) (q := 2) (by decide +kernel) rfl) <|
  jx_all1 (sd_iaload (pc := 211) (by decide +kernel)) <|
  jx_all1 (sd_iastore (pc := 212) (by decide +kernel)) <|
  jx_all1 (sd_iinc (pc := 213) (n := 1) (by decide +kernel) (by decide +kernel)) <|
  jx_all1 (sd_goto (pc := 216) (off := (-93)) (by decide +kernel) (by decide +kernel)) <|
  jx_all1 (sd_iinc (pc := 219) (n := 1) (by decide +kernel) (by decide +kernel)) <|
  jx_all1 (sd_goto (pc := 222) (off := (-116)) (by decide +kernel) (by decide +kernel)) <|
  jx_all1 (sd_aload_n (pc := 225) (q := 0) (by decide +kernel) rfl) <|
  jx_all1 (sd_gR (pc := 226) kf_30 (f := 18) (q := (jx_f1 48 0)) (idx := 46) (by decide +kernel) rfl wd_828 rfl) <|
  jx_all1 (sd_aload_n (pc := 229) (q := 0) (by decide +kernel) rfl) <|
  jx_all1 (sd_vI (pc := 230) (idx := 127) (kd := 30) (by decide +kernel) mf_135 wd_982 rfl rfl) <|
  jx_all1 (sd_iaload (pc := 233) (by decide +kernel)) <|
  jx_all1 (sd_iconst (pc := 234) (n := 1) (by decide +kernel) (by decide +kernel)) <|
  jx_all1 (sd_iadd (pc := 235) (by decide +kernel)) <|
  jx_all1 (sd_iconst (pc := 236) (n := 2) (by decide +kernel) (by decide +kernel)) <|
  jx_all1 (sd_idiv (pc := 237) (by decide +kernel)) <|
  jx_all1 (sd_ireturn (pc := 238) (by decide +kernel) rfl) <|
  jx_all0
set_option maxRecDepth 100000 in
theorem sn_154 (D : jx_D) : jx_all (fun q => jx_Snd cX10_best 4 RX10 (some .int) D q.1 q.2) (tb_154 D) := by
  unfold tb_154
  exact jx_all1 (sd_iload_n (pc := 0) (q := 1) (by decide +kernel) rfl) <|
  jx_all1 (sd_iconst (pc := 1) (n := 1) (by decide +kernel) (by decide +kernel)) <|
  jx_all1 (sd_iclt (pc := 2) (off := 9) (by decide +kernel) (by decide +kernel)) <|
  jx_all1 (sd_iload_n (pc := 5) (q := 1) (by decide +kernel) rfl) <|
  jx_all1 (sd_bipush (pc := 6) (n := 8) (by decide +kernel) (by decide +kernel)) <|
  jx_all1 (sd_icle (pc := 8) (off := 9) (by decide +kernel) (by decide +kernel)) <|
  jx_all1 (sd_aload_n (pc := 11) (q := 0) (by decide +kernel) rfl) <|
  jx_all1 (sd_iconst (pc := 12) (n := (-1)) (by decide +kernel) (by decide +kernel)) <|
  jx_all1 (sd_vI (pc := 13) (idx := 87) (kd := 30) (by decide +kernel) mf_111 wd_888 rfl rfl) <|
  jx_all1 (sd_ireturn (pc := 16) (by decide +kernel) rfl) <|
  jx_all1 (sd_aload_n (pc := 17) (q := 0) (by decide +kernel) rfl) <|
  jx_all1 (sd_gI (pc := 18) kf_30 (f := 1) (q := jx_f0) (idx := 73) (by decide +kernel) rfl wd_811 rfl) <|
  jx_all1 (sd_bipush (pc := 21) (n := 12) (by decide +kernel) (by decide +kernel)) <|
  jx_all1 (sd_icle (pc := 23) (off := 10) (by decide +kernel) (by decide +kernel)) <|
  jx_all1 (sd_aload_n (pc := 26) (q := 0) (by decide +kernel) rfl) <|
  jx_all1 (sd_bipush (pc := 27) (n := (-7)) (by decide +kernel) (by decide +kernel)) <|
  jx_all1 (sd_vI (pc := 29) (idx := 87) (kd := 30) (by decide +kernel) mf_111 wd_888 rfl rfl) <|
  jx_all1 (sd_ireturn (pc := 32) (by decide +kernel) rfl) <|
  jx_all1 (sd_aload_n (pc := 33) (q := 0) (by decide +kernel) rfl) <|
  jx_all1 (sd_gI (pc := 34) kf_30 (f := 0) (q := jx_f0) (idx := 70) (by decide +kernel) rfl wd_810 rfl) <|
  jx_all1 (sd_iconst (pc := 37) (n := 2) (by decide +kernel) (by decide +kernel)) <|
  jx_all1 (sd_iclt (pc := 38) (off := 11) (by decide +kernel) (by decide +kernel)) <|
  jx_all1 (sd_aload_n (pc := 41) (q := 0) (by decide +kernel) rfl) <|
  jx_all1 (sd_vI (pc := 42) (idx := 147) (kd := 30) (by decide +kernel) mf_141 wd_1016 rfl rfl) <|
  jx_all1 (sd_iload_n (pc := 45) (q := 1) (by decide +kernel) rfl) <|
  jx_all1 (sd_icge (pc := 46) (off := 10) (by decide +kernel) (by decide +kernel)) <|
  jx_all1 (sd_aload_n (pc := 49) (q := 0) (by decide +kernel) rfl) <|
  jx_all1 (sd_bipush (pc := 50) (n := (-6)) (by decide +kernel) (by decide +kernel)) <|
  jx_all1 (sd_vI (pc := 52) (idx := 87) (kd := 30) (by decide +kernel) mf_111 wd_888 rfl rfl) <|
  jx_all1 (sd_ireturn (pc := 55) (by decide +kernel) rfl) <|
  jx_all1 (sd_aload_n (pc := 56) (q := 0) (by decide +kernel) rfl) <|
  jx_all1 (sd_vI (pc := 57) (idx := 131) (kd := 30) (by decide +kernel) mf_137 wd_989 rfl rfl) <|
  jx_all1 (sd_istore_n (pc := 60) (q := 2) (by decide +kernel) rfl) <|
  jx_all1 (sd_aload_n (pc := 61) (q := 0) (by decide +kernel) rfl) <|
  jx_all1 (sd_vI (pc := 62) (idx := 131) (kd := 30) (by decide +kernel) mf_137 wd_989 rfl rfl) <|
  jx_all1 (sd_istore_n (pc := 65) (q := 3) (by decide +kernel) rfl) <|
  jx_all1 (sd_iload_n (pc := 66) (q := 3) (by decide +kernel) rfl) <|
  jx_all1 (sd_iflt (pc := 67) (off := 37) (by decide +kernel) (by decide +kernel)) <|
  jx_all1 (sd_aload_n (pc := 70) (q := 0) (by decide +kernel) rfl) <|
  jx_all1 (sd_iload_n (pc := 71) (q := 3) (by decide +kernel) rfl) <|
  jx_all1 (sd_vI (pc := 72) (idx := 159) (kd := 30) (by decide +kernel) mf_155 wd_1061 rfl rfl) <|
  jx_all1 (sd_aload_n (pc := 75) (q := 0) (by decide +kernel) rfl) <|
  jx_all1 (sd_iload_n (pc := 76) (q := 2) (by decide +kernel) rfl) <|
  jx_all1 (sd_vI (pc := 77) (idx := 159) (kd := 30) (by decide +kernel) mf_155 wd_1061 rfl rfl) <|
  jx_all1 (sd_icgt (pc := 80) (off := 18) (by decide +kernel) (by decide +kernel)) <|
  jx_all1 (sd_aload_n (pc := 83) (q := 0) (by decide +kernel) rfl) <|
  jx_all1 (sd_aload_n (pc := 84) (q := 0) (by decide +kernel) rfl) <|
  jx_all1 (sd_gI (pc := 85) kf_30 (f := 1) (q := jx_f0) (idx := 73) (by decide +kernel) rfl wd_811 rfl) <|
  jx_all1 (sd_iload_n (pc := 88) (q := 3) (by decide +kernel) rfl) <|
  jx_all1 (sd_vI (pc := 89) (idx := 144) (kd := 30) (by decide +kernel) mf_142 wd_1008 rfl rfl) <|
  jx_all1 (sd_iload_n (pc := 92) (q := 1) (by decide +kernel) rfl) <|
  jx_all1 (sd_iclt (pc := 93) (off := 5) (by decide +kernel) (by decide +kernel)) <|
  jx_all1 (sd_iload_n (pc := 96) (q := 3) (by decide +kernel) rfl) <|
  jx_all1 (sd_istore_n (pc := 97) (q := 2) (by decide +kernel) rfl) <|
  jx_all1 (sd_iinc (pc := 98) (n := (-1)) (by decide +kernel) (by decide +kernel)) <|
  jx_all1 (sd_goto (pc := 101) (off := (-35)) (by decide +kernel) (by decide +kernel)) <|
  jx_all1 (sd_iload_n (pc := 104) (q := 2) (by decide +kernel) rfl) <|
  jx_all1 (sd_ireturn (pc := 105) (by decide +kernel) rfl) <|
  jx_all0
set_option maxRecDepth 100000 in
theorem sn_155 (D : jx_D) : jx_all (fun q => jx_Snd cX10_priceOf 4 RX10 (some .int) D q.1 q.2) (tb_155 D) := by
  unfold tb_155
  exact jx_all1 (sd_iconst (pc := 0) (n := 0) (by decide +kernel) (by decide +kernel)) <|
  jx_all1 (sd_istore_n (pc := 1) (q := 2) (by decide +kernel) rfl) <|
  jx_all1 (sd_iconst (pc := 2) (n := 0) (by decide +kernel) (by decide +kernel)) <|
  jx_all1 (sd_istore_n (pc := 3) (q := 3) (by decide +kernel) rfl) <|
  jx_all1 (sd_iload_n (pc := 4) (q := 3) (by decide +kernel) rfl) <|
  jx_all1 (sd_aload_n (pc := 5) (q := 0) (by decide +kernel) rfl) <|
  jx_all1 (sd_gI (pc := 6) kf_30 (f := 1) (q := jx_f0) (idx := 73) (by decide +kernel) rfl wd_811 rfl) <|
  jx_all1 (sd_icge (pc := 9) (off := 30) (by decide +kernel) (by decide +kernel)) <|
  jx_all1 (sd_iload_n (pc := 12) (q := 2) (by decide +kernel) rfl) <|
  jx_all1 (sd_iload_n (pc := 13) (q := 1) (by decide +kernel) rfl) <|
  jx_all1 (sd_iload_n (pc := 14) (q := 3) (by decide +kernel) rfl) <|
  jx_all1 (sd_cI (pc := 15) (idx := 123) (by decide +kernel) mf_136 (Or.inl wd_986)) <|
  jx_all1 (sd_ifeq (pc := 18) (off := 12) (by decide +kernel) (by decide +kernel)) <|
  jx_all1 (sd_aload_n (pc := 21) (q := 0) (by decide +kernel) rfl) <|
  jx_all1 (sd_gR (pc := 22) kf_30 (f := 5) (q := (jx_f1 35 0)) (idx := 16) (by decide +kernel) rfl wd_815 rfl) <|
  jx_all1 (sd_iload_n (pc := 25) (q := 3) (by decide +kernel) rfl) <|
  jx_all1 (sd_iaload (pc := 26) (by decide +kernel)) <|
  jx_all1 (sd_goto (pc := 27) (off := 4) (by decide +kernel) (by decide +kernel)) <|
  jx_all1 (sd_iconst (pc := 30) (n := 0) (by decide +kernel) (by decide +kernel)) <|
  jx_all1 (sd_iadd (pc := 31) (by decide +kernel)) <|
  jx_all1 (sd_istore_n (pc := 32) (q := 2) (by decide +kernel) rfl) <|
  jx_all1 (sd_iinc (pc := 33) (n := 1) (by decide +kernel) (by decide +kernel)) <|
  jx_all1 (sd_goto (pc := 36) (off := (-32)) (by decide +kernel) (by decide +kernel)) <|
  jx_all1 (sd_iload_n (pc := 39) (q := 2) (by decide +kernel) rfl) <|
  jx_all1 (sd_ireturn (pc := 40) (by decide +kernel) rfl) <|
  jx_all0
set_option maxRecDepth 100000 in
theorem sn_156 (D : jx_D) : jx_all (fun q => jx_Snd cX10_take 4 RX10 (some .int) D q.1 q.2) (tb_156 D) := by
  unfold tb_156
  exact jx_all1 (sd_aload_n (pc := 0) (q := 0) (by decide +kernel) rfl) <|
  jx_all1 (sd_vV (pc := 1) (idx := 94) (kd := 30) (by decide +kernel) mf_114 wd_900 rfl rfl) <|
  jx_all1 (sd_aload_n (pc := 4) (q := 0) (by decide +kernel) rfl) <|
  jx_all1 (sd_vI (pc := 5) (idx := 147) (kd := 30) (by decide +kernel) mf_141 wd_1016 rfl rfl) <|
  jx_all1 (sd_istore_n (pc := 8) (q := 1) (by decide +kernel) rfl) <|
  jx_all1 (sd_iconst (pc := 9) (n := 0) (by decide +kernel) (by decide +kernel)) <|
  jx_all1 (sd_istore_n (pc := 10) (q := 2) (by decide +kernel) rfl) <|
  jx_all1 (sd_iconst (pc := 11) (n := 0) (by decide +kernel) (by decide +kernel)) <|
  jx_all1 (sd_istore_n (pc := 12) (q := 3) (by decide +kernel) rfl) <|
  jx_all1 (sd_iload_n (pc := 13) (q := 3) (by decide +kernel) rfl) <|
  jx_all1 (sd_aload_n (pc := 14) (q := 0) (by decide +kernel) rfl) <|
  jx_all1 (sd_gI (pc := 15) kf_30 (f := 1) (q := jx_f0) (idx := 73) (by decide +kernel) rfl wd_811 rfl) <|
  jx_all1 (sd_icge (pc := 18) (off := 42) (by decide +kernel) (by decide +kernel)) <|
  jx_all1 (sd_aload_n (pc := 21) (q := 0) (by decide +kernel) rfl) <|
  jx_all1 (sd_aload_n (pc := 22) (q := 0) (by decide +kernel) rfl) <|
  jx_all1 (sd_gI (pc := 23) kf_30 (f := 1) (q := jx_f0) (idx := 73) (by decide +kernel) rfl wd_811 rfl) <|
  jx_all1 (sd_aload_n (pc := 26) (q := 0) (by decide +kernel) rfl) <|
  jx_all1 (sd_vI (pc := 27) (idx := 131) (kd := 30) (by decide +kernel) mf_137 wd_989 rfl rfl) <|
  jx_all1 (sd_iconst (pc := 30) (n := 1) (by decide +kernel) (by decide +kernel)) <|
  jx_all1 (sd_iload_n (pc := 31) (q := 3) (by decide +kernel) rfl) <|
  jx_all1 (sd_ishl (pc := 32) (by decide +kernel)) <|
  jx_all1 (sd_iconst (pc := 33) (n := (-1)) (by decide +kernel) (by decide +kernel)) <|
  jx_all1 (sd_ixor (pc := 34) (by decide +kernel)) <|
  jx_all1 (sd_iand (pc := 35) (by decide +kernel)) <|
  jx_all1 (sd_vI (pc := 36) (idx := 144) (kd := 30) (by decide +kernel) mf_142 wd_1008 rfl rfl) <|
  jx_all1 (sd_iload_n (pc := 39) (q := 1) (by decide +kernel) rfl) <|
  jx_all1 (sd_icne (pc := 40) (off := 14) (by decide +kernel) (by decide +kernel)) <|
  jx_all1 (sd_aload_n (pc := 43) (q := 0) (by decide +kernel) rfl) <|
  jx_all1 (sd_iload_n (pc := 44) (q := 3) (by decide +kernel) rfl) <|
  jx_all1 (sd_vV (pc := 45) (idx := 108) (kd := 30) (by decide +kernel) mf_123 wd_936 rfl rfl) <|
  jx_all1 (sd_iinc (pc := 48) (n := 1) (by decide +kernel) (by decide +kernel)) <|
  jx_all1 (sd_goto (pc := 51) (off := (-38)) (by decide +kernel) (by decide +kernel)) <|
  jx_all1 (sd_iinc (pc := 54) (n := 1) (by decide +kernel) (by decide +kernel)) <|
  jx_all1 (sd_goto (pc := 57) (off := (-44)) (by decide +kernel) (by decide +kernel)) <|
  jx_all1 (sd_iload_n (pc := 60) (q := 2) (by decide +kernel) rfl) <|
  jx_all1 (sd_ireturn (pc := 61) (by decide +kernel) rfl) <|
  jx_all0
set_option maxRecDepth 100000 in
theorem sn_157 (D : jx_D) : jx_all (fun q => jx_Snd cX10_pack 5 RX10 (some .int) D q.1 q.2) (tb_157 D) := by
  unfold tb_157
  exact jx_all1 (sd_aload_n (pc := 0) (q := 0) (by decide +kernel) rfl) <|
  jx_all1 (sd_gI (pc := 1) kf_30 (f := 2) (q := jx_f0) (idx := 76) (by decide +kernel) rfl wd_812 rfl) <|
  jx_all1 (sd_ifeq (pc := 4) (off := 10) (by decide +kernel) (by decide +kernel)) <|
  jx_all1 (sd_aload_n (pc := 7) (q := 0) (by decide +kernel) rfl) <|
  jx_all1 (sd_bipush (pc := 8) (n := (-8)) (by decide +kernel) (by decide +kernel)) <|
  jx_all1 (sd_vI (pc := 10) (idx := 87) (kd := 30) (by decide +kernel) mf_111 wd_888 rfl rfl) <|
  jx_all1 (sd_ireturn (pc := 13) (by decide +kernel) rfl) <|
  jx_all1 (sd_aload_n (pc := 14) (q := 0) (by decide +kernel) rfl) <|
  jx_all1 (sd_gI (pc := 15) kf_30 (f := 0) (q := jx_f0) (idx := 70) (by decide +kernel) rfl wd_810 rfl) <|
  jx_all1 (sd_iconst (pc := 18) (n := 2) (by decide +kernel) (by decide +kernel)) <|
  jx_all1 (sd_icge (pc := 19) (off := 5) (by decide +kernel) (by decide +kernel)) <|
  jx_all1 (sd_iconst (pc := 22) (n := 0) (by decide +kernel) (by decide +kernel)) <|
  jx_all1 (sd_ireturn (pc := 23) (by decide +kernel) rfl) <|
  jx_all1 (sd_iconst (pc := 24) (n := 0) (by decide +kernel) (by decide +kernel)) <|
  jx_all1 (sd_istore_n (pc := 25) (q := 1) (by decide +kernel) rfl) <|
  jx_all1 (sd_iload_n (pc := 26) (q := 1) (by decide +kernel) rfl) <|
  jx_all1 (sd_aload_n (pc := 27) (q := 0) (by decide +kernel) rfl) <|
  jx_all1 (sd_gI (pc := 28) kf_30 (f := 0) (q := jx_f0) (idx := 70) (by decide +kernel) rfl wd_810 rfl) <|
  jx_all1 (sd_icge (pc := 31) (off := 16) (by decide +kernel) (by decide +kernel)) <|
  jx_all1 (sd_aload_n (pc := 34) (q := 0) (by decide +kernel) rfl) <|
  jx_all1 (sd_gR (pc := 35) kf_30 (f := 19) (q := (jx_f1 49 0)) (idx := 49) (by decide +kernel) rfl wd_829 rfl) <|
  jx_all1 (sd_iload_n (pc := 38) (q := 1) (by decide +kernel) rfl) <|
  jx_all1 (sd_iconst (pc := 39) (n := 0) (by decide +kernel) (by decide +kernel)) <|
  jx_all1 (sd_iastore (pc := 40) (by decide +kernel)) <|
  jx_all1 (sd_iinc (pc := 41) (n := 1) (by decide +kernel) (by decide +kernel)) <|
  jx_all1 (sd_goto (pc := 44) (off := (-18)) (by decide +kernel) (by decide +kernel)) <|
  jx_all1 (sd_bipush (pc := 47) (n := 20) (by decide +kernel) (by decide +kernel)) <|
  jx_all1 (sd_istore_n (pc := 49) (q := 1) (by decide +kernel) rfl) <|
  jx_all1 (sd_aload_n (pc := 50) (q := 0) (by decide +kernel) rfl) <|
  jx_all1 (sd_vI (pc := 51) (idx := 162) (kd := 30) (by decide +kernel) mf_158 wd_1073 rfl rfl) <|
  jx_all1 (sd_ifeq (pc := 54) (off := 119) (by decide +kernel) (by decide +kernel)) <|
  jx_all1 (sd_iconst (pc := 57) (n := 0) (by decide +kernel) (by decide +kernel)) <|
  jx_all1 (sd_istore_n (pc := 58) (q := 2) (by decide +kernel) rfl) <|
  jx_all1 (sd_iconst (pc := 59) (n := 0) (by decide +kernel) (by decide +kernel)) <|
  jx_all1 (sd_istore_n (pc := 60) (q := 3) (by decide +kernel) rfl) <|
  jx_all1 (sd_iconst (pc := 61) (n := 0) (by decide +kernel) (by decide +kernel)) <|
  jx_all1 (sd_istore (pc := 62) (by decide +kernel)) <|
  jx_all1 (sd_iload (pc := 64) (by decide +kernel)) <|
  jx_all1 (sd_aload_n (pc := 66) (q := 0) (by decide +kernel) rfl) <|
  jx_all1 (sd_gI (pc := 67) kf_30 (f := 0) (q := jx_f0) (idx := 70) (by decide +kernel) rfl wd_810 rfl) <|
  jx_all1 (sd_icge (pc := 70) (off := 32) (by decide +kernel) (by decide +kernel)) <|
  jx_all1 (sd_aload_n (pc := 73) (q := 0) (by decide +kernel) rfl) <|
  jx_all1 (sd_gR (pc := 74) kf_30 (f := 19) (q := (jx_f1 49 0)) (idx := 49) (by decide +kernel) rfl wd_829 rfl) <|
  jx_all1 (sd_iload (pc := 77) (by decide +kernel)) <|
  jx_all1 (sd_iaload (pc := 79) (by decide +kernel)) <|
  jx_all1 (sd_iload_n (pc := 80) (q := 2) (by decide +kernel) rfl) <|
  jx_all1 (sd_icle (pc := 81) (off := 13) (by decide +kernel) (by decide +kernel)) <|
  jx_all1 (sd_aload_n (pc := 84) (q := 0) (by decide +kernel) rfl) <|
  jx_all1 (sd_gR (pc := 85) kf_30 (f := 19) (q := (jx_f1 49 0)) (idx := 49) (by decide +kernel) rfl wd_829 rfl) <|
  jx_all1 (sd_iload (pc := 88) (by decide +kernel)) <|
  jx_all1 (sd_iaload (pc := 90) (by decide +kernel)) <|
  jx_all1 (sd_goto (pc := 91) (off := 4) (by decide +kernel) (by decide +kernel)) <|
  jx_all1 (sd_iload_n (pc := 94) (q := 2) (by decide +kernel) rfl) <|
  jx_all1 (sd_istore_n (pc := 95) (q := 2) (by decide +kernel) rfl) <|
  jx_all1 (sd_iinc (pc := 96) (n := 1) (by decide +kernel) (by decide +kernel)) <|
  jx_all1 (sd_goto (pc := 99) (off := (-35)) (by decide +kernel) (by decide +kernel)) <|
  jx_all1 (sd_iconst (pc := 102) (n := 0) (by decide +kernel) (by decide +kernel)) <|
  jx_all1 (sd_istore (pc := 103) (by decide +kernel)) <|
  jx_all1 (sd_iload (pc := 105) (by decide +kernel)) <|
  jx_all1 (sd_aload_n (pc := 107) (q := 0) (by decide +kernel) rfl) <|
  jx_all1 (sd_gI (pc := 108) kf_30 (f := 1) (q := jx_f0) (idx := 73) (by decide +kernel) rfl wd_811 rfl) <|
  jx_all1 (sd_icge (pc := 111) (off := 44) (by decide +kernel) (by decide +kernel)) <|
  jx_all1 (sd_iload_n (pc := 114) (q := 3) (by decide +kernel) rfl) <|
  jx_all1 (sd_aload_n (pc := 115) (q := 0) (by decide +kernel) rfl) <|
  jx_all1 (sd_gR (pc := 116) kf_30 (f := 19) (q := (jx_f1 49 0)) (idx := 49) (by decide +kernel) rfl wd_829 rfl) <|
  jx_all1 (sd_aload_n (pc := 119) (q := 0) (by decide +kernel) rfl) <|
  jx_all1 (sd_gR (pc := 120) kf_30 (f := 3) (q := (jx_f1 33 0)) (idx := 7) (by decide +kernel) rfl wd_813 rfl) <|
  jx_all1 (sd_iload (pc := 123) (by decide +kernel)) <|
  jx_all1 (sd_iaload (pc := 125) (by decide +kernel)) <|
  jx_all1 (sd_iaload (pc := 126) (by decide +kernel)) <|
  jx_all1 (sd_aload_n (pc := 127) (q := 0) (by decide +kernel) rfl) <|
  jx_all1 (sd_gR (pc := 128) kf_30 (f := 19) (q := (jx_f1 49 0)) (idx := 49) (by decide +kernel) rfl wd_829 rfl) <|
  jx_all1 (sd_aload_n (pc := 131) (q := 0) (by decide +kernel) rfl) <|
  jx_all1 (sd_gR (pc := 132) kf_30 (f := 4) (q := (jx_f1 34 0)) (idx := 13) (by decide +kernel) rfl wd_814 rfl) <|
  jx_all1 (sd_iload (pc := 135) (by decide +kernel)) <|
  jx_all1 (sd_iaload (pc := 137) (by decide +kernel)) <|
  jx_all1 (sd_iaload (pc := 138) (by decide +kernel)) <|
  jx_all1 (sd_iceq (pc := 139) (off := 7) (by decide +kernel) (by decide +kernel)) <|
  jx_all1 (sd_iconst (pc := 142) (n := 1) (by decide +kernel) (by decide +kernel)) <|
  jx_all1 (sd_goto (pc := 143) (off := 4) (by decide +kernel) (by decide +kernel)) <|
  jx_all1 (sd_iconst (pc := 146) (n := 0) (by decide +kernel) (by decide +kernel)) <|
  jx_all1 (sd_iadd (pc := 147) (by decide +kernel)) <|
  jx_all1 (sd_istore_n (pc := 148) (q := 3) (by decide +kernel) rfl) <|
  jx_all1 (sd_iinc (pc := 149) (n := 1) (by decide +kernel) (by decide +kernel)) <|
  jx_all1 (sd_goto (pc := 152) (off := (-47)) (by decide +kernel) (by decide +kernel)) <|
  jx_all1 (sd_iload_n (pc := 155) (q := 3) (by decide +kernel) rfl) <|
  jx_all1 (sd_iload_n (pc := 156) (q := 2) (by decide +kernel) rfl) <|
  jx_all1 (sd_idiv (pc := 157) (by decide +kernel)) <|
  jx_all1 (sd_iload_n (pc := 158) (q := 1) (by decide +kernel) rfl) <|
  jx_all1 (sd_icge (pc := 159) (off := 9) (by decide +kernel) (by decide +kernel)) <|
  jx_all1 (sd_iload_n (pc := 162) (q := 3) (by decide +kernel) rfl) <|
  jx_all1 (sd_iload_n (pc := 163) (q := 2) (by decide +kernel) rfl) <|
  jx_all1 (sd_idiv (pc := 164) (by decide +kernel)) <|
  jx_all1 (sd_goto (pc := 165) (off := 4) (by decide +kernel) (by decide +kernel)) <|
  jx_all1 (sd_iload_n (pc := 168) (q := 1) (by decide +kernel) rfl) <|
  jx_all1 (sd_istore_n (pc := 169) (q := 1) (by decide +kernel) rfl) <|
  jx_all1 (sd_goto (pc := 170) (off := (-120)) (by decide +kernel) (by decide +kernel)) <|
  jx_all1 (sd_iload_n (pc := 173) (q := 1) (by decide +kernel) rfl) <|
  jx_all1 (sd_ireturn (pc := 174) (by decide +kernel) rfl) <|
  jx_all0
set_option maxRecDepth 100000 in
theorem sn_158 (D : jx_D) : jx_all (fun q => jx_Snd cX10_nextParts 4 RX10 (some .boolean) D q.1 q.2) (tb_158 D) := by
  unfold tb_158
  exact jx_all1 (sd_aload_n (pc := 0) (q := 0) (by decide +kernel) rfl) <|
  jx_all1 (sd_gI (pc := 1) kf_30 (f := 0) (q := jx_f0) (idx := 70) (by decide +kernel) rfl wd_810 rfl) <|
  jx_all1 (sd_iconst (pc := 4) (n := 1) (by decide +kernel) (by decide +kernel)) <|
  jx_all1 (sd_isub (pc := 5) (by decide +kernel)) <|
  jx_all1 (sd_istore_n (pc := 6) (q := 1) (by decide +kernel) rfl) <|
  jx_all1 (sd_iload_n (pc := 7) (q := 1) (by decide +kernel) rfl) <|
  jx_all1 (sd_ifle (pc := 8) (off := 92) (by decide +kernel) (by decide +kernel)) <|
  jx_all1 (sd_iconst (pc := 11) (n := 0) (by decide +kernel) (by decide +kernel)) <|
  jx_all1 (sd_istore_n (pc := 12) (q := 2) (by decide +kernel) rfl) <|
  jx_all1 (sd_iconst (pc := 13) (n := 0) (by decide +kernel) (by decide +kernel)) <|
  jx_all1 (sd_istore_n (pc := 14) (q := 3) (by decide +kernel) rfl) <|
  jx_all1 (sd_iload_n (pc := 15) (q := 3) (by decide +kernel) rfl) <|
  jx_all1 (sd_iload_n (pc := 16) (q := 1) (by decide +kernel) rfl) <|
  jx_all1 (sd_icge (pc := 17) (off := 30) (by decide +kernel) (by decide +kernel)) <|
  jx_all1 (sd_aload_n (pc := 20) (q := 0) (by decide +kernel) rfl) <|
  jx_all1 (sd_gR (pc := 21) kf_30 (f := 19) (q := (jx_f1 49 0)) (idx := 49) (by decide +kernel) rfl wd_829 rfl) <|
  jx_all1 (sd_iload_n (pc := 24) (q := 3) (by decide +kernel) rfl) <|
  jx_all1 (sd_iaload (pc := 25) (by decide +kernel)) <|
  jx_all1 (sd_iload_n (pc := 26) (q := 2) (by decide +kernel) rfl) <|
  jx_all1 (sd_icle (pc := 27) (off := 12) (by decide +kernel) (by decide +kernel)) <|
  jx_all1 (sd_aload_n (pc := 30) (q := 0) (by decide +kernel) rfl) <|
  jx_all1 (sd_gR (pc := 31) kf_30 (f := 19) (q := (jx_f1 49 0)) (idx := 49) (by decide +kernel) rfl wd_829 rfl) <|
  jx_all1 (sd_iload_n (pc := 34) (q := 3) (by decide +kernel) rfl) <|
  jx_all1 (sd_iaload (pc := 35) (by decide +kernel)) <|
  jx_all1 (sd_goto (pc := 36) (off := 4) (by decide +kernel) (by decide +kernel)) <|
  jx_all1 (sd_iload_n (pc := 39) (q := 2) (by decide +kernel) rfl) <|
  jx_all1 (sd_istore_n (pc := 40) (q := 2) (by decide +kernel) rfl) <|
  jx_all1 (sd_iinc (pc := 41) (n := 1) (by decide +kernel) (by decide +kernel)) <|
  jx_all1 (sd_goto (pc := 44) (off := (-29)) (by decide +kernel) (by decide +kernel)) <|
  jx_all1 (sd_aload_n (pc := 47) (q := 0) (by decide +kernel) rfl) <|
  jx_all1 (sd_gR (pc := 48) kf_30 (f := 19) (q := (jx_f1 49 0)) (idx := 49) (by decide +kernel) rfl wd_829 rfl) <|
  jx_all1 (sd_iload_n (pc := 51) (q := 1) (by decide +kernel) rfl) <|
  jx_all1 (sd_iaload (pc := 52) (by decide +kernel)) <|
  jx_all1 (sd_iload_n (pc := 53) (q := 2) (by decide +kernel) rfl) <|
  jx_all1 (sd_icgt (pc := 54) (off := 40) (by decide +kernel) (by decide +kernel)) <|
  jx_all1 (sd_aload_n (pc := 57) (q := 0) (by decide +kernel) rfl) <|
  jx_all1 (sd_gR (pc := 58) kf_30 (f := 19) (q := (jx_f1 49 0)) (idx := 49) (by decide +kernel) rfl wd_829 rfl) <|
  jx_all1 (sd_iload_n (pc := 61) (q := 1) (by decide +kernel) rfl) <|
  jx_all1 (sd_dup2 (pc := 62) (by decide +kernel)) <|
  jx_all1 (sd_iaload (pc := 63) (by decide +kernel)) <|
  jx_all1 (sd_iconst (pc := 64) (n := 1) (by decide +kernel) (by decide +kernel)) <|
  jx_all1 (sd_iadd (pc := 65) (by decide +kernel)) <|
  jx_all1 (sd_iastore (pc := 66) (by decide +kernel)) <|
  jx_all1 (sd_iload_n (pc := 67) (q := 1) (by decide +kernel) rfl) <|
  jx_all1 (sd_iconst (pc := 68) (n := 1) (by decide +kernel) (by decide +kernel)) <|
  jx_all1 (sd_iadd (pc := 69) (by decide +kernel)) <|
  jx_all1 (sd_istore_n (pc := 70) (q := 3) (by decide +kernel) rfl) <|
  jx_all1 (sd_iload_n (pc := 71) (q := 3) (by decide +kernel) rfl) <|
  jx_all1 (sd_aload_n (pc := 72) (q := 0) (by decide +kernel) rfl) <|
  jx_all1 (sd_gI (pc := 73) kf_30 (f := 0) (q := jx_f0) (idx := 70) (by decide +kernel) rfl wd_810 rfl) <|
  jx_all1 (sd_icge (pc := 76) (off := 16) (by decide +kernel) (by decide +kernel)) <|
  jx_all1 (sd_aload_n (pc := 79) (q := 0) (by decide +kernel) rfl) <|
  jx_all1 (sd_gR (pc := 80) kf_30 (f := 19) (q := (jx_f1 49 0)) (idx := 49) (by decide +kernel) rfl wd_829 rfl) <|
  jx_all1 (sd_iload_n (pc := 83) (q := 3) (by decide +kernel) rfl) <|
  jx_all1 (sd_iconst (pc := 84) (n := 0) (by decide +kernel) (by decide +kernel)) <|
  jx_all1 (sd_iastore (pc := 85) (by decide +kernel)) <|
  jx_all1 (sd_iinc (pc := 86) (n := 1) (by decide +kernel) (by decide +kernel)) <|
  jx_all1 (sd_goto (pc := 89) (off := (-18)) (by decide +kernel) (by decide +kernel)) <|
  jx_all1 (sd_iconst (pc := 92) (n := 1) (by decide +kernel) (by decide +kernel)) <|
  jx_all1 (sd_zreturn (pc := 93) (by decide +kernel) rfl) <|
  jx_all1 (sd_iinc (pc := 94) (n := (-1)) (by decide +kernel) (by decide +kernel)) <|
  jx_all1 (sd_goto (pc := 97) (off := (-90)) (by decide +kernel) (by decide +kernel)) <|
  jx_all1 (sd_iconst (pc := 100) (n := 0) (by decide +kernel) (by decide +kernel)) <|
  jx_all1 (sd_zreturn (pc := 101) (by decide +kernel) rfl) <|
  jx_all0
set_option maxRecDepth 100000 in
theorem sn_159 (D : jx_D) : jx_all (fun q => jx_Snd cX10_forests 5 RX10 (some .int) D q.1 q.2) (tb_159 D) := by
  unfold tb_159
  exact jx_all1 (sd_aload_n (pc := 0) (q := 0) (by decide +kernel) rfl) <|
  jx_all1 (sd_gI (pc := 1) kf_30 (f := 2) (q := jx_f0) (idx := 76) (by decide +kernel) rfl wd_812 rfl) <|
  jx_all1 (sd_ifeq (pc := 4) (off := 10) (by decide +kernel) (by decide +kernel)) <|
  jx_all1 (sd_aload_n (pc := 7) (q := 0) (by decide +kernel) rfl) <|
  jx_all1 (sd_bipush (pc := 8) (n := (-8)) (by decide +kernel) (by decide +kernel)) <|
  jx_all1 (sd_vI (pc := 10) (idx := 87) (kd := 30) (by decide +kernel) mf_111 wd_888 rfl rfl) <|
  jx_all1 (sd_ireturn (pc := 13) (by decide +kernel) rfl) <|
  jx_all1 (sd_iconst (pc := 14) (n := 0) (by decide +kernel) (by decide +kernel)) <|
  jx_all1 (sd_istore_n (pc := 15) (q := 1) (by decide +kernel) rfl) <|
  jx_all1 (sd_iconst (pc := 16) (n := 0) (by decide +kernel) (by decide +kernel)) <|
  jx_all1 (sd_istore_n (pc := 17) (q := 2) (by decide +kernel) rfl) <|
  jx_all1 (sd_iload_n (pc := 18) (q := 2) (by decide +kernel) rfl) <|
  jx_all1 (sd_aload_n (pc := 19) (q := 0) (by decide +kernel) rfl) <|
  jx_all1 (sd_vI (pc := 20) (idx := 127) (kd := 30) (by decide +kernel) mf_135 wd_982 rfl rfl) <|
  jx_all1 (sd_icgt (pc := 23) (off := 51) (by decide +kernel) (by decide +kernel)) <|
  jx_all1 (sd_iload_n (pc := 26) (q := 2) (by decide +kernel) rfl) <|
  jx_all1 (sd_cI (pc := 27) (idx := 141) (by decide +kernel) mf_140 (Or.inl wd_1001)) <|
  jx_all1 (sd_iconst (pc := 30) (n := 1) (by decide +kernel) (by decide +kernel)) <|
  jx_all1 (sd_isub (pc := 31) (by decide +kernel)) <|
  jx_all1 (sd_istore_n (pc := 32) (q := 3) (by decide +kernel) rfl) <|
  jx_all1 (sd_iload_n (pc := 33) (q := 3) (by decide +kernel) rfl) <|
  jx_all1 (sd_iconst (pc := 34) (n := 1) (by decide +kernel) (by decide +kernel)) <|
  jx_all1 (sd_icge (pc := 35) (off := 7) (by decide +kernel) (by decide +kernel)) <|
  jx_all1 (sd_iconst (pc := 38) (n := 0) (by decide +kernel) (by decide +kernel)) <|
  jx_all1 (sd_goto (pc := 39) (off := 14) (by decide +kernel) (by decide +kernel)) <|
  jx_all1 (sd_aload_n (pc := 42) (q := 0) (by decide +kernel) rfl) <|
  jx_all1 (sd_iload_n (pc := 43) (q := 2) (by decide +kernel) rfl) <|
  jx_all1 (sd_vI (pc := 44) (idx := 166) (kd := 30) (by decide +kernel) mf_160 wd_1081 rfl rfl) <|
  jx_all1 (sd_iload_n (pc := 47) (q := 3) (by decide +kernel) rfl) <|
  jx_all1 (sd_iadd (pc := 48) (by decide +kernel)) <|
  jx_all1 (sd_iconst (pc := 49) (n := 1) (by decide +kernel) (by decide +kernel)) <|
  jx_all1 (sd_isub (pc := 50) (by decide +kernel)) <|
  jx_all1 (sd_iload_n (pc := 51) (q := 3) (by decide +kernel) rfl) <|
  jx_all1 (sd_idiv (pc := 52) (by decide +kernel)) <|
  jx_all1 (sd_istore (pc := 53) (by decide +kernel)) <|
  jx_all1 (sd_iload (pc := 55) (by decide +kernel)) <|
  jx_all1 (sd_iload_n (pc := 57) (q := 1) (by decide +kernel) rfl) <|
  jx_all1 (sd_icle (pc := 58) (off := 8) (by decide +kernel) (by decide +kernel)) <|
  jx_all1 (sd_iload (pc := 61) (by decide +kernel)) <|
  jx_all1 (sd_goto (pc := 63) (off := 4) (by decide +kernel) (by decide +kernel)) <|
  jx_all1 (sd_iload_n (pc := 66) (q := 1) (by decide +kernel) rfl) <|
  jx_all1 (sd_istore_n (pc := 67) (q := 1) (by decide +kernel) rfl) <|
  jx_all1 (sd_iinc (pc := 68) (n := 1) (by decide +kernel) (by decide +kernel)) <|
  jx_all1 (sd_goto (pc := 71) (off := (-53)) (by decide +kernel) (by decide +kernel)) <|
  jx_all1 (sd_iload_n (pc := 74) (q := 1) (by decide +kernel) rfl) <|
  jx_all1 (sd_ireturn (pc := 75) (by decide +kernel) rfl) <|
  jx_all0
set_option maxRecDepth 100000 in
theorem sn_160 (D : jx_D) : jx_all (fun q => jx_Snd cX10_within 4 RX10 (some .int) D q.1 q.2) (tb_160 D) := by
  unfold tb_160
  exact jx_all1 (sd_iconst (pc := 0) (n := 0) (by decide +kernel) (by decide +kernel)) <|
  jx_all1 (sd_istore_n (pc := 1) (q := 2) (by decide +kernel) rfl) <|
  jx_all1 (sd_iconst (pc := 2) (n := 0) (by decide +kernel) (by decide +kernel)) <|
  jx_all1 (sd_istore_n (pc := 3) (q := 3) (by decide +kernel) rfl) <|
  jx_all1 (sd_iload_n (pc := 4) (q := 3) (by decide +kernel) rfl) <|
  jx_all1 (sd_aload_n (pc := 5) (q := 0) (by decide +kernel) rfl) <|
  jx_all1 (sd_gI (pc := 6) kf_30 (f := 1) (q := jx_f0) (idx := 73) (by decide +kernel) rfl wd_811 rfl) <|
  jx_all1 (sd_icge (pc := 9) (off := 43) (by decide +kernel) (by decide +kernel)) <|
  jx_all1 (sd_iload_n (pc := 12) (q := 2) (by decide +kernel) rfl) <|
  jx_all1 (sd_iload_n (pc := 13) (q := 1) (by decide +kernel) rfl) <|
  jx_all1 (sd_aload_n (pc := 14) (q := 0) (by decide +kernel) rfl) <|
  jx_all1 (sd_gR (pc := 15) kf_30 (f := 3) (q := (jx_f1 33 0)) (idx := 7) (by decide +kernel) rfl wd_813 rfl) <|
  jx_all1 (sd_iload_n (pc := 18) (q := 3) (by decide +kernel) rfl) <|
  jx_all1 (sd_iaload (pc := 19) (by decide +kernel)) <|
  jx_all1 (sd_cI (pc := 20) (idx := 123) (by decide +kernel) mf_136 (Or.inl wd_986)) <|
  jx_all1 (sd_ifeq (pc := 23) (off := 20) (by decide +kernel) (by decide +kernel)) <|
  jx_all1 (sd_iload_n (pc := 26) (q := 1) (by decide +kernel) rfl) <|
  jx_all1 (sd_aload_n (pc := 27) (q := 0) (by decide +kernel) rfl) <|
  jx_all1 (sd_gR (pc := 28) kf_30 (f := 4) (q := (jx_f1 34 0)) (idx := 13) (by decide +kernel) rfl wd_814 rfl) <|
  jx_all1 (sd_iload_n (pc := 31) (q := 3) (by decide +kernel) rfl) <|
  jx_all1 (sd_iaload (pc := 32) (by decide +kernel)) <|
  jx_all1 (sd_cI (pc := 33) (idx := 123) (by decide +kernel) mf_136 (Or.inl wd_986)) <|
  jx_all1 (sd_ifeq (pc := 36) (off := 7) (by decide +kernel) (by decide +kernel)) <|
  jx_all1 (sd_iconst (pc := 39) (n := 1) (by decide +kernel) (by decide +kernel)) <|
  jx_all1 (sd_goto (pc := 40) (off := 4) (by decide +kernel) (by decide +kernel)) <|
  jx_all1 (sd_iconst (pc := 43) (n := 0) (by decide +kernel) (by decide +kernel)) <|
  jx_all1 (sd_iadd (pc := 44) (by decide +kernel)) <|
  jx_all1 (sd_istore_n (pc := 45) (q := 2) (by decide +kernel) rfl) <|
  jx_all1 (sd_iinc (pc := 46) (n := 1) (by decide +kernel) (by decide +kernel)) <|
  jx_all1 (sd_goto (pc := 49) (off := (-45)) (by decide +kernel) (by decide +kernel)) <|
  jx_all1 (sd_iload_n (pc := 52) (q := 2) (by decide +kernel) rfl) <|
  jx_all1 (sd_ireturn (pc := 53) (by decide +kernel) rfl) <|
  jx_all0
set_option maxRecDepth 100000 in
theorem sn_161 (D : jx_D) : jx_all (fun q => jx_Snd cX10_trees 1 RX10 (some .long) D q.1 q.2) (tb_161 D) := by
  unfold tb_161
  exact jx_all1 (sd_aload_n (pc := 0) (q := 0) (by decide +kernel) rfl) <|
  jx_all1 (sd_gI (pc := 1) kf_30 (f := 2) (q := jx_f0) (idx := 76) (by decide +kernel) rfl wd_812 rfl) <|
  jx_all1 (sd_ifeq (pc := 4) (off := 11) (by decide +kernel) (by decide +kernel)) <|
  jx_all1 (sd_aload_n (pc := 7) (q := 0) (by decide +kernel) rfl) <|
  jx_all1 (sd_bipush (pc := 8) (n := (-8)) (by decide +kernel) (by decide +kernel)) <|
  jx_all1 (sd_vI (pc := 10) (idx := 87) (kd := 30) (by decide +kernel) mf_111 wd_888 rfl rfl) <|
  jx_all1 (sd_i2l (pc := 13) (by decide +kernel)) <|
  jx_all1 (sd_lreturn (pc := 14) (by decide +kernel) rfl) <|
  jx_all1 (sd_aload_n (pc := 15) (q := 0) (by decide +kernel) rfl) <|
  jx_all1 (sd_gI (pc := 16) kf_30 (f := 0) (q := jx_f0) (idx := 70) (by decide +kernel) rfl wd_810 rfl) <|
  jx_all1 (sd_iconst (pc := 19) (n := 2) (by decide +kernel) (by decide +kernel)) <|
  jx_all1 (sd_icge (pc := 20) (off := 9) (by decide +kernel) (by decide +kernel)) <|
  jx_all1 (sd_aload_n (pc := 23) (q := 0) (by decide +kernel) rfl) <|
  jx_all1 (sd_gI (pc := 24) kf_30 (f := 0) (q := jx_f0) (idx := 70) (by decide +kernel) rfl wd_810 rfl) <|
  jx_all1 (sd_i2l (pc := 27) (by decide +kernel)) <|
  jx_all1 (sd_lreturn (pc := 28) (by decide +kernel) rfl) <|
  jx_all1 (sd_aload_n (pc := 29) (q := 0) (by decide +kernel) rfl) <|
  jx_all1 (sd_aload_n (pc := 30) (q := 0) (by decide +kernel) rfl) <|
  jx_all1 (sd_gI (pc := 31) kf_30 (f := 0) (q := jx_f0) (idx := 70) (by decide +kernel) rfl wd_810 rfl) <|
  jx_all1 (sd_iconst (pc := 34) (n := 1) (by decide +kernel) (by decide +kernel)) <|
  jx_all1 (sd_isub (pc := 35) (by decide +kernel)) <|
  jx_all1 (sd_vL (pc := 36) (idx := 169) (kd := 30) (by decide +kernel) mf_162 wd_1089 rfl rfl) <|
  jx_all1 (sd_lreturn (pc := 39) (by decide +kernel) rfl) <|
  jx_all0
set_option maxRecDepth 100000 in
theorem sn_162 (D : jx_D) : jx_all (fun q => jx_Snd cX10_treesOf 7 RX10 (some .long) D q.1 q.2) (tb_162 D) := by
  unfold tb_162
  exact jx_all1 (sd_lconst (pc := 0) (n := 0) (by decide +kernel) (by decide +kernel)) <|
  jx_all1 (sd_lstore_n (pc := 1) (q := 2) (by decide +kernel) rfl) <|
  jx_all1 (sd_aload_n (pc := 2) (q := 0) (by decide +kernel) rfl) <|
  jx_all1 (sd_gR (pc := 3) kf_30 (f := 20) (q := (jx_f1 50 0)) (idx := 52) (by decide +kernel) rfl wd_830 rfl) <|
  jx_all1 (sd_astore (pc := 6) (by decide +kernel)) <|
  jx_all1 (sd_iconst (pc := 8) (n := 0) (by decide +kernel) (by decide +kernel)) <|
  jx_all1 (sd_istore (pc := 9) (by decide +kernel)) <|
  jx_all1 (sd_iconst (pc := 11) (n := 0) (by decide +kernel) (by decide +kernel)) <|
  jx_all1 (sd_istore (pc := 12) (by decide +kernel)) <|
  jx_all1 (sd_aload (pc := 14) (by decide +kernel)) <|
  jx_all1 (sd_iconst (pc := 16) (n := 0) (by decide +kernel) (by decide +kernel)) <|
  jx_all1 (sd_iconst (pc := 17) (n := 0) (by decide +kernel) (by decide +kernel)) <|
  jx_all1 (sd_iastore (pc := 18) (by decide +kernel)) <|
  jx_all1 (sd_iload (pc := 19) (by decide +kernel)) <|
  jx_all1 (sd_iflt (pc := 21) (off := 144) (by decide +kernel) (by decide +kernel)) <|
  jx_all1 (sd_iload (pc := 24) (by decide +kernel)) <|
  jx_all1 (sd_iload_n (pc := 26) (q := 1) (by decide +kernel) rfl) <|
  jx_all1 (sd_icne (pc := 27) (off := 60) (by decide +kernel) (by decide +kernel)) <|
  jx_all1 (sd_lload_n (pc := 30) (q := 2) (by decide +kernel) rfl) <|
  jx_all1 (sd_aload_n (pc := 31) (q := 0) (by decide +kernel) rfl) <|
  jx_all1 (sd_iconst (pc := 32) (n := 0) (by decide +kernel) (by decide +kernel)) <|
  jx_all1 (sd_iconst (pc := 33) (n := 0) (by decide +kernel) (by decide +kernel)) <|
  jx_all1 (sd_iload (pc := 34) (by decide +kernel)) <|
  jx_all1 (sd_vI (pc := 36) (idx := 150) (kd := 30) (by decide +kernel) mf_145 wd_1021 rfl rfl) <|
  jx_all1 (sd_aload_n (pc := 39) (q := 0) (by decide +kernel) rfl) <|
  jx_all1 (sd_vI (pc := 40) (idx := 127) (kd := 30) (by decide +kernel) mf_135 wd_982 rfl rfl) <|
  jx_all1 (sd_icne (pc := 43) (off := 7) (by decide +kernel) (by decide +kernel)) <|
  jx_all1 (sd_lconst (pc := 46) (n := 1) (by decide +kernel) (by decide +kernel)) <|
  jx_all1 (sd_goto (pc := 47) (off := 4) (by decide +kernel) (by decide +kernel)) <|
  jx_all1 (sd_lconst (pc := 50) (n := 0) (by decide +kernel) (by decide +kernel)) <|
  jx_all1 (sd_ladd (pc := 51) (by decide +kernel)) <|
  jx_all1 (sd_lstore_n (pc := 52) (q := 2) (by decide +kernel) rfl) <|
  jx_all1 (sd_iinc (pc := 53) (n := (-1)) (by decide +kernel) (by decide +kernel)) <|
  jx_all1 (sd_iload (pc := 56) (by decide +kernel)) <|
  jx_all1 (sd_iflt (pc := 58) (off := (-39)) (by decide +kernel) (by decide +kernel)) <|
  jx_all1 (sd_iload (pc := 61) (by decide +kernel)) <|
  jx_all1 (sd_iconst (pc := 63) (n := 1) (by decide +kernel) (by decide +kernel)) <|
  jx_all1 (sd_aload (pc := 64) (by decide +kernel)) <|
  jx_all1 (sd_iload (pc := 66) (by decide +kernel)) <|
  jx_all1 (sd_iaload (pc := 68) (by decide +kernel)) <|
  jx_all1 (sd_ishl (pc := 69) (by decide +kernel)) <|
  jx_all1 (sd_iconst (pc := 70) (n := (-1)) (by decide +kernel) (by decide +kernel)) <|
  jx_all1 (sd_ixor (pc := 71) (by decide +kernel)) <|
  jx_all1 (sd_iand (pc := 72) (by decide +kernel)) <|
  jx_all1 (sd_istore (pc := 73) (by decide +kernel)) <|
  jx_all1 (sd_aload (pc := 75) (by decide +kernel)) <|
  jx_all1 (sd_iload (pc := 77) (by decide +kernel)) <|
  jx_all1 (sd_dup2 (pc := 79) (by decide +kernel)) <|
  jx_all1 (sd_iaload (pc := 80) (by decide +kernel)) <|
  jx_all1 (sd_iconst (pc := 81) (n := 1) (by decide +kernel) (by decide +kernel)) <|
  jx_all1 (sd_iadd (pc := 82) (by decide +kernel)) <|
  jx_all1 (sd_iastore (pc := 83) (by decide +kernel)) <|
  jx_all1 (sd_goto (pc := 84) (off := (-65)) (by decide +kernel) (by decide +kernel)) <|
  jx_all1 (sd_aload (pc := 87) (by decide +kernel)) <|
  jx_all1 (sd_iload (pc := 89) (by decide +kernel)) <|
  jx_all1 (sd_iaload (pc := 91) (by decide +kernel)) <|
  jx_all1 (sd_aload_n (pc := 92) (q := 0) (by decide +kernel) rfl) <|
  jx_all1 (sd_gI (pc := 93) kf_30 (f := 1) (q := jx_f0) (idx := 73) (by decide +kernel) rfl wd_811 rfl) <|
  jx_all1 (sd_iclt (pc := 96) (off := 37) (by decide +kernel) (by decide +kernel)) <|
  jx_all1 (sd_iinc (pc := 99) (n := (-1)) (by decide +kernel) (by decide +kernel)) <|
  jx_all1 (sd_iload (pc := 102) (by decide +kernel)) <|
  jx_all1 (sd_iflt (pc := 104) (off := (-85)) (by decide +kernel) (by decide +kernel)) <|
  jx_all1 (sd_iload (pc := 107) (by decide +kernel)) <|
  jx_all1 (sd_iconst (pc := 109) (n := 1) (by decide +kernel) (by decide +kernel)) <|
  jx_all1 (sd_aload (pc := 110) (by decide +kernel)) <|
  jx_all1 (sd_iload (pc := 112) (by decide +kernel)) <|
  jx_all1 (sd_iaload (pc := 114) (by decide +kernel)) <|
  jx_all1 (sd_ishl (pc := 115) (by decide +kernel)) <|
  jx_all1 (sd_iconst (pc := 116) (n := (-1)) (by decide +kernel) (by decide +kernel)) <|
  jx_all1 (sd_ixor (pc := 117) (by decide +kernel)) <|
  jx_all1 (sd_iand (pc := 118) (by decide +kernel)) <|
  jx_all1 (sd_istore (pc := 119) (by decide +kernel)) <|
  jx_all1 (sd_aload (pc := 121) (by decide +kernel)) <|
  jx_all1 (sd_iload (pc := 123) (by decide +kernel)) <|
  jx_all1 (sd_dup2 (pc := 125) (by decide +kernel)) <|
  jx_all1 (sd_iaload (pc := 126) (by decide +kernel)) <|
  jx_all1 (sd_iconst (pc := 127) (n := 1) (by decide +kernel) (by decide +kernel)) <|
  jx_all1 (sd_iadd (pc := 128) (by decide +kernel)) <|
  jx_all1 (sd_iastore (pc := 129) (by decide +kernel)) <|
  jx_all1 (sd_goto (pc := 130) (off := (-111)) (by decide +kernel) (by decide +kernel)) <|
  jx_all1 (sd_iload (pc := 133) (by decide +kernel)) <|
  jx_all1 (sd_iconst (pc := 135) (n := 1) (by decide +kernel) (by decide +kernel)) <|
  jx_all1 (sd_aload (pc := 136) (by decide +kernel)) <|
  jx_all1 (sd_iload (pc := 138) (by decide +kernel)) <|
  jx_all1 (sd_iaload (pc := 140) (by decide +kernel)) <|
  jx_all1 (sd_ishl (pc := 141) (by decide +kernel)) <|
  jx_all1 (sd_ior (pc := 142) (by decide +kernel)) <|
  jx_all1 (sd_istore (pc := 143) (by decide +kernel)) <|
  jx_all1 (sd_aload (pc := 145) (by decide +kernel)) <|
  jx_all1 (sd_iload (pc := 147) (by decide +kernel)) <|
  jx_all1 (sd_iconst (pc := 149) (n := 1) (by decide +kernel) (by decide +kernel)) <|
  jx_all1 (sd_iadd (pc := 150) (by decide +kernel)) <|
  jx_all1 (sd_aload (pc := 151) (by decide +kernel)) <|
  jx_all1 (sd_iload (pc := 153) (by decide +kernel)) <|
  jx_all1 (sd_iaload (pc := 155) (by decide +kernel)) <|
  jx_all1 (sd_iconst (pc := 156) (n := 1) (by decide +kernel) (by decide +kernel)) <|
  jx_all1 (sd_iadd (pc := 157) (by decide +kernel)) <|
  jx_all1 (sd_iastore (pc := 158) (by decide +kernel)) <|
  jx_all1 (sd_iinc (pc := 159) (n := 1) (by decide +kernel) (by decide +kernel)) <|
  jx_all1 (sd_goto (pc := 162) (off := (-143)) (by decide +kernel) (by decide +kernel)) <|
  jx_all1 (sd_lload_n (pc := 165) (q := 2) (by decide +kernel) rfl) <|
  jx_all1 (sd_lreturn (pc := 166) (by decide +kernel) rfl) <|
  jx_all0
set_option maxRecDepth 100000 in
theorem sn_163 (D : jx_D) : jx_all (fun q => jx_Snd cX10_arms 5 RX10 (some .int) D q.1 q.2) (tb_163 D) := by
  unfold tb_163
  exact jx_all1 (sd_aload_n (pc := 0) (q := 0) (by decide +kernel) rfl) <|
  jx_all1 (sd_iload_n (pc := 1) (q := 1) (by decide +kernel) rfl) <|
  jx_all1 (sd_vI (pc := 2) (idx := 97) (kd := 30) (by decide +kernel) mf_118 wd_916 rfl rfl) <|
  jx_all1 (sd_ifne (pc := 5) (off := 9) (by decide +kernel) (by decide +kernel)) <|
  jx_all1 (sd_aload_n (pc := 8) (q := 0) (by decide +kernel) rfl) <|
  jx_all1 (sd_iconst (pc := 9) (n := (-1)) (by decide +kernel) (by decide +kernel)) <|
  jx_all1 (sd_vI (pc := 10) (idx := 87) (kd := 30) (by decide +kernel) mf_111 wd_888 rfl rfl) <|
  jx_all1 (sd_ireturn (pc := 13) (by decide +kernel) rfl) <|
  jx_all1 (sd_aload_n (pc := 14) (q := 0) (by decide +kernel) rfl) <|
  jx_all1 (sd_gI (pc := 15) kf_30 (f := 2) (q := jx_f0) (idx := 76) (by decide +kernel) rfl wd_812 rfl) <|
  jx_all1 (sd_ifne (pc := 18) (off := 10) (by decide +kernel) (by decide +kernel)) <|
  jx_all1 (sd_aload_n (pc := 21) (q := 0) (by decide +kernel) rfl) <|
  jx_all1 (sd_bipush (pc := 22) (n := (-4)) (by decide +kernel) (by decide +kernel)) <|
  jx_all1 (sd_vI (pc := 24) (idx := 87) (kd := 30) (by decide +kernel) mf_111 wd_888 rfl rfl) <|
  jx_all1 (sd_ireturn (pc := 27) (by decide +kernel) rfl) <|
  jx_all1 (sd_aload_n (pc := 28) (q := 0) (by decide +kernel) rfl) <|
  jx_all1 (sd_gI (pc := 29) kf_30 (f := 0) (q := jx_f0) (idx := 70) (by decide +kernel) rfl wd_810 rfl) <|
  jx_all1 (sd_iconst (pc := 32) (n := 1) (by decide +kernel) (by decide +kernel)) <|
  jx_all1 (sd_icne (pc := 33) (off := 10) (by decide +kernel) (by decide +kernel)) <|
  jx_all1 (sd_aload_n (pc := 36) (q := 0) (by decide +kernel) rfl) <|
  jx_all1 (sd_bipush (pc := 37) (n := (-3)) (by decide +kernel) (by decide +kernel)) <|
  jx_all1 (sd_vI (pc := 39) (idx := 87) (kd := 30) (by decide +kernel) mf_111 wd_888 rfl rfl) <|
  jx_all1 (sd_ireturn (pc := 42) (by decide +kernel) rfl) <|
  jx_all1 (sd_bipush (pc := 43) (n := 20) (by decide +kernel) (by decide +kernel)) <|
  jx_all1 (sd_istore_n (pc := 45) (q := 2) (by decide +kernel) rfl) <|
  jx_all1 (sd_iconst (pc := 46) (n := 0) (by decide +kernel) (by decide +kernel)) <|
  jx_all1 (sd_istore_n (pc := 47) (q := 3) (by decide +kernel) rfl) <|
  jx_all1 (sd_iload_n (pc := 48) (q := 3) (by decide +kernel) rfl) <|
  jx_all1 (sd_aload_n (pc := 49) (q := 0) (by decide +kernel) rfl) <|
  jx_all1 (sd_gI (pc := 50) kf_30 (f := 0) (q := jx_f0) (idx := 70) (by decide +kernel) rfl wd_810 rfl) <|
  jx_all1 (sd_icge (pc := 53) (off := 39) (by decide +kernel) (by decide +kernel)) <|
  jx_all1 (sd_iload_n (pc := 56) (q := 3) (by decide +kernel) rfl) <|
  jx_all1 (sd_iload_n (pc := 57) (q := 1) (by decide +kernel) rfl) <|
  jx_all1 (sd_icne (pc := 58) (off := 7) (by decide +kernel) (by decide +kernel)) <|
  jx_all1 (sd_iload_n (pc := 61) (q := 2) (by decide +kernel) rfl) <|
  jx_all1 (sd_goto (pc := 62) (off := 9) (by decide +kernel) (by decide +kernel)) <|
  jx_all1 (sd_aload_n (pc := 65) (q := 0) (by decide +kernel) rfl) <|
  jx_all1 (sd_iload_n (pc := 66) (q := 1) (by decide +kernel) rfl) <|
  jx_all1 (sd_iload_n (pc := 67) (q := 3) (by decide +kernel) rfl) <|
  jx_all1 (sd_vI (pc := 68) (idx := 137) (kd := 30) (by decide +kernel) mf_134 wd_978 rfl rfl) <|
  jx_all1 (sd_istore (pc := 71) (by decide +kernel)) <|
  jx_all1 (sd_iload (pc := 73) (by decide +kernel)) <|
  jx_all1 (sd_iload_n (pc := 75) (q := 2) (by decide +kernel) rfl) <|
  jx_all1 (sd_icge (pc := 76) (off := 8) (by decide +kernel) (by decide +kernel)) <|
  jx_all1 (sd_iload (pc := 79) (by decide +kernel)) <|
  jx_all1 (sd_goto (pc := 81) (off := 4) (by decide +kernel) (by decide +kernel)) <|
  jx_all1 (sd_iload_n (pc := 84) (q := 2) (by decide +kernel) rfl) <|
  jx_all1 (sd_istore_n (pc := 85) (q := 2) (by decide +kernel) rfl) <|
  jx_all1 (sd_iinc (pc := 86) (n := 1) (by decide +kernel) (by decide +kernel)) <|
  jx_all1 (sd_goto (pc := 89) (off := (-41)) (by decide +kernel) (by decide +kernel)) <|
  jx_all1 (sd_iload_n (pc := 92) (q := 2) (by decide +kernel) rfl) <|
  jx_all1 (sd_ireturn (pc := 93) (by decide +kernel) rfl) <|
  jx_all0
set_option maxRecDepth 100000 in
theorem sn_164 (D : jx_D) : jx_all (fun q => jx_Snd cX10_turns 1 RX10 (some .int) D q.1 q.2) (tb_164 D) := by
  unfold tb_164
  exact jx_all1 (sd_aload_n (pc := 0) (q := 0) (by decide +kernel) rfl) <|
  jx_all1 (sd_gI (pc := 1) kf_30 (f := 2) (q := jx_f0) (idx := 76) (by decide +kernel) rfl wd_812 rfl) <|
  jx_all1 (sd_ifeq (pc := 4) (off := 10) (by decide +kernel) (by decide +kernel)) <|
  jx_all1 (sd_aload_n (pc := 7) (q := 0) (by decide +kernel) rfl) <|
  jx_all1 (sd_bipush (pc := 8) (n := (-8)) (by decide +kernel) (by decide +kernel)) <|
  jx_all1 (sd_vI (pc := 10) (idx := 87) (kd := 30) (by decide +kernel) mf_111 wd_888 rfl rfl) <|
  jx_all1 (sd_ireturn (pc := 13) (by decide +kernel) rfl) <|
  jx_all1 (sd_aload_n (pc := 14) (q := 0) (by decide +kernel) rfl) <|
  jx_all1 (sd_gI (pc := 15) kf_30 (f := 1) (q := jx_f0) (idx := 73) (by decide +kernel) rfl wd_811 rfl) <|
  jx_all1 (sd_ifne (pc := 18) (off := 12) (by decide +kernel) (by decide +kernel)) <|
  jx_all1 (sd_aload_n (pc := 21) (q := 0) (by decide +kernel) rfl) <|
  jx_all1 (sd_bipush (pc := 22) (n := (-6)) (by decide +kernel) (by decide +kernel)) <|
  jx_all1 (sd_vI (pc := 24) (idx := 87) (kd := 30) (by decide +kernel) mf_111 wd_888 rfl rfl) <|
  jx_all1 (sd_goto (pc := 27) (off := 7) (by decide +kernel) (by decide +kernel)) <|
  jx_all1 (sd_aload_n (pc := 30) (q := 0) (by decide +kernel) rfl) <|
  jx_all1 (sd_vI (pc := 31) (idx := 173) (kd := 30) (by decide +kernel) mf_165 wd_1101 rfl rfl) <|
  jx_all1 (sd_ireturn (pc := 34) (by decide +kernel) rfl) <|
  jx_all0
set_option maxRecDepth 100000 in
theorem sn_165 (D : jx_D) : jx_all (fun q => jx_Snd cX10_turnAll 8 RX10 (some .int) D q.1 q.2) (tb_165 D) := by
  unfold tb_165
  exact jx_all1 (sd_iconst (pc := 0) (n := 0) (by decide +kernel) (by decide +kernel)) <|
  jx_all1 (sd_istore_n (pc := 1) (q := 1) (by decide +kernel) rfl) <|
  jx_all1 (sd_iconst (pc := 2) (n := 0) (by decide +kernel) (by decide +kernel)) <|
  jx_all1 (sd_istore_n (pc := 3) (q := 2) (by decide +kernel) rfl) <|
  jx_all1 (sd_iconst (pc := 4) (n := 0) (by decide +kernel) (by decide +kernel)) <|
  jx_all1 (sd_istore_n (pc := 5) (q := 3) (by decide +kernel) rfl) <|
  jx_all1 (sd_iload_n (pc := 6) (q := 3) (by decide +kernel) rfl) <|
  jx_all1 (sd_aload_n (pc := 7) (q := 0) (by decide +kernel) rfl) <|
  jx_all1 (sd_gI (pc := 8) kf_30 (f := 0) (q := jx_f0) (idx := 70) (by decide +kernel) rfl wd_810 rfl) <|
  jx_all1 (sd_icge (pc := 11) (off := 16) (by decide +kernel) (by decide +kernel)) <|
  jx_all1 (sd_aload_n (pc := 14) (q := 0) (by decide +kernel) rfl) <|
  jx_all1 (sd_gR (pc := 15) kf_30 (f := 21) (q := (jx_f1 51 0)) (idx := 55) (by decide +kernel) rfl wd_831 rfl) <|
  jx_all1 (sd_iload_n (pc := 18) (q := 3) (by decide +kernel) rfl) <|
  jx_all1 (sd_iconst (pc := 19) (n := 1) (by decide +kernel) (by decide +kernel)) <|
  jx_all1 (sd_bastore (pc := 20) (by decide +kernel)) <|
  jx_all1 (sd_iinc (pc := 21) (n := 1) (by decide +kernel) (by decide +kernel)) <|
  jx_all1 (sd_goto (pc := 24) (off := (-18)) (by decide +kernel) (by decide +kernel)) <|
  jx_all1 (sd_iconst (pc := 27) (n := 0) (by decide +kernel) (by decide +kernel)) <|
  jx_all1 (sd_istore_n (pc := 28) (q := 3) (by decide +kernel) rfl) <|
  jx_all1 (sd_iload_n (pc := 29) (q := 3) (by decide +kernel) rfl) <|
  jx_all1 (sd_aload_n (pc := 30) (q := 0) (by decide +kernel) rfl) <|
  jx_all1 (sd_gI (pc := 31) kf_30 (f := 0) (q := jx_f0) (idx := 70) (by decide +kernel) rfl wd_810 rfl) <|
  jx_all1 (sd_icge (pc := 34) (off := 224) (by decide +kernel) (by decide +kernel)) <|
  jx_all1 (sd_aload_n (pc := 37) (q := 0) (by decide +kernel) rfl) <|
  jx_all1 (sd_gR (pc := 38) kf_30 (f := 21) (q := (jx_f1 51 0)) (idx := 55) (by decide +kernel) rfl wd_831 rfl) <|
  jx_all1 (sd_iload_n (pc := 41) (q := 3) (by decide +kernel) rfl) <|
  jx_all1 (sd_baload (pc := 42) (by decide +kernel)) <|
  jx_all1 (sd_ifeq (pc := 43) (off := 7) (by decide +kernel) (by decide +kernel)) <|
  jx_all1 (sd_iconst (pc := 46) (n := 1) (by decide +kernel) (by decide +kernel)) <|
  jx_all1 (sd_goto (pc := 47) (off := 4) (by decide +kernel) (by decide +kernel)) <|
  jx_all1 (sd_iconst (pc := 50) (n := 0) (by decide +kernel) (by decide +kernel)) <|
  jx_all1 (sd_istore (pc := 51) (by decide +kernel)) <|
  jx_all1 (sd_aload_n (pc := 53) (q := 0) (by decide +kernel) rfl) <|
  jx_all1 (sd_gR (pc := 54) kf_30 (f := 22) (q := (jx_f1 52 0)) (idx := 59) (by decide +kernel) rfl wd_832 rfl) <|
  jx_all1 (sd_iconst (pc := 57) (n := 0) (by decide +kernel) (by decide +kernel)) <|
  jx_all1 (sd_iload_n (pc := 58) (q := 3) (by decide +kernel) rfl) <|
  jx_all1 (sd_iastore (pc := 59) (by decide +kernel)) <|
  jx_all1 (sd_aload_n (pc := 60) (q := 0) (by decide +kernel) rfl) <|
  jx_all1 (sd_gR (pc := 61) kf_30 (f := 21) (q := (jx_f1 51 0)) (idx := 55) (by decide +kernel) rfl wd_831 rfl) <|
  jx_all1 (sd_iload_n (pc := 64) (q := 3) (by decide +kernel) rfl) <|
  jx_all1 (sd_iconst (pc := 65) (n := 0) (by decide +kernel) (by decide +kernel)) <|
  jx_all1 (sd_bastore (pc := 66) (by decide +kernel)) <|
  jx_all1 (sd_iload (pc := 67) (by decide +kernel)) <|
  jx_all1 (sd_ifle (pc := 69) (off := 183) (by decide +kernel) (by decide +kernel)) <|
  jx_all1 (sd_aload_n (pc := 72) (q := 0) (by decide +kernel) rfl) <|
  jx_all1 (sd_gR (pc := 73) kf_30 (f := 22) (q := (jx_f1 52 0)) (idx := 59) (by decide +kernel) rfl wd_832 rfl) <|
  jx_all1 (sd_iload (pc := 76) (by decide +kernel)) <|
  jx_all1 (sd_iconst (pc := 78) (n := 1) (by decide +kernel) (by decide +kernel)) <|
  jx_all1 (sd_isub (pc := 79) (by decide +kernel)) <|
  jx_all1 (sd_iaload (pc := 80) (by decide +kernel)) <|
  jx_all1 (sd_istore (pc := 81) (by decide +kernel)) <|
  jx_all1 (sd_iconst (pc := 83) (n := (-1)) (by decide +kernel) (by decide +kernel)) <|
  jx_all1 (sd_istore (pc := 84) (by decide +kernel)) <|
  jx_all1 (sd_aload_n (pc := 86) (q := 0) (by decide +kernel) rfl) <|
  jx_all1 (sd_gI (pc := 87) kf_30 (f := 1) (q := jx_f0) (idx := 73) (by decide +kernel) rfl wd_811 rfl) <|
  jx_all1 (sd_iconst (pc := 90) (n := 1) (by decide +kernel) (by decide +kernel)) <|
  jx_all1 (sd_isub (pc := 91) (by decide +kernel)) <|
  jx_all1 (sd_istore (pc := 92) (by decide +kernel)) <|
  jx_all1 (sd_iload (pc := 94) (by decide +kernel)) <|
  jx_all1 (sd_iflt (pc := 96) (off := 51) (by decide +kernel) (by decide +kernel)) <|
  jx_all1 (sd_iload_n (pc := 99) (q := 2) (by decide +kernel) rfl) <|
  jx_all1 (sd_iload (pc := 100) (by decide +kernel)) <|
  jx_all1 (sd_cI (pc := 102) (idx := 123) (by decide +kernel) mf_136 (Or.inl wd_986)) <|
  jx_all1 (sd_ifne (pc := 105) (off := 32) (by decide +kernel) (by decide +kernel)) <|
  jx_all1 (sd_aload_n (pc := 108) (q := 0) (by decide +kernel) rfl) <|
  jx_all1 (sd_gR (pc := 109) kf_30 (f := 3) (q := (jx_f1 33 0)) (idx := 7) (by decide +kernel) rfl wd_813 rfl) <|
  jx_all1 (sd_iload (pc := 112) (by decide +kernel)) <|
  jx_all1 (sd_iaload (pc := 114) (by decide +kernel)) <|
  jx_all1 (sd_iload (pc := 115) (by decide +kernel)) <|
  jx_all1 (sd_iceq (pc := 117) (off := 15) (by decide +kernel) (by decide +kernel)) <|
  jx_all1 (sd_aload_n (pc := 120) (q := 0) (by decide +kernel) rfl) <|
  jx_all1 (sd_gR (pc := 121) kf_30 (f := 4) (q := (jx_f1 34 0)) (idx := 13) (by decide +kernel) rfl wd_814 rfl) <|
  jx_all1 (sd_iload (pc := 124) (by decide +kernel)) <|
  jx_all1 (sd_iaload (pc := 126) (by decide +kernel)) <|
  jx_all1 (sd_iload (pc := 127) (by decide +kernel)) <|
  jx_all1 (sd_icne (pc := 129) (off := 8) (by decide +kernel) (by decide +kernel)) <|
  jx_all1 (sd_iload (pc := 132) (by decide +kernel)) <|
  jx_all1 (sd_goto (pc := 134) (off := 5) (by decide +kernel) (by decide +kernel)) <|
  jx_all1 (sd_iload (pc := 137) (by decide +kernel)) <|
  jx_all1 (sd_istore (pc := 139) (by decide +kernel)) <|
  jx_all1 (sd_iinc (pc := 141) (n := (-1)) (by decide +kernel) (by decide +kernel)) <|
  jx_all1 (sd_goto (pc := 144) (off := (-50)) (by decide +kernel) (by decide +kernel)) <|
  jx_all1 (sd_iload (pc := 147) (by decide +kernel)) <|
  jx_all1 (sd_ifge (pc := 149) (off := 9) (by decide +kernel) (by decide +kernel)) <|
  jx_all1 (sd_iinc (pc := 152) (n := (-1)) (by decide +kernel) (by decide +kernel)) <|
  jx_all1 (sd_goto (pc := 155) (off := 94) (by decide +kernel) (by decide +kernel)) <|
  jx_all1 (sd_iload_n (pc := 158) (q := 2) (by decide +kernel) rfl) <|
  jx_all1 (sd_iconst (pc := 159) (n := 1) (by decide +kernel) (by decide +kernel)) <|
  jx_all1 (sd_iload (pc := 160) (by decide +kernel)) <|
  jx_all1 (sd_ishl (pc := 162) (by decide +kernel)) <|
  jx_all1 (sd_ior (pc := 163) (by decide +kernel)) <|
  jx_all1 (sd_istore_n (pc := 164) (q := 2) (by decide +kernel) rfl) <|
  jx_all1 (sd_iload_n (pc := 165) (q := 1) (by decide +kernel) rfl) <|
  jx_all1 (sd_aload_n (pc := 166) (q := 0) (by decide +kernel) rfl) <|
  jx_all1 (sd_gR (pc := 167) kf_30 (f := 4) (q := (jx_f1 34 0)) (idx := 13) (by decide +kernel) rfl wd_814 rfl) <|
  jx_all1 (sd_iload (pc := 170) (by decide +kernel)) <|
  jx_all1 (sd_iaload (pc := 172) (by decide +kernel)) <|
  jx_all1 (sd_iload (pc := 173) (by decide +kernel)) <|
  jx_all1 (sd_icne (pc := 175) (off := 10) (by decide +kernel) (by decide +kernel)) <|
  jx_all1 (sd_iconst (pc := 178) (n := 1) (by decide +kernel) (by decide +kernel)) <|
  jx_all1 (sd_iload (pc := 179) (by decide +kernel)) <|
  jx_all1 (sd_ishl (pc := 181) (by decide +kernel)) <|
  jx_all1 (sd_goto (pc := 182) (off := 4) (by decide +kernel) (by decide +kernel)) <|
  jx_all1 (sd_iconst (pc := 185) (n := 0) (by decide +kernel) (by decide +kernel)) <|
  jx_all1 (sd_ior (pc := 186) (by decide +kernel)) <|
  jx_all1 (sd_istore_n (pc := 187) (q := 1) (by decide +kernel) rfl) <|
  jx_all1 (sd_aload_n (pc := 188) (q := 0) (by decide +kernel) rfl) <|
  jx_all1 (sd_gR (pc := 189) kf_30 (f := 3) (q := (jx_f1 33 0)) (idx := 7) (by decide +kernel) rfl wd_813 rfl) <|
  jx_all1 (sd_iload (pc := 192) (by decide +kernel)) <|
  jx_all1 (sd_iaload (pc := 194) (by decide +kernel)) <|
  jx_all1 (sd_iload (pc := 195) (by decide +kernel)) <|
  jx_all1 (sd_icne (pc := 197) (off := 13) (by decide +kernel) (by decide +kernel)) <|
  jx_all1 (sd_aload_n (pc := 200) (q := 0) (by decide +kernel) rfl) <|
  jx_all1 (sd_gR (pc := 201) kf_30 (f := 4) (q := (jx_f1 34 0)) (idx := 13) (by decide +kernel) rfl wd_814 rfl) <|
  jx_all1 (sd_iload (pc := 204) (by decide +kernel)) <|
  jx_all1 (sd_iaload (pc := 206) (by decide +kernel)) <|
  jx_all1 (sd_goto (pc := 207) (off := 10) (by decide +kernel) (by decide +kernel)) <|
  jx_all1 (sd_aload_n (pc := 210) (q := 0) (by decide +kernel) rfl) <|
  jx_all1 (sd_gR (pc := 211) kf_30 (f := 3) (q := (jx_f1 33 0)) (idx := 7) (by decide +kernel) rfl wd_813 rfl) <|
  jx_all1 (sd_iload (pc := 214) (by decide +kernel)) <|
  jx_all1 (sd_iaload (pc := 216) (by decide +kernel)) <|
  jx_all1 (sd_istore (pc := 217) (by decide +kernel)) <|
  jx_all1 (sd_aload_n (pc := 219) (q := 0) (by decide +kernel) rfl) <|
  jx_all1 (sd_gR (pc := 220) kf_30 (f := 21) (q := (jx_f1 51 0)) (idx := 55) (by decide +kernel) rfl wd_831 rfl) <|
  jx_all1 (sd_iload (pc := 223) (by decide +kernel)) <|
  jx_all1 (sd_baload (pc := 225) (by decide +kernel)) <|
  jx_all1 (sd_ifeq (pc := 226) (off := 23) (by decide +kernel) (by decide +kernel)) <|
  jx_all1 (sd_aload_n (pc := 229) (q := 0) (by decide +kernel) rfl) <|
  jx_all1 (sd_gR (pc := 230) kf_30 (f := 21) (q := (jx_f1 51 0)) (idx := 55) (by decide +kernel) rfl wd_831 rfl) <|
  jx_all1 (sd_iload (pc := 233) (by decide +kernel)) <|
  jx_all1 (sd_iconst (pc := 235) (n := 0) (by decide +kernel) (by decide +kernel)) <|
  jx_all1 (sd_bastore (pc := 236) (by decide +kernel)) <|
  jx_all1 (sd_aload_n (pc := 237) (q := 0) (by decide +kernel) rfl) <|
  jx_all1 (sd_gR (pc := 238) kf_30 (f := 22) (q := (jx_f1 52 0)) (idx := 59) (by decide +kernel) rfl wd_832 rfl) <|
  jx_all1 (sd_iload (pc := 241) (by decide +kernel)) <|
  jx_all1 (sd_iload (pc := 243) (by decide +kernel)) <|
  jx_all1 (sd_iastore (pc := 245) (by decide +kernel)) <|
  jx_all1 (sd_iinc (pc := 246) (n := 1) (by decide +kernel) (by decide +kernel)) <|
  jx_all1 (sd_goto (pc := 249) (off := (-182)) (by decide +kernel) (by decide +kernel)) <|
  jx_all1 (sd_iinc (pc := 252) (n := 1) (by decide +kernel) (by decide +kernel)) <|
  jx_all1 (sd_goto (pc := 255) (off := (-226)) (by decide +kernel) (by decide +kernel)) <|
  jx_all1 (sd_iload_n (pc := 258) (q := 1) (by decide +kernel) rfl) <|
  jx_all1 (sd_ireturn (pc := 259) (by decide +kernel) rfl) <|
  jx_all0
set_option maxRecDepth 100000 in
theorem sn_166 (D : jx_D) : jx_all (fun q => jx_Snd cX10_strong 3 RX10 (some .int) D q.1 q.2) (tb_166 D) := by
  unfold tb_166
  exact jx_all1 (sd_aload_n (pc := 0) (q := 0) (by decide +kernel) rfl) <|
  jx_all1 (sd_gI (pc := 1) kf_30 (f := 2) (q := jx_f0) (idx := 76) (by decide +kernel) rfl wd_812 rfl) <|
  jx_all1 (sd_ifeq (pc := 4) (off := 10) (by decide +kernel) (by decide +kernel)) <|
  jx_all1 (sd_aload_n (pc := 7) (q := 0) (by decide +kernel) rfl) <|
  jx_all1 (sd_bipush (pc := 8) (n := (-8)) (by decide +kernel) (by decide +kernel)) <|
  jx_all1 (sd_vI (pc := 10) (idx := 87) (kd := 30) (by decide +kernel) mf_111 wd_888 rfl rfl) <|
  jx_all1 (sd_ireturn (pc := 13) (by decide +kernel) rfl) <|
  jx_all1 (sd_aload_n (pc := 14) (q := 0) (by decide +kernel) rfl) <|
  jx_all1 (sd_vI (pc := 15) (idx := 173) (kd := 30) (by decide +kernel) mf_165 wd_1101 rfl rfl) <|
  jx_all1 (sd_istore_n (pc := 18) (q := 1) (by decide +kernel) rfl) <|
  jx_all1 (sd_aload_n (pc := 19) (q := 0) (by decide +kernel) rfl) <|
  jx_all1 (sd_iload_n (pc := 20) (q := 1) (by decide +kernel) rfl) <|
  jx_all1 (sd_vV (pc := 21) (idx := 176) (kd := 30) (by decide +kernel) mf_167 wd_1109 rfl rfl) <|
  jx_all1 (sd_aload_n (pc := 24) (q := 0) (by decide +kernel) rfl) <|
  jx_all1 (sd_iconst (pc := 25) (n := 1) (by decide +kernel) (by decide +kernel)) <|
  jx_all1 (sd_pZ (pc := 26) kf_30 (f := 2) (q := jx_f0) (idx := 76) (by decide +kernel) rfl wd_812 rfl rfl rfl) <|
  jx_all1 (sd_aload_n (pc := 29) (q := 0) (by decide +kernel) rfl) <|
  jx_all1 (sd_iconst (pc := 30) (n := 0) (by decide +kernel) (by decide +kernel)) <|
  jx_all1 (sd_aload_n (pc := 31) (q := 0) (by decide +kernel) rfl) <|
  jx_all1 (sd_vI (pc := 32) (idx := 131) (kd := 30) (by decide +kernel) mf_137 wd_989 rfl rfl) <|
  jx_all1 (sd_vI (pc := 35) (idx := 153) (kd := 30) (by decide +kernel) mf_148 wd_1033 rfl rfl) <|
  jx_all1 (sd_istore_n (pc := 38) (q := 2) (by decide +kernel) rfl) <|
  jx_all1 (sd_aload_n (pc := 39) (q := 0) (by decide +kernel) rfl) <|
  jx_all1 (sd_iconst (pc := 40) (n := 0) (by decide +kernel) (by decide +kernel)) <|
  jx_all1 (sd_pZ (pc := 41) kf_30 (f := 2) (q := jx_f0) (idx := 76) (by decide +kernel) rfl wd_812 rfl rfl rfl) <|
  jx_all1 (sd_aload_n (pc := 44) (q := 0) (by decide +kernel) rfl) <|
  jx_all1 (sd_iload_n (pc := 45) (q := 1) (by decide +kernel) rfl) <|
  jx_all1 (sd_vV (pc := 46) (idx := 176) (kd := 30) (by decide +kernel) mf_167 wd_1109 rfl rfl) <|
  jx_all1 (sd_iload_n (pc := 49) (q := 2) (by decide +kernel) rfl) <|
  jx_all1 (sd_ifeq (pc := 50) (off := 7) (by decide +kernel) (by decide +kernel)) <|
  jx_all1 (sd_iconst (pc := 53) (n := 1) (by decide +kernel) (by decide +kernel)) <|
  jx_all1 (sd_goto (pc := 54) (off := 4) (by decide +kernel) (by decide +kernel)) <|
  jx_all1 (sd_iconst (pc := 57) (n := 0) (by decide +kernel) (by decide +kernel)) <|
  jx_all1 (sd_ireturn (pc := 58) (by decide +kernel) rfl) <|
  jx_all0
set_option maxRecDepth 100000 in
theorem sn_167 (D : jx_D) : jx_all (fun q => jx_Snd cX10_swapEnds 4 RX10 none D q.1 q.2) (tb_167 D) := by
  unfold tb_167
  exact jx_all1 (sd_iconst (pc := 0) (n := 0) (by decide +kernel) (by decide +kernel)) <|
  jx_all1 (sd_istore_n (pc := 1) (q := 2) (by decide +kernel) rfl) <|
  jx_all1 (sd_iload_n (pc := 2) (q := 2) (by decide +kernel) rfl) <|
  jx_all1 (sd_aload_n (pc := 3) (q := 0) (by decide +kernel) rfl) <|
  jx_all1 (sd_gI (pc := 4) kf_30 (f := 1) (q := jx_f0) (idx := 73) (by decide +kernel) rfl wd_811 rfl) <|
  jx_all1 (sd_icge (pc := 7) (off := 43) (by decide +kernel) (by decide +kernel)) <|
  jx_all1 (sd_iload_n (pc := 10) (q := 1) (by decide +kernel) rfl) <|
  jx_all1 (sd_iload_n (pc := 11) (q := 2) (by decide +kernel) rfl) <|
  jx_all1 (sd_cI (pc := 12) (idx := 123) (by decide +kernel) mf_136 (Or.inl wd_986)) <|
  jx_all1 (sd_ifeq (pc := 15) (off := 29) (by decide +kernel) (by decide +kernel)) <|
  jx_all1 (sd_aload_n (pc := 18) (q := 0) (by decide +kernel) rfl) <|
  jx_all1 (sd_gR (pc := 19) kf_30 (f := 3) (q := (jx_f1 33 0)) (idx := 7) (by decide +kernel) rfl wd_813 rfl) <|
  jx_all1 (sd_iload_n (pc := 22) (q := 2) (by decide +kernel) rfl) <|
  jx_all1 (sd_iaload (pc := 23) (by decide +kernel)) <|
  jx_all1 (sd_istore_n (pc := 24) (q := 3) (by decide +kernel) rfl) <|
  jx_all1 (sd_aload_n (pc := 25) (q := 0) (by decide +kernel) rfl) <|
  jx_all1 (sd_gR (pc := 26) kf_30 (f := 3) (q := (jx_f1 33 0)) (idx := 7) (by decide +kernel) rfl wd_813 rfl) <|
  jx_all1 (sd_iload_n (pc := 29) (q := 2) (by decide +kernel) rfl) <|
  jx_all1 (sd_aload_n (pc := 30) (q := 0) (by decide +kernel) rfl) <|
  jx_all1 (sd_gR (pc := 31) kf_30 (f := 4) (q := (jx_f1 34 0)) (idx := 13) (by decide +kernel) rfl wd_814 rfl) <|
  jx_all1 (sd_iload_n (pc := 34) (q := 2) (by decide +kernel) rfl) <|
  jx_all1 (sd_iaload (pc := 35) (by decide +kernel)) <|
  jx_all1 (sd_iastore (pc := 36) (by decide +kernel)) <|
  jx_all1 (sd_aload_n (pc := 37) (q := 0) (by decide +kernel) rfl) <|
  jx_all1 (sd_gR (pc := 38) kf_30 (f := 4) (q := (jx_f1 34 0)) (idx := 13) (by decide +kernel) rfl wd_814 rfl) <|
  jx_all1 (sd_iload_n (pc := 41) (q := 2) (by decide +kernel) rfl) <|
  jx_all1 (sd_iload_n (pc := 42) (q := 3) (by decide +kernel) rfl) <|
  jx_all1 (sd_iastore (pc := 43) (by decide +kernel)) <|
  jx_all1 (sd_iinc (pc := 44) (n := 1) (by decide +kernel) (by decide +kernel)) <|
  jx_all1 (sd_goto (pc := 47) (off := (-45)) (by decide +kernel) (by decide +kernel)) <|
  jx_all1 (sd_return (pc := 50) (by decide +kernel) rfl) <|
  jx_all0
set_option maxRecDepth 100000 in
theorem sn_168 (D : jx_D) : jx_all (fun q => jx_Snd cX10_chance 1 RX10 (some .long) D q.1 q.2) (tb_168 D) := by
  unfold tb_168
  exact jx_all1 (sd_aload_n (pc := 0) (q := 0) (by decide +kernel) rfl) <|
  jx_all1 (sd_gI (pc := 1) kf_30 (f := 2) (q := jx_f0) (idx := 76) (by decide +kernel) rfl wd_812 rfl) <|
  jx_all1 (sd_ifeq (pc := 4) (off := 20) (by decide +kernel) (by decide +kernel)) <|
  jx_all1 (sd_aload_n (pc := 7) (q := 0) (by decide +kernel) rfl) <|
  jx_all1 (sd_gI (pc := 8) kf_30 (f := 1) (q := jx_f0) (idx := 73) (by decide +kernel) rfl wd_811 rfl) <|
  jx_all1 (sd_bipush (pc := 11) (n := 12) (by decide +kernel) (by decide +kernel)) <|
  jx_all1 (sd_icle (pc := 13) (off := 11) (by decide +kernel) (by decide +kernel)) <|
  jx_all1 (sd_aload_n (pc := 16) (q := 0) (by decide +kernel) rfl) <|
  jx_all1 (sd_bipush (pc := 17) (n := (-7)) (by decide +kernel) (by decide +kernel)) <|
  jx_all1 (sd_vI (pc := 19) (idx := 87) (kd := 30) (by decide +kernel) mf_111 wd_888 rfl rfl) <|
  jx_all1 (sd_i2l (pc := 22) (by decide +kernel)) <|
  jx_all1 (sd_lreturn (pc := 23) (by decide +kernel) rfl) <|
  jx_all1 (sd_aload_n (pc := 24) (q := 0) (by decide +kernel) rfl) <|
  jx_all1 (sd_gI (pc := 25) kf_30 (f := 0) (q := jx_f0) (idx := 70) (by decide +kernel) rfl wd_810 rfl) <|
  jx_all1 (sd_ifne (pc := 28) (off := 7) (by decide +kernel) (by decide +kernel)) <|
  jx_all1 (sd_lconst (pc := 31) (n := 0) (by decide +kernel) (by decide +kernel)) <|
  jx_all1 (sd_goto (pc := 32) (off := 21) (by decide +kernel) (by decide +kernel)) <|
  jx_all1 (sd_aload_n (pc := 35) (q := 0) (by decide +kernel) rfl) <|
  jx_all1 (sd_gI (pc := 36) kf_30 (f := 2) (q := jx_f0) (idx := 76) (by decide +kernel) rfl wd_812 rfl) <|
  jx_all1 (sd_ifeq (pc := 39) (off := 10) (by decide +kernel) (by decide +kernel)) <|
  jx_all1 (sd_aload_n (pc := 42) (q := 0) (by decide +kernel) rfl) <|
  jx_all1 (sd_vL (pc := 43) (idx := 188) (kd := 30) (by decide +kernel) mf_169 wd_1117 rfl rfl) <|
  jx_all1 (sd_goto (pc := 46) (off := 7) (by decide +kernel) (by decide +kernel)) <|
  jx_all1 (sd_aload_n (pc := 49) (q := 0) (by decide +kernel) rfl) <|
  jx_all1 (sd_vL (pc := 50) (idx := 192) (kd := 30) (by decide +kernel) mf_170 wd_1121 rfl rfl) <|
  jx_all1 (sd_lreturn (pc := 53) (by decide +kernel) rfl) <|
  jx_all0
set_option maxRecDepth 100000 in
theorem sn_169 (D : jx_D) : jx_all (fun q => jx_Snd cX10_turnedChance 7 RX10 (some .long) D q.1 q.2) (tb_169 D) := by
  unfold tb_169
  exact jx_all1 (sd_lconst (pc := 0) (n := 0) (by decide +kernel) (by decide +kernel)) <|
  jx_all1 (sd_lstore_n (pc := 1) (q := 1) (by decide +kernel) rfl) <|
  jx_all1 (sd_iconst (pc := 2) (n := 0) (by decide +kernel) (by decide +kernel)) <|
  jx_all1 (sd_istore_n (pc := 3) (q := 3) (by decide +kernel) rfl) <|
  jx_all1 (sd_iload_n (pc := 4) (q := 3) (by decide +kernel) rfl) <|
  jx_all1 (sd_aload_n (pc := 5) (q := 0) (by decide +kernel) rfl) <|
  jx_all1 (sd_vI (pc := 6) (idx := 131) (kd := 30) (by decide +kernel) mf_137 wd_989 rfl rfl) <|
  jx_all1 (sd_icgt (pc := 9) (off := 91) (by decide +kernel) (by decide +kernel)) <|
  jx_all1 (sd_aload_n (pc := 12) (q := 0) (by decide +kernel) rfl) <|
  jx_all1 (sd_iconst (pc := 13) (n := 0) (by decide +kernel) (by decide +kernel)) <|
  jx_all1 (sd_iload_n (pc := 14) (q := 3) (by decide +kernel) rfl) <|
  jx_all1 (sd_vI (pc := 15) (idx := 153) (kd := 30) (by decide +kernel) mf_148 wd_1033 rfl rfl) <|
  jx_all1 (sd_ifeq (pc := 18) (off := 7) (by decide +kernel) (by decide +kernel)) <|
  jx_all1 (sd_lconst (pc := 21) (n := 1) (by decide +kernel) (by decide +kernel)) <|
  jx_all1 (sd_goto (pc := 22) (off := 4) (by decide +kernel) (by decide +kernel)) <|
  jx_all1 (sd_lconst (pc := 25) (n := 0) (by decide +kernel) (by decide +kernel)) <|
  jx_all1 (sd_lstore (pc := 26) (by decide +kernel)) <|
  jx_all1 (sd_iconst (pc := 28) (n := 0) (by decide +kernel) (by decide +kernel)) <|
  jx_all1 (sd_istore (pc := 29) (by decide +kernel)) <|
  jx_all1 (sd_iload (pc := 31) (by decide +kernel)) <|
  jx_all1 (sd_aload_n (pc := 33) (q := 0) (by decide +kernel) rfl) <|
  jx_all1 (sd_gI (pc := 34) kf_30 (f := 1) (q := jx_f0) (idx := 73) (by decide +kernel) rfl wd_811 rfl) <|
  jx_all1 (sd_icge (pc := 37) (off := 52) (by decide +kernel) (by decide +kernel)) <|
  jx_all1 (sd_lload (pc := 40) (by decide +kernel)) <|
  jx_all1 (sd_lconst (pc := 42) (n := 0) (by decide +kernel) (by decide +kernel)) <|
  jx_all1 (sd_lcmp (pc := 43) (by decide +kernel)) <|
  jx_all1 (sd_ifle (pc := 44) (off := 45) (by decide +kernel) (by decide +kernel)) <|
  jx_all1 (sd_lload (pc := 47) (by decide +kernel)) <|
  jx_all1 (sd_iload_n (pc := 49) (q := 3) (by decide +kernel) rfl) <|
  jx_all1 (sd_iload (pc := 50) (by decide +kernel)) <|
  jx_all1 (sd_cI (pc := 52) (idx := 123) (by decide +kernel) mf_136 (Or.inl wd_986)) <|
  jx_all1 (sd_ifeq (pc := 55) (off := 14) (by decide +kernel) (by decide +kernel)) <|
  jx_all1 (sd_aload_n (pc := 58) (q := 0) (by decide +kernel) rfl) <|
  jx_all1 (sd_gR (pc := 59) kf_30 (f := 6) (q := (jx_f1 36 0)) (idx := 19) (by decide +kernel) rfl wd_816 rfl) <|
  jx_all1 (sd_iload (pc := 62) (by decide +kernel)) <|
  jx_all1 (sd_iaload (pc := 64) (by decide +kernel)) <|
  jx_all1 (sd_i2l (pc := 65) (by decide +kernel)) <|
  jx_all1 (sd_goto (pc := 66) (off := 14) (by decide +kernel) (by decide +kernel)) <|
  jx_all1 (sd_bipush (pc := 69) (n := 8) (by decide +kernel) (by decide +kernel)) <|
  jx_all1 (sd_aload_n (pc := 71) (q := 0) (by decide +kernel) rfl) <|
  jx_all1 (sd_gR (pc := 72) kf_30 (f := 6) (q := (jx_f1 36 0)) (idx := 19) (by decide +kernel) rfl wd_816 rfl) <|
  jx_all1 (sd_iload (pc := 75) (by decide +kernel)) <|
  jx_all1 (sd_iaload (pc := 77) (by decide +kernel)) <|
  jx_all1 (sd_isub (pc := 78) (by decide +kernel)) <|
  jx_all1 (sd_i2l (pc := 79) (by decide +kernel)) <|
  jx_all1 (sd_lmul (pc := 80) (by decide +kernel)) <|
  jx_all1 (sd_lstore (pc := 81) (by decide +kernel)) <|
  jx_all1 (sd_iinc (pc := 83) (n := 1) (by decide +kernel) (by decide +kernel)) <|
  jx_all1 (sd_goto (pc := 86) (off := (-55)) (by decide +kernel) (by decide +kernel)) <|
  jx_all1 (sd_lload_n (pc := 89) (q := 1) (by decide +kernel) rfl) <|
  jx_all1 (sd_lload (pc := 90) (by decide +kernel)) <|
  jx_all1 (sd_ladd (pc := 92) (by decide +kernel)) <|
  jx_all1 (sd_lstore_n (pc := 93) (q := 1) (by decide +kernel) rfl) <|
  jx_all1 (sd_iinc (pc := 94) (n := 1) (by decide +kernel) (by decide +kernel)) <|
  jx_all1 (sd_goto (pc := 97) (off := (-93)) (by decide +kernel) (by decide +kernel)) <|
  jx_all1 (sd_lload_n (pc := 100) (q := 1) (by decide +kernel) rfl) <|
  jx_all1 (sd_lreturn (pc := 101) (by decide +kernel) rfl) <|
  jx_all0
set_option maxRecDepth 100000 in
theorem sn_170 (D : jx_D) : jx_all (fun q => jx_Snd cX10_plainChance 6 RX10 (some .long) D q.1 q.2) (tb_170 D) := by
  unfold tb_170
  exact jx_all1 (sd_iconst (pc := 0) (n := 1) (by decide +kernel) (by decide +kernel)) <|
  jx_all1 (sd_istore_n (pc := 1) (q := 1) (by decide +kernel) rfl) <|
  jx_all1 (sd_iload_n (pc := 2) (q := 1) (by decide +kernel) rfl) <|
  jx_all1 (sd_aload_n (pc := 3) (q := 0) (by decide +kernel) rfl) <|
  jx_all1 (sd_vI (pc := 4) (idx := 127) (kd := 30) (by decide +kernel) mf_135 wd_982 rfl rfl) <|
  jx_all1 (sd_icgt (pc := 7) (off := 100) (by decide +kernel) (by decide +kernel)) <|
  jx_all1 (sd_iload_n (pc := 10) (q := 1) (by decide +kernel) rfl) <|
  jx_all1 (sd_iload_n (pc := 11) (q := 1) (by decide +kernel) rfl) <|
  jx_all1 (sd_ineg (pc := 12) (by decide +kernel)) <|
  jx_all1 (sd_iand (pc := 13) (by decide +kernel)) <|
  jx_all1 (sd_istore_n (pc := 14) (q := 2) (by decide +kernel) rfl) <|
  jx_all1 (sd_aload_n (pc := 15) (q := 0) (by decide +kernel) rfl) <|
  jx_all1 (sd_aload_n (pc := 16) (q := 0) (by decide +kernel) rfl) <|
  jx_all1 (sd_iload_n (pc := 17) (q := 1) (by decide +kernel) rfl) <|
  jx_all1 (sd_vI (pc := 18) (idx := 166) (kd := 30) (by decide +kernel) mf_160 wd_1081 rfl rfl) <|
  jx_all1 (sd_vL (pc := 21) (idx := 181) (kd := 30) (by decide +kernel) mf_171 wd_1125 rfl rfl) <|
  jx_all1 (sd_lstore_n (pc := 24) (q := 3) (by decide +kernel) rfl) <|
  jx_all1 (sd_iconst (pc := 25) (n := 1) (by decide +kernel) (by decide +kernel)) <|
  jx_all1 (sd_istore (pc := 26) (by decide +kernel)) <|
  jx_all1 (sd_iload (pc := 28) (by decide +kernel)) <|
  jx_all1 (sd_iload_n (pc := 30) (q := 1) (by decide +kernel) rfl) <|
  jx_all1 (sd_icge (pc := 31) (off := 63) (by decide +kernel) (by decide +kernel)) <|
  jx_all1 (sd_iload (pc := 34) (by decide +kernel)) <|
  jx_all1 (sd_iload_n (pc := 36) (q := 1) (by decide +kernel) rfl) <|
  jx_all1 (sd_iconst (pc := 37) (n := (-1)) (by decide +kernel) (by decide +kernel)) <|
  jx_all1 (sd_ixor (pc := 38) (by decide +kernel)) <|
  jx_all1 (sd_iand (pc := 39) (by decide +kernel)) <|
  jx_all1 (sd_ifne (pc := 40) (off := 48) (by decide +kernel) (by decide +kernel)) <|
  jx_all1 (sd_iload (pc := 43) (by decide +kernel)) <|
  jx_all1 (sd_iload_n (pc := 45) (q := 2) (by decide +kernel) rfl) <|
  jx_all1 (sd_iand (pc := 46) (by decide +kernel)) <|
  jx_all1 (sd_ifeq (pc := 47) (off := 41) (by decide +kernel) (by decide +kernel)) <|
  jx_all1 (sd_lload_n (pc := 50) (q := 3) (by decide +kernel) rfl) <|
  jx_all1 (sd_aload_n (pc := 51) (q := 0) (by decide +kernel) rfl) <|
  jx_all1 (sd_gR (pc := 52) kf_30 (f := 23) (q := (jx_f1 53 0)) (idx := 62) (by decide +kernel) rfl wd_833 rfl) <|
  jx_all1 (sd_iload (pc := 55) (by decide +kernel)) <|
  jx_all1 (sd_laload (pc := 57) (by decide +kernel)) <|
  jx_all1 (sd_aload_n (pc := 58) (q := 0) (by decide +kernel) rfl) <|
  jx_all1 (sd_iload (pc := 59) (by decide +kernel)) <|
  jx_all1 (sd_iload_n (pc := 61) (q := 1) (by decide +kernel) rfl) <|
  jx_all1 (sd_iload (pc := 62) (by decide +kernel)) <|
  jx_all1 (sd_iconst (pc := 64) (n := (-1)) (by decide +kernel) (by decide +kernel)) <|
  jx_all1 (sd_ixor (pc := 65) (by decide +kernel)) <|
  jx_all1 (sd_iand (pc := 66) (by decide +kernel)) <|
  jx_all1 (sd_vL (pc := 67) (idx := 184) (kd := 30) (by decide +kernel) mf_172 wd_1129 rfl rfl) <|
  jx_all1 (sd_lmul (pc := 70) (by decide +kernel)) <|
  jx_all1 (sd_aload_n (pc := 71) (q := 0) (by decide +kernel) rfl) <|
  jx_all1 (sd_aload_n (pc := 72) (q := 0) (by decide +kernel) rfl) <|
  jx_all1 (sd_iload_n (pc := 73) (q := 1) (by decide +kernel) rfl) <|
  jx_all1 (sd_iload (pc := 74) (by decide +kernel)) <|
  jx_all1 (sd_iconst (pc := 76) (n := (-1)) (by decide +kernel) (by decide +kernel)) <|
  jx_all1 (sd_ixor (pc := 77) (by decide +kernel)) <|
  jx_all1 (sd_iand (pc := 78) (by decide +kernel)) <|
  jx_all1 (sd_vI (pc := 79) (idx := 166) (kd := 30) (by decide +kernel) mf_160 wd_1081 rfl rfl) <|
  jx_all1 (sd_vL (pc := 82) (idx := 181) (kd := 30) (by decide +kernel) mf_171 wd_1125 rfl rfl) <|
  jx_all1 (sd_lmul (pc := 85) (by decide +kernel)) <|
  jx_all1 (sd_lsub (pc := 86) (by decide +kernel)) <|
  jx_all1 (sd_lstore_n (pc := 87) (q := 3) (by decide +kernel) rfl) <|
  jx_all1 (sd_iinc (pc := 88) (n := 1) (by decide +kernel) (by decide +kernel)) <|
  jx_all1 (sd_goto (pc := 91) (off := (-63)) (by decide +kernel) (by decide +kernel)) <|
  jx_all1 (sd_aload_n (pc := 94) (q := 0) (by decide +kernel) rfl) <|
  jx_all1 (sd_gR (pc := 95) kf_30 (f := 23) (q := (jx_f1 53 0)) (idx := 62) (by decide +kernel) rfl wd_833 rfl) <|
  jx_all1 (sd_iload_n (pc := 98) (q := 1) (by decide +kernel) rfl) <|
  jx_all1 (sd_lload_n (pc := 99) (q := 3) (by decide +kernel) rfl) <|
  jx_all1 (sd_lastore (pc := 100) (by decide +kernel)) <|
  jx_all1 (sd_iinc (pc := 101) (n := 1) (by decide +kernel) (by decide +kernel)) <|
  jx_all1 (sd_goto (pc := 104) (off := (-102)) (by decide +kernel) (by decide +kernel)) <|
  jx_all1 (sd_aload_n (pc := 107) (q := 0) (by decide +kernel) rfl) <|
  jx_all1 (sd_gR (pc := 108) kf_30 (f := 23) (q := (jx_f1 53 0)) (idx := 62) (by decide +kernel) rfl wd_833 rfl) <|
  jx_all1 (sd_aload_n (pc := 111) (q := 0) (by decide +kernel) rfl) <|
  jx_all1 (sd_vI (pc := 112) (idx := 127) (kd := 30) (by decide +kernel) mf_135 wd_982 rfl rfl) <|
  jx_all1 (sd_laload (pc := 115) (by decide +kernel)) <|
  jx_all1 (sd_lreturn (pc := 116) (by decide +kernel) rfl) <|
  jx_all0
set_option maxRecDepth 100000 in
theorem sn_171 (D : jx_D) : jx_all (fun q => jx_Snd cX10_power 2 RX10 (some .long) D q.1 q.2) (tb_171 D) := by
  unfold tb_171
  exact jx_all1 (sd_lconst (pc := 0) (n := 1) (by decide +kernel) (by decide +kernel)) <|
  jx_all1 (sd_iconst (pc := 1) (n := 3) (by decide +kernel) (by decide +kernel)) <|
  jx_all1 (sd_iload_n (pc := 2) (q := 1) (by decide +kernel) rfl) <|
  jx_all1 (sd_imul (pc := 3) (by decide +kernel)) <|
  jx_all1 (sd_lshl (pc := 4) (by decide +kernel)) <|
  jx_all1 (sd_lreturn (pc := 5) (by decide +kernel) rfl) <|
  jx_all0
set_option maxRecDepth 100000 in
theorem sn_172 (D : jx_D) : jx_all (fun q => jx_Snd cX10_between 7 RX10 (some .long) D q.1 q.2) (tb_172 D) := by
  unfold tb_172
  exact jx_all1 (sd_lconst (pc := 0) (n := 1) (by decide +kernel) (by decide +kernel)) <|
  jx_all1 (sd_lstore_n (pc := 1) (q := 3) (by decide +kernel) rfl) <|
  jx_all1 (sd_iconst (pc := 2) (n := 0) (by decide +kernel) (by decide +kernel)) <|
  jx_all1 (sd_istore (pc := 3) (by decide +kernel)) <|
  jx_all1 (sd_iload (pc := 5) (by decide +kernel)) <|
  jx_all1 (sd_aload_n (pc := 7) (q := 0) (by decide +kernel) rfl) <|
  jx_all1 (sd_gI (pc := 8) kf_30 (f := 1) (q := jx_f0) (idx := 73) (by decide +kernel) rfl wd_811 rfl) <|
  jx_all1 (sd_icge (pc := 11) (off := 96) (by decide +kernel) (by decide +kernel)) <|
  jx_all1 (sd_iload_n (pc := 14) (q := 1) (by decide +kernel) rfl) <|
  jx_all1 (sd_aload_n (pc := 15) (q := 0) (by decide +kernel) rfl) <|
  jx_all1 (sd_gR (pc := 16) kf_30 (f := 3) (q := (jx_f1 33 0)) (idx := 7) (by decide +kernel) rfl wd_813 rfl) <|
  jx_all1 (sd_iload (pc := 19) (by decide +kernel)) <|
  jx_all1 (sd_iaload (pc := 21) (by decide +kernel)) <|
  jx_all1 (sd_cI (pc := 22) (idx := 123) (by decide +kernel) mf_136 (Or.inl wd_986)) <|
  jx_all1 (sd_ifeq (pc := 25) (off := 17) (by decide +kernel) (by decide +kernel)) <|
  jx_all1 (sd_iload_n (pc := 28) (q := 2) (by decide +kernel) rfl) <|
  jx_all1 (sd_aload_n (pc := 29) (q := 0) (by decide +kernel) rfl) <|
  jx_all1 (sd_gR (pc := 30) kf_30 (f := 4) (q := (jx_f1 34 0)) (idx := 13) (by decide +kernel) rfl wd_814 rfl) <|
  jx_all1 (sd_iload (pc := 33) (by decide +kernel)) <|
  jx_all1 (sd_iaload (pc := 35) (by decide +kernel)) <|
  jx_all1 (sd_cI (pc := 36) (idx := 123) (by decide +kernel) mf_136 (Or.inl wd_986)) <|
  jx_all1 (sd_ifne (pc := 39) (off := 31) (by decide +kernel) (by decide +kernel)) <|
  jx_all1 (sd_iload_n (pc := 42) (q := 2) (by decide +kernel) rfl) <|
  jx_all1 (sd_aload_n (pc := 43) (q := 0) (by decide +kernel) rfl) <|
  jx_all1 (sd_gR (pc := 44) kf_30 (f := 3) (q := (jx_f1 33 0)) (idx := 7) (by decide +kernel) rfl wd_813 rfl) <|
  jx_all1 (sd_iload (pc := 47) (by decide +kernel)) <|
  jx_all1 (sd_iaload (pc := 49) (by decide +kernel)) <|
  jx_all1 (sd_cI (pc := 50) (idx := 123) (by decide +kernel) mf_136 (Or.inl wd_986)) <|
  jx_all1 (sd_ifeq (pc := 53) (off := 21) (by decide +kernel) (by decide +kernel)) <|
  jx_all1 (sd_iload_n (pc := 56) (q := 1) (by decide +kernel) rfl) <|
  jx_all1 (sd_aload_n (pc := 57) (q := 0) (by decide +kernel) rfl) <|
  jx_all1 (sd_gR (pc := 58) kf_30 (f := 4) (q := (jx_f1 34 0)) (idx := 13) (by decide +kernel) rfl wd_814 rfl) <|
  jx_all1 (sd_iload (pc := 61) (by decide +kernel)) <|
  jx_all1 (sd_iaload (pc := 63) (by decide +kernel)) <|
  jx_all1 (sd_cI (pc := 64) (idx := 123) (by decide +kernel) mf_136 (Or.inl wd_986)) <|
  jx_all1 (sd_ifeq (pc := 67) (off := 7) (by decide +kernel) (by decide +kernel)) <|
  jx_all1 (sd_iconst (pc := 70) (n := 1) (by decide +kernel) (by decide +kernel)) <|
  jx_all1 (sd_goto (pc := 71) (off := 4) (by decide +kernel) (by decide +kernel)) <|
  jx_all1 (sd_iconst (pc := 74) (n := 0) (by decide +kernel) (by decide +kernel)) <|
  jx_all1 (sd_istore (pc := 75) (by decide +kernel)) <|
  jx_all1 (sd_lload_n (pc := 77) (q := 3) (by decide +kernel) rfl) <|
  jx_all1 (sd_iload (pc := 78) (by decide +kernel)) <|
  jx_all1 (sd_ifeq (pc := 80) (off := 18) (by decide +kernel) (by decide +kernel)) <|
  jx_all1 (sd_ldc2 (pc := 83) (i := 179) (by decide +kernel) wd_1133) <|
  jx_all1 (sd_aload_n (pc := 86) (q := 0) (by decide +kernel) rfl) <|
  jx_all1 (sd_gR (pc := 87) kf_30 (f := 6) (q := (jx_f1 36 0)) (idx := 19) (by decide +kernel) rfl wd_816 rfl) <|
  jx_all1 (sd_iload (pc := 90) (by decide +kernel)) <|
  jx_all1 (sd_iaload (pc := 92) (by decide +kernel)) <|
  jx_all1 (sd_i2l (pc := 93) (by decide +kernel)) <|
  jx_all1 (sd_lsub (pc := 94) (by decide +kernel)) <|
  jx_all1 (sd_goto (pc := 95) (off := 4) (by decide +kernel) (by decide +kernel)) <|
  jx_all1 (sd_lconst (pc := 98) (n := 1) (by decide +kernel) (by decide +kernel)) <|
  jx_all1 (sd_lmul (pc := 99) (by decide +kernel)) <|
  jx_all1 (sd_lstore_n (pc := 100) (q := 3) (by decide +kernel) rfl) <|
  jx_all1 (sd_iinc (pc := 101) (n := 1) (by decide +kernel) (by decide +kernel)) <|
  jx_all1 (sd_goto (pc := 104) (off := (-99)) (by decide +kernel) (by decide +kernel)) <|
  jx_all1 (sd_lload_n (pc := 107) (q := 3) (by decide +kernel) rfl) <|
  jx_all1 (sd_lreturn (pc := 108) (by decide +kernel) rfl) <|
  jx_all0
set_option maxRecDepth 100000 in
theorem sn_173 (D : jx_D) : jx_all (fun q => jx_Snd cX10_tell 2 RX10 (some .int) D q.1 q.2) (tb_173 D) := by
  unfold tb_173
  exact jx_all1 (sd_aload_n (pc := 0) (q := 0) (by decide +kernel) rfl) <|
  jx_all1 (sd_gI (pc := 1) kf_30 (f := 14) (q := jx_f0) (idx := 195) (by decide +kernel) rfl wd_824 rfl) <|
  jx_all1 (sd_bipush (pc := 4) (n := 60) (by decide +kernel) (by decide +kernel)) <|
  jx_all1 (sd_icne (pc := 6) (off := 10) (by decide +kernel) (by decide +kernel)) <|
  jx_all1 (sd_aload_n (pc := 9) (q := 0) (by decide +kernel) rfl) <|
  jx_all1 (sd_bipush (pc := 10) (n := (-5)) (by decide +kernel) (by decide +kernel)) <|
  jx_all1 (sd_vI (pc := 12) (idx := 87) (kd := 30) (by decide +kernel) mf_111 wd_888 rfl rfl) <|
  jx_all1 (sd_ireturn (pc := 15) (by decide +kernel) rfl) <|
  jx_all1 (sd_aload_n (pc := 16) (q := 0) (by decide +kernel) rfl) <|
  jx_all1 (sd_gR (pc := 17) kf_30 (f := 15) (q := (jx_f1 45 0)) (idx := 40) (by decide +kernel) rfl wd_825 rfl) <|
  jx_all1 (sd_aload_n (pc := 20) (q := 0) (by decide +kernel) rfl) <|
  jx_all1 (sd_gI (pc := 21) kf_30 (f := 14) (q := jx_f0) (idx := 195) (by decide +kernel) rfl wd_824 rfl) <|
  jx_all1 (sd_iload_n (pc := 24) (q := 1) (by decide +kernel) rfl) <|
  jx_all1 (sd_iastore (pc := 25) (by decide +kernel)) <|
  jx_all1 (sd_aload_n (pc := 26) (q := 0) (by decide +kernel) rfl) <|
  jx_all1 (sd_dup (pc := 27) (by decide +kernel)) <|
  jx_all1 (sd_gI (pc := 28) kf_30 (f := 14) (q := jx_f0) (idx := 195) (by decide +kernel) rfl wd_824 rfl) <|
  jx_all1 (sd_iconst (pc := 31) (n := 1) (by decide +kernel) (by decide +kernel)) <|
  jx_all1 (sd_iadd (pc := 32) (by decide +kernel)) <|
  jx_all1 (sd_pI (pc := 33) kf_30 (f := 14) (q := jx_f0) (idx := 195) (by decide +kernel) rfl wd_824 rfl rfl rfl) <|
  jx_all1 (sd_aload_n (pc := 36) (q := 0) (by decide +kernel) rfl) <|
  jx_all1 (sd_gI (pc := 37) kf_30 (f := 14) (q := jx_f0) (idx := 195) (by decide +kernel) rfl wd_824 rfl) <|
  jx_all1 (sd_ireturn (pc := 40) (by decide +kernel) rfl) <|
  jx_all0
set_option maxRecDepth 100000 in
theorem sn_174 (D : jx_D) : jx_all (fun q => jx_Snd cX10_would 3 RX10 (some .int) D q.1 q.2) (tb_174 D) := by
  unfold tb_174
  exact jx_all1 (sd_aload_n (pc := 0) (q := 0) (by decide +kernel) rfl) <|
  jx_all1 (sd_gI (pc := 1) kf_30 (f := 14) (q := jx_f0) (idx := 195) (by decide +kernel) rfl wd_824 rfl) <|
  jx_all1 (sd_istore_n (pc := 4) (q := 1) (by decide +kernel) rfl) <|
  jx_all1 (sd_aload_n (pc := 5) (q := 0) (by decide +kernel) rfl) <|
  jx_all1 (sd_iconst (pc := 6) (n := 0) (by decide +kernel) (by decide +kernel)) <|
  jx_all1 (sd_pI (pc := 7) kf_30 (f := 14) (q := jx_f0) (idx := 195) (by decide +kernel) rfl wd_824 rfl rfl rfl) <|
  jx_all1 (sd_iload_n (pc := 10) (q := 1) (by decide +kernel) rfl) <|
  jx_all1 (sd_iconst (pc := 11) (n := 2) (by decide +kernel) (by decide +kernel)) <|
  jx_all1 (sd_irem (pc := 12) (by decide +kernel)) <|
  jx_all1 (sd_ifeq (pc := 13) (off := 10) (by decide +kernel) (by decide +kernel)) <|
  jx_all1 (sd_aload_n (pc := 16) (q := 0) (by decide +kernel) rfl) <|
  jx_all1 (sd_bipush (pc := 17) (n := (-3)) (by decide +kernel) (by decide +kernel)) <|
  jx_all1 (sd_vI (pc := 19) (idx := 87) (kd := 30) (by decide +kernel) mf_111 wd_888 rfl rfl) <|
  jx_all1 (sd_ireturn (pc := 22) (by decide +kernel) rfl) <|
  jx_all1 (sd_iconst (pc := 23) (n := 0) (by decide +kernel) (by decide +kernel)) <|
  jx_all1 (sd_istore_n (pc := 24) (q := 2) (by decide +kernel) rfl) <|
  jx_all1 (sd_iload_n (pc := 25) (q := 2) (by decide +kernel) rfl) <|
  jx_all1 (sd_iload_n (pc := 26) (q := 1) (by decide +kernel) rfl) <|
  jx_all1 (sd_icge (pc := 27) (off := 60) (by decide +kernel) (by decide +kernel)) <|
  jx_all1 (sd_aload_n (pc := 30) (q := 0) (by decide +kernel) rfl) <|
  jx_all1 (sd_aload_n (pc := 31) (q := 0) (by decide +kernel) rfl) <|
  jx_all1 (sd_gR (pc := 32) kf_30 (f := 15) (q := (jx_f1 45 0)) (idx := 40) (by decide +kernel) rfl wd_825 rfl) <|
  jx_all1 (sd_iload_n (pc := 35) (q := 2) (by decide +kernel) rfl) <|
  jx_all1 (sd_iaload (pc := 36) (by decide +kernel)) <|
  jx_all1 (sd_vI (pc := 37) (idx := 97) (kd := 30) (by decide +kernel) mf_118 wd_916 rfl rfl) <|
  jx_all1 (sd_ifeq (pc := 40) (off := 35) (by decide +kernel) (by decide +kernel)) <|
  jx_all1 (sd_aload_n (pc := 43) (q := 0) (by decide +kernel) rfl) <|
  jx_all1 (sd_aload_n (pc := 44) (q := 0) (by decide +kernel) rfl) <|
  jx_all1 (sd_gR (pc := 45) kf_30 (f := 15) (q := (jx_f1 45 0)) (idx := 40) (by decide +kernel) rfl wd_825 rfl) <|
  jx_all1 (sd_iload_n (pc := 48) (q := 2) (by decide +kernel) rfl) <|
  jx_all1 (sd_iconst (pc := 49) (n := 1) (by decide +kernel) (by decide +kernel)) <|
  jx_all1 (sd_iadd (pc := 50) (by decide +kernel)) <|
  jx_all1 (sd_iaload (pc := 51) (by decide +kernel)) <|
  jx_all1 (sd_vI (pc := 52) (idx := 97) (kd := 30) (by decide +kernel) mf_118 wd_916 rfl rfl) <|
  jx_all1 (sd_ifeq (pc := 55) (off := 20) (by decide +kernel) (by decide +kernel)) <|
  jx_all1 (sd_aload_n (pc := 58) (q := 0) (by decide +kernel) rfl) <|
  jx_all1 (sd_gR (pc := 59) kf_30 (f := 15) (q := (jx_f1 45 0)) (idx := 40) (by decide +kernel) rfl wd_825 rfl) <|
  jx_all1 (sd_iload_n (pc := 62) (q := 2) (by decide +kernel) rfl) <|
  jx_all1 (sd_iaload (pc := 63) (by decide +kernel)) <|
  jx_all1 (sd_aload_n (pc := 64) (q := 0) (by decide +kernel) rfl) <|
  jx_all1 (sd_gR (pc := 65) kf_30 (f := 15) (q := (jx_f1 45 0)) (idx := 40) (by decide +kernel) rfl wd_825 rfl) <|
  jx_all1 (sd_iload_n (pc := 68) (q := 2) (by decide +kernel) rfl) <|
  jx_all1 (sd_iconst (pc := 69) (n := 1) (by decide +kernel) (by decide +kernel)) <|
  jx_all1 (sd_iadd (pc := 70) (by decide +kernel)) <|
  jx_all1 (sd_iaload (pc := 71) (by decide +kernel)) <|
  jx_all1 (sd_icne (pc := 72) (off := 9) (by decide +kernel) (by decide +kernel)) <|
  jx_all1 (sd_aload_n (pc := 75) (q := 0) (by decide +kernel) rfl) <|
  jx_all1 (sd_iconst (pc := 76) (n := (-1)) (by decide +kernel) (by decide +kernel)) <|
  jx_all1 (sd_vI (pc := 77) (idx := 87) (kd := 30) (by decide +kernel) mf_111 wd_888 rfl rfl) <|
  jx_all1 (sd_ireturn (pc := 80) (by decide +kernel) rfl) <|
  jx_all1 (sd_iinc (pc := 81) (n := 2) (by decide +kernel) (by decide +kernel)) <|
  jx_all1 (sd_goto (pc := 84) (off := (-59)) (by decide +kernel) (by decide +kernel)) <|
  jx_all1 (sd_iconst (pc := 87) (n := 0) (by decide +kernel) (by decide +kernel)) <|
  jx_all1 (sd_istore_n (pc := 88) (q := 2) (by decide +kernel) rfl) <|
  jx_all1 (sd_iload_n (pc := 89) (q := 2) (by decide +kernel) rfl) <|
  jx_all1 (sd_iload_n (pc := 90) (q := 1) (by decide +kernel) rfl) <|
  jx_all1 (sd_icge (pc := 91) (off := 45) (by decide +kernel) (by decide +kernel)) <|
  jx_all1 (sd_aload_n (pc := 94) (q := 0) (by decide +kernel) rfl) <|
  jx_all1 (sd_gR (pc := 95) kf_30 (f := 3) (q := (jx_f1 33 0)) (idx := 7) (by decide +kernel) rfl wd_813 rfl) <|
  jx_all1 (sd_bipush (pc := 98) (n := 20) (by decide +kernel) (by decide +kernel)) <|
  jx_all1 (sd_iload_n (pc := 100) (q := 2) (by decide +kernel) rfl) <|
  jx_all1 (sd_iconst (pc := 101) (n := 2) (by decide +kernel) (by decide +kernel)) <|
  jx_all1 (sd_idiv (pc := 102) (by decide +kernel)) <|
  jx_all1 (sd_iadd (pc := 103) (by decide +kernel)) <|
  jx_all1 (sd_aload_n (pc := 104) (q := 0) (by decide +kernel) rfl) <|
  jx_all1 (sd_gR (pc := 105) kf_30 (f := 15) (q := (jx_f1 45 0)) (idx := 40) (by decide +kernel) rfl wd_825 rfl) <|
  jx_all1 (sd_iload_n (pc := 108) (q := 2) (by decide +kernel) rfl) <|
  jx_all1 (sd_iaload (pc := 109) (by decide +kernel)) <|
  jx_all1 (sd_iastore (pc := 110) (by decide +kernel)) <|
  jx_all1 (sd_aload_n (pc := 111) (q := 0) (by decide +kernel) rfl) <|
  jx_all1 (sd_gR (pc := 112) kf_30 (f := 4) (q := (jx_f1 34 0)) (idx := 13) (by decide +kernel) rfl wd_814 rfl) <|
  jx_all1 (sd_bipush (pc := 115) (n := 20) (by decide +kernel) (by decide +kernel)) <|
  jx_all1 (sd_iload_n (pc := 117) (q := 2) (by decide +kernel) rfl) <|
  jx_all1 (sd_iconst (pc := 118) (n := 2) (by decide +kernel) (by decide +kernel)) <|
  jx_all1 (sd_idiv (pc := 119) (by decide +kernel)) <|
  jx_all1 (sd_iadd (pc := 120) (by decide +kernel)) <|
  jx_all1 (sd_aload_n (pc := 121) (q := 0) (by decide +kernel) rfl) <|
  jx_all1 (sd_gR (pc := 122) kf_30 (f := 15) (q := (jx_f1 45 0)) (idx := 40) (by decide +kernel) rfl wd_825 rfl) <|
  jx_all1 (sd_iload_n (pc := 125) (q := 2) (by decide +kernel) rfl) <|
  jx_all1 (sd_iconst (pc := 126) (n := 1) (by decide +kernel) (by decide +kernel)) <|
  jx_all1 (sd_iadd (pc := 127) (by decide +kernel)) <|
  jx_all1 (sd_iaload (pc := 128) (by decide +kernel)) <|
  jx_all1 (sd_iastore (pc := 129) (by decide +kernel)) <|
  jx_all1 (sd_iinc (pc := 130) (n := 2) (by decide +kernel) (by decide +kernel)) <|
  jx_all1 (sd_goto (pc := 133) (off := (-44)) (by decide +kernel) (by decide +kernel)) <|
  jx_all1 (sd_aload_n (pc := 136) (q := 0) (by decide +kernel) rfl) <|
  jx_all1 (sd_bipush (pc := 137) (n := 20) (by decide +kernel) (by decide +kernel)) <|
  jx_all1 (sd_iload_n (pc := 139) (q := 1) (by decide +kernel) rfl) <|
  jx_all1 (sd_iconst (pc := 140) (n := 2) (by decide +kernel) (by decide +kernel)) <|
  jx_all1 (sd_idiv (pc := 141) (by decide +kernel)) <|
  jx_all1 (sd_iadd (pc := 142) (by decide +kernel)) <|
  jx_all1 (sd_aload_n (pc := 143) (q := 0) (by decide +kernel) rfl) <|
  jx_all1 (sd_vI (pc := 144) (idx := 131) (kd := 30) (by decide +kernel) mf_137 wd_989 rfl rfl) <|
  jx_all1 (sd_vI (pc := 147) (idx := 144) (kd := 30) (by decide +kernel) mf_142 wd_1008 rfl rfl) <|
  jx_all1 (sd_ireturn (pc := 150) (by decide +kernel) rfl) <|
  jx_all0
set_option maxRecDepth 100000 in
theorem sn_175 (D : jx_D) : jx_all (fun q => jx_Snd cX10_way 8 RX10 (some .int) D q.1 q.2) (tb_175 D) := by
  unfold tb_175
  exact jx_all1 (sd_aload_n (pc := 0) (q := 0) (by decide +kernel) rfl) <|
  jx_all1 (sd_gI (pc := 1) kf_30 (f := 14) (q := jx_f0) (idx := 195) (by decide +kernel) rfl wd_824 rfl) <|
  jx_all1 (sd_istore_n (pc := 4) (q := 3) (by decide +kernel) rfl) <|
  jx_all1 (sd_aload_n (pc := 5) (q := 0) (by decide +kernel) rfl) <|
  jx_all1 (sd_iconst (pc := 6) (n := 0) (by decide +kernel) (by decide +kernel)) <|
  jx_all1 (sd_pI (pc := 7) kf_30 (f := 14) (q := jx_f0) (idx := 195) (by decide +kernel) rfl wd_824 rfl rfl rfl) <|
  jx_all1 (sd_aload_n (pc := 10) (q := 0) (by decide +kernel) rfl) <|
  jx_all1 (sd_iload_n (pc := 11) (q := 1) (by decide +kernel) rfl) <|
  jx_all1 (sd_vI (pc := 12) (idx := 97) (kd := 30) (by decide +kernel) mf_118 wd_916 rfl rfl) <|
  jx_all1 (sd_ifeq (pc := 15) (off := 11) (by decide +kernel) (by decide +kernel)) <|
  jx_all1 (sd_aload_n (pc := 18) (q := 0) (by decide +kernel) rfl) <|
  jx_all1 (sd_iload_n (pc := 19) (q := 2) (by decide +kernel) rfl) <|
  jx_all1 (sd_vI (pc := 20) (idx := 97) (kd := 30) (by decide +kernel) mf_118 wd_916 rfl rfl) <|
  jx_all1 (sd_ifne (pc := 23) (off := 9) (by decide +kernel) (by decide +kernel)) <|
  jx_all1 (sd_aload_n (pc := 26) (q := 0) (by decide +kernel) rfl) <|
  jx_all1 (sd_iconst (pc := 27) (n := (-1)) (by decide +kernel) (by decide +kernel)) <|
  jx_all1 (sd_vI (pc := 28) (idx := 87) (kd := 30) (by decide +kernel) mf_111 wd_888 rfl rfl) <|
  jx_all1 (sd_ireturn (pc := 31) (by decide +kernel) rfl) <|
  jx_all1 (sd_iload_n (pc := 32) (q := 1) (by decide +kernel) rfl) <|
  jx_all1 (sd_iload_n (pc := 33) (q := 2) (by decide +kernel) rfl) <|
  jx_all1 (sd_icne (pc := 34) (off := 10) (by decide +kernel) (by decide +kernel)) <|
  jx_all1 (sd_aload_n (pc := 37) (q := 0) (by decide +kernel) rfl) <|
  jx_all1 (sd_bipush (pc := 38) (n := (-3)) (by decide +kernel) (by decide +kernel)) <|
  jx_all1 (sd_vI (pc := 40) (idx := 87) (kd := 30) (by decide +kernel) mf_111 wd_888 rfl rfl) <|
  jx_all1 (sd_ireturn (pc := 43) (by decide +kernel) rfl) <|
  jx_all1 (sd_iload_n (pc := 44) (q := 1) (by decide +kernel) rfl) <|
  jx_all1 (sd_istore (pc := 45) (by decide +kernel)) <|
  jx_all1 (sd_iconst (pc := 47) (n := 1) (by decide +kernel) (by decide +kernel)) <|
  jx_all1 (sd_iload_n (pc := 48) (q := 1) (by decide +kernel) rfl) <|
  jx_all1 (sd_ishl (pc := 49) (by decide +kernel)) <|
  jx_all1 (sd_istore (pc := 50) (by decide +kernel)) <|
  jx_all1 (sd_iconst (pc := 52) (n := 0) (by decide +kernel) (by decide +kernel)) <|
  jx_all1 (sd_istore (pc := 53) (by decide +kernel)) <|
  jx_all1 (sd_iload (pc := 55) (by decide +kernel)) <|
  jx_all1 (sd_iload_n (pc := 57) (q := 3) (by decide +kernel) rfl) <|
  jx_all1 (sd_icge (pc := 58) (off := 112) (by decide +kernel) (by decide +kernel)) <|
  jx_all1 (sd_aload_n (pc := 61) (q := 0) (by decide +kernel) rfl) <|
  jx_all1 (sd_gR (pc := 62) kf_30 (f := 15) (q := (jx_f1 45 0)) (idx := 40) (by decide +kernel) rfl wd_825 rfl) <|
  jx_all1 (sd_iload (pc := 65) (by decide +kernel)) <|
  jx_all1 (sd_iaload (pc := 67) (by decide +kernel)) <|
  jx_all1 (sd_istore (pc := 68) (by decide +kernel)) <|
  jx_all1 (sd_aload_n (pc := 70) (q := 0) (by decide +kernel) rfl) <|
  jx_all1 (sd_iload (pc := 71) (by decide +kernel)) <|
  jx_all1 (sd_vI (pc := 73) (idx := 105) (kd := 30) (by decide +kernel) mf_121 wd_928 rfl rfl) <|
  jx_all1 (sd_ifeq (pc := 76) (off := 34) (by decide +kernel) (by decide +kernel)) <|
  jx_all1 (sd_aload_n (pc := 79) (q := 0) (by decide +kernel) rfl) <|
  jx_all1 (sd_gR (pc := 80) kf_30 (f := 3) (q := (jx_f1 33 0)) (idx := 7) (by decide +kernel) rfl wd_813 rfl) <|
  jx_all1 (sd_iload (pc := 83) (by decide +kernel)) <|
  jx_all1 (sd_iaload (pc := 85) (by decide +kernel)) <|
  jx_all1 (sd_iload (pc := 86) (by decide +kernel)) <|
  jx_all1 (sd_iceq (pc := 88) (off := 24) (by decide +kernel) (by decide +kernel)) <|
  jx_all1 (sd_aload_n (pc := 91) (q := 0) (by decide +kernel) rfl) <|
  jx_all1 (sd_gI (pc := 92) kf_30 (f := 2) (q := jx_f0) (idx := 76) (by decide +kernel) rfl wd_812 rfl) <|
  jx_all1 (sd_ifne (pc := 95) (off := 15) (by decide +kernel) (by decide +kernel)) <|
  jx_all1 (sd_aload_n (pc := 98) (q := 0) (by decide +kernel) rfl) <|
  jx_all1 (sd_gR (pc := 99) kf_30 (f := 4) (q := (jx_f1 34 0)) (idx := 13) (by decide +kernel) rfl wd_814 rfl) <|
  jx_all1 (sd_iload (pc := 102) (by decide +kernel)) <|
  jx_all1 (sd_iaload (pc := 104) (by decide +kernel)) <|
  jx_all1 (sd_iload (pc := 105) (by decide +kernel)) <|
  jx_all1 (sd_iceq (pc := 107) (off := 5) (by decide +kernel) (by decide +kernel)) <|
  jx_all1 (sd_iconst (pc := 110) (n := 0) (by decide +kernel) (by decide +kernel)) <|
  jx_all1 (sd_ireturn (pc := 111) (by decide +kernel) rfl) <|
  jx_all1 (sd_aload_n (pc := 112) (q := 0) (by decide +kernel) rfl) <|
  jx_all1 (sd_gR (pc := 113) kf_30 (f := 3) (q := (jx_f1 33 0)) (idx := 7) (by decide +kernel) rfl wd_813 rfl) <|
  jx_all1 (sd_iload (pc := 116) (by decide +kernel)) <|
  jx_all1 (sd_iaload (pc := 118) (by decide +kernel)) <|
  jx_all1 (sd_iload (pc := 119) (by decide +kernel)) <|
  jx_all1 (sd_icne (pc := 121) (off := 13) (by decide +kernel) (by decide +kernel)) <|
  jx_all1 (sd_aload_n (pc := 124) (q := 0) (by decide +kernel) rfl) <|
  jx_all1 (sd_gR (pc := 125) kf_30 (f := 4) (q := (jx_f1 34 0)) (idx := 13) (by decide +kernel) rfl wd_814 rfl) <|
  jx_all1 (sd_iload (pc := 128) (by decide +kernel)) <|
  jx_all1 (sd_iaload (pc := 130) (by decide +kernel)) <|
  jx_all1 (sd_goto (pc := 131) (off := 10) (by decide +kernel) (by decide +kernel)) <|
  jx_all1 (sd_aload_n (pc := 134) (q := 0) (by decide +kernel) rfl) <|
  jx_all1 (sd_gR (pc := 135) kf_30 (f := 3) (q := (jx_f1 33 0)) (idx := 7) (by decide +kernel) rfl wd_813 rfl) <|
  jx_all1 (sd_iload (pc := 138) (by decide +kernel)) <|
  jx_all1 (sd_iaload (pc := 140) (by decide +kernel)) <|
  jx_all1 (sd_istore (pc := 141) (by decide +kernel)) <|
  jx_all1 (sd_iload (pc := 143) (by decide +kernel)) <|
  jx_all1 (sd_iload (pc := 145) (by decide +kernel)) <|
  jx_all1 (sd_cI (pc := 147) (idx := 123) (by decide +kernel) mf_136 (Or.inl wd_986)) <|
  jx_all1 (sd_ifeq (pc := 150) (off := 5) (by decide +kernel) (by decide +kernel)) <|
  jx_all1 (sd_iconst (pc := 153) (n := 0) (by decide +kernel) (by decide +kernel)) <|
  jx_all1 (sd_ireturn (pc := 154) (by decide +kernel) rfl) <|
  jx_all1 (sd_iload (pc := 155) (by decide +kernel)) <|
  jx_all1 (sd_iconst (pc := 157) (n := 1) (by decide +kernel) (by decide +kernel)) <|
  jx_all1 (sd_iload (pc := 158) (by decide +kernel)) <|
  jx_all1 (sd_ishl (pc := 160) (by decide +kernel)) <|
  jx_all1 (sd_ior (pc := 161) (by decide +kernel)) <|
  jx_all1 (sd_istore (pc := 162) (by decide +kernel)) <|
  jx_all1 (sd_iinc (pc := 164) (n := 1) (by decide +kernel) (by decide +kernel)) <|
  jx_all1 (sd_goto (pc := 167) (off := (-112)) (by decide +kernel) (by decide +kernel)) <|
  jx_all1 (sd_iload (pc := 170) (by decide +kernel)) <|
  jx_all1 (sd_iload_n (pc := 172) (q := 2) (by decide +kernel) rfl) <|
  jx_all1 (sd_icne (pc := 173) (off := 7) (by decide +kernel) (by decide +kernel)) <|
  jx_all1 (sd_iconst (pc := 176) (n := 1) (by decide +kernel) (by decide +kernel)) <|
  jx_all1 (sd_goto (pc := 177) (off := 4) (by decide +kernel) (by decide +kernel)) <|
  jx_all1 (sd_iconst (pc := 180) (n := 0) (by decide +kernel) (by decide +kernel)) <|
  jx_all1 (sd_ireturn (pc := 181) (by decide +kernel) rfl) <|
  jx_all0
set_option maxRecDepth 100000 in
theorem sn_176 (D : jx_D) : jx_all (fun q => jx_Snd cX10_keep 3 RX10 (some .int) D q.1 q.2) (tb_176 D) := by
  unfold tb_176
  exact jx_all1 (sd_iload_n (pc := 0) (q := 1) (by decide +kernel) rfl) <|
  jx_all1 (sd_cI (pc := 1) (idx := 198) (by decide +kernel) mf_177 (Or.inl wd_1150)) <|
  jx_all1 (sd_ifne (pc := 4) (off := 9) (by decide +kernel) (by decide +kernel)) <|
  jx_all1 (sd_aload_n (pc := 7) (q := 0) (by decide +kernel) rfl) <|
  jx_all1 (sd_iconst (pc := 8) (n := (-1)) (by decide +kernel) (by decide +kernel)) <|
  jx_all1 (sd_vI (pc := 9) (idx := 87) (kd := 30) (by decide +kernel) mf_111 wd_888 rfl rfl) <|
  jx_all1 (sd_ireturn (pc := 12) (by decide +kernel) rfl) <|
  jx_all1 (sd_aload_n (pc := 13) (q := 0) (by decide +kernel) rfl) <|
  jx_all1 (sd_aload_n (pc := 14) (q := 0) (by decide +kernel) rfl) <|
  jx_all1 (sd_gR (pc := 15) kf_30 (f := 9) (q := (jx_f1 39 0)) (idx := 25) (by decide +kernel) rfl wd_819 rfl) <|
  jx_all1 (sd_bipush (pc := 18) (n := 84) (by decide +kernel) (by decide +kernel)) <|
  jx_all1 (sd_iload_n (pc := 20) (q := 1) (by decide +kernel) rfl) <|
  jx_all1 (sd_imul (pc := 21) (by decide +kernel)) <|
  jx_all1 (sd_vV (pc := 22) (idx := 83) (kd := 30) (by decide +kernel) mf_115 wd_904 rfl rfl) <|
  jx_all1 (sd_aload_n (pc := 25) (q := 0) (by decide +kernel) rfl) <|
  jx_all1 (sd_gI (pc := 26) kf_30 (f := 2) (q := jx_f0) (idx := 76) (by decide +kernel) rfl wd_812 rfl) <|
  jx_all1 (sd_ifne (pc := 29) (off := 19) (by decide +kernel) (by decide +kernel)) <|
  jx_all1 (sd_aload_n (pc := 32) (q := 0) (by decide +kernel) rfl) <|
  jx_all1 (sd_iconst (pc := 33) (n := 0) (by decide +kernel) (by decide +kernel)) <|
  jx_all1 (sd_aload_n (pc := 34) (q := 0) (by decide +kernel) rfl) <|
  jx_all1 (sd_vI (pc := 35) (idx := 131) (kd := 30) (by decide +kernel) mf_137 wd_989 rfl rfl) <|
  jx_all1 (sd_vI (pc := 38) (idx := 153) (kd := 30) (by decide +kernel) mf_148 wd_1033 rfl rfl) <|
  jx_all1 (sd_ifeq (pc := 41) (off := 7) (by decide +kernel) (by decide +kernel)) <|
  jx_all1 (sd_iconst (pc := 44) (n := 1) (by decide +kernel) (by decide +kernel)) <|
  jx_all1 (sd_goto (pc := 45) (off := 4) (by decide +kernel) (by decide +kernel)) <|
  jx_all1 (sd_iconst (pc := 48) (n := 0) (by decide +kernel) (by decide +kernel)) <|
  jx_all1 (sd_istore_n (pc := 49) (q := 2) (by decide +kernel) rfl) <|
  jx_all1 (sd_aload_n (pc := 50) (q := 0) (by decide +kernel) rfl) <|
  jx_all1 (sd_gR (pc := 51) kf_30 (f := 10) (q := (jx_f1 40 0)) (idx := 28) (by decide +kernel) rfl wd_820 rfl) <|
  jx_all1 (sd_iload_n (pc := 54) (q := 1) (by decide +kernel) rfl) <|
  jx_all1 (sd_aload_n (pc := 55) (q := 0) (by decide +kernel) rfl) <|
  jx_all1 (sd_gI (pc := 56) kf_30 (f := 2) (q := jx_f0) (idx := 76) (by decide +kernel) rfl wd_812 rfl) <|
  jx_all1 (sd_ifeq (pc := 59) (off := 7) (by decide +kernel) (by decide +kernel)) <|
  jx_all1 (sd_iconst (pc := 62) (n := 3) (by decide +kernel) (by decide +kernel)) <|
  jx_all1 (sd_goto (pc := 63) (off := 39) (by decide +kernel) (by decide +kernel)) <|
  jx_all1 (sd_aload_n (pc := 66) (q := 0) (by decide +kernel) rfl) <|
  jx_all1 (sd_gI (pc := 67) kf_30 (f := 2) (q := jx_f0) (idx := 76) (by decide +kernel) rfl wd_812 rfl) <|
  jx_all1 (sd_ifne (pc := 70) (off := 23) (by decide +kernel) (by decide +kernel)) <|
  jx_all1 (sd_aload_n (pc := 73) (q := 0) (by decide +kernel) rfl) <|
  jx_all1 (sd_gI (pc := 74) kf_30 (f := 0) (q := jx_f0) (idx := 70) (by decide +kernel) rfl wd_810 rfl) <|
  jx_all1 (sd_iconst (pc := 77) (n := 1) (by decide +kernel) (by decide +kernel)) <|
  jx_all1 (sd_icle (pc := 78) (off := 15) (by decide +kernel) (by decide +kernel)) <|
  jx_all1 (sd_aload_n (pc := 81) (q := 0) (by decide +kernel) rfl) <|
  jx_all1 (sd_vI (pc := 82) (idx := 147) (kd := 30) (by decide +kernel) mf_141 wd_1016 rfl rfl) <|
  jx_all1 (sd_iconst (pc := 85) (n := 2) (by decide +kernel) (by decide +kernel)) <|
  jx_all1 (sd_iclt (pc := 86) (off := 7) (by decide +kernel) (by decide +kernel)) <|
  jx_all1 (sd_iconst (pc := 89) (n := 2) (by decide +kernel) (by decide +kernel)) <|
  jx_all1 (sd_goto (pc := 90) (off := 12) (by decide +kernel) (by decide +kernel)) <|
  jx_all1 (sd_iload_n (pc := 93) (q := 2) (by decide +kernel) rfl) <|
  jx_all1 (sd_ifeq (pc := 94) (off := 7) (by decide +kernel) (by decide +kernel)) <|
  jx_all1 (sd_iconst (pc := 97) (n := 1) (by decide +kernel) (by decide +kernel)) <|
  jx_all1 (sd_goto (pc := 98) (off := 4) (by decide +kernel) (by decide +kernel)) <|
  jx_all1 (sd_iconst (pc := 101) (n := 0) (by decide +kernel) (by decide +kernel)) <|
  jx_all1 (sd_iastore (pc := 102) (by decide +kernel)) <|
  jx_all1 (sd_aload_n (pc := 103) (q := 0) (by decide +kernel) rfl) <|
  jx_all1 (sd_gR (pc := 104) kf_30 (f := 10) (q := (jx_f1 40 0)) (idx := 28) (by decide +kernel) rfl wd_820 rfl) <|
  jx_all1 (sd_iload_n (pc := 107) (q := 1) (by decide +kernel) rfl) <|
  jx_all1 (sd_iaload (pc := 108) (by decide +kernel)) <|
  jx_all1 (sd_ireturn (pc := 109) (by decide +kernel) rfl) <|
  jx_all0
set_option maxRecDepth 100000 in
theorem sn_177 (D : jx_D) : jx_all (fun q => jx_Snd cX10_isSlot 1 RX10 (some .boolean) D q.1 q.2) (tb_177 D) := by
  unfold tb_177
  exact jx_all1 (sd_iload_n (pc := 0) (q := 0) (by decide +kernel) rfl) <|
  jx_all1 (sd_iflt (pc := 1) (off := 12) (by decide +kernel) (by decide +kernel)) <|
  jx_all1 (sd_iload_n (pc := 4) (q := 0) (by decide +kernel) rfl) <|
  jx_all1 (sd_iconst (pc := 5) (n := 4) (by decide +kernel) (by decide +kernel)) <|
  jx_all1 (sd_icge (pc := 6) (off := 7) (by decide +kernel) (by decide +kernel)) <|
  jx_all1 (sd_iconst (pc := 9) (n := 1) (by decide +kernel) (by decide +kernel)) <|
  jx_all1 (sd_goto (pc := 10) (off := 4) (by decide +kernel) (by decide +kernel)) <|
  jx_all1 (sd_iconst (pc := 13) (n := 0) (by decide +kernel) (by decide +kernel)) <|
  jx_all1 (sd_zreturn (pc := 14) (by decide +kernel) rfl) <|
  jx_all0
set_option maxRecDepth 100000 in
theorem sn_178 (D : jx_D) : jx_all (fun q => jx_Snd cX10_bring 2 RX10 (some .int) D q.1 q.2) (tb_178 D) := by
  unfold tb_178
  exact jx_all1 (sd_iload_n (pc := 0) (q := 1) (by decide +kernel) rfl) <|
  jx_all1 (sd_cI (pc := 1) (idx := 198) (by decide +kernel) mf_177 (Or.inl wd_1150)) <|
  jx_all1 (sd_ifne (pc := 4) (off := 9) (by decide +kernel) (by decide +kernel)) <|
  jx_all1 (sd_aload_n (pc := 7) (q := 0) (by decide +kernel) rfl) <|
  jx_all1 (sd_iconst (pc := 8) (n := (-1)) (by decide +kernel) (by decide +kernel)) <|
  jx_all1 (sd_vI (pc := 9) (idx := 87) (kd := 30) (by decide +kernel) mf_111 wd_888 rfl rfl) <|
  jx_all1 (sd_ireturn (pc := 12) (by decide +kernel) rfl) <|
  jx_all1 (sd_aload_n (pc := 13) (q := 0) (by decide +kernel) rfl) <|
  jx_all1 (sd_gR (pc := 14) kf_30 (f := 10) (q := (jx_f1 40 0)) (idx := 28) (by decide +kernel) rfl wd_820 rfl) <|
  jx_all1 (sd_iload_n (pc := 17) (q := 1) (by decide +kernel) rfl) <|
  jx_all1 (sd_iaload (pc := 18) (by decide +kernel)) <|
  jx_all1 (sd_ifge (pc := 19) (off := 10) (by decide +kernel) (by decide +kernel)) <|
  jx_all1 (sd_aload_n (pc := 22) (q := 0) (by decide +kernel) rfl) <|
  jx_all1 (sd_bipush (pc := 23) (n := (-6)) (by decide +kernel) (by decide +kernel)) <|
  jx_all1 (sd_vI (pc := 25) (idx := 87) (kd := 30) (by decide +kernel) mf_111 wd_888 rfl rfl) <|
  jx_all1 (sd_ireturn (pc := 28) (by decide +kernel) rfl) <|
  jx_all1 (sd_aload_n (pc := 29) (q := 0) (by decide +kernel) rfl) <|
  jx_all1 (sd_vV (pc := 30) (idx := 94) (kd := 30) (by decide +kernel) mf_114 wd_900 rfl rfl) <|
  jx_all1 (sd_aload_n (pc := 33) (q := 0) (by decide +kernel) rfl) <|
  jx_all1 (sd_aload_n (pc := 34) (q := 0) (by decide +kernel) rfl) <|
  jx_all1 (sd_gR (pc := 35) kf_30 (f := 9) (q := (jx_f1 39 0)) (idx := 25) (by decide +kernel) rfl wd_819 rfl) <|
  jx_all1 (sd_bipush (pc := 38) (n := 84) (by decide +kernel) (by decide +kernel)) <|
  jx_all1 (sd_iload_n (pc := 40) (q := 1) (by decide +kernel) rfl) <|
  jx_all1 (sd_imul (pc := 41) (by decide +kernel)) <|
  jx_all1 (sd_vV (pc := 42) (idx := 91) (kd := 30) (by decide +kernel) mf_112 wd_892 rfl rfl) <|
  jx_all1 (sd_aload_n (pc := 45) (q := 0) (by decide +kernel) rfl) <|
  jx_all1 (sd_gI (pc := 46) kf_30 (f := 0) (q := jx_f0) (idx := 70) (by decide +kernel) rfl wd_810 rfl) <|
  jx_all1 (sd_ireturn (pc := 49) (by decide +kernel) rfl) <|
  jx_all0
set_option maxRecDepth 100000 in
theorem sn_179 (D : jx_D) : jx_all (fun q => jx_Snd cX10_as 5 RX10 (some .int) D q.1 q.2) (tb_179 D) := by
  unfold tb_179
  exact jx_all1 (sd_iload_n (pc := 0) (q := 1) (by decide +kernel) rfl) <|
  jx_all1 (sd_cI (pc := 1) (idx := 198) (by decide +kernel) mf_177 (Or.inl wd_1150)) <|
  jx_all1 (sd_ifeq (pc := 4) (off := 12) (by decide +kernel) (by decide +kernel)) <|
  jx_all1 (sd_iload_n (pc := 7) (q := 2) (by decide +kernel) rfl) <|
  jx_all1 (sd_iflt (pc := 8) (off := 8) (by decide +kernel) (by decide +kernel)) <|
  jx_all1 (sd_iload_n (pc := 11) (q := 2) (by decide +kernel) rfl) <|
  jx_all1 (sd_iconst (pc := 12) (n := 3) (by decide +kernel) (by decide +kernel)) <|
  jx_all1 (sd_icle (pc := 13) (off := 9) (by decide +kernel) (by decide +kernel)) <|
  jx_all1 (sd_aload_n (pc := 16) (q := 0) (by decide +kernel) rfl) <|
  jx_all1 (sd_iconst (pc := 17) (n := (-1)) (by decide +kernel) (by decide +kernel)) <|
  jx_all1 (sd_vI (pc := 18) (idx := 87) (kd := 30) (by decide +kernel) mf_111 wd_888 rfl rfl) <|
  jx_all1 (sd_ireturn (pc := 21) (by decide +kernel) rfl) <|
  jx_all1 (sd_aload_n (pc := 22) (q := 0) (by decide +kernel) rfl) <|
  jx_all1 (sd_gR (pc := 23) kf_30 (f := 10) (q := (jx_f1 40 0)) (idx := 28) (by decide +kernel) rfl wd_820 rfl) <|
  jx_all1 (sd_iload_n (pc := 26) (q := 1) (by decide +kernel) rfl) <|
  jx_all1 (sd_iaload (pc := 27) (by decide +kernel)) <|
  jx_all1 (sd_ifge (pc := 28) (off := 10) (by decide +kernel) (by decide +kernel)) <|
  jx_all1 (sd_aload_n (pc := 31) (q := 0) (by decide +kernel) rfl) <|
  jx_all1 (sd_bipush (pc := 32) (n := (-6)) (by decide +kernel) (by decide +kernel)) <|
  jx_all1 (sd_vI (pc := 34) (idx := 87) (kd := 30) (by decide +kernel) mf_111 wd_888 rfl rfl) <|
  jx_all1 (sd_ireturn (pc := 37) (by decide +kernel) rfl) <|
  jx_all1 (sd_aload_n (pc := 38) (q := 0) (by decide +kernel) rfl) <|
  jx_all1 (sd_gR (pc := 39) kf_30 (f := 10) (q := (jx_f1 40 0)) (idx := 28) (by decide +kernel) rfl wd_820 rfl) <|
  jx_all1 (sd_iload_n (pc := 42) (q := 1) (by decide +kernel) rfl) <|
  jx_all1 (sd_iaload (pc := 43) (by decide +kernel)) <|
  jx_all1 (sd_istore_n (pc := 44) (q := 3) (by decide +kernel) rfl) <|
  jx_all1 (sd_iload_n (pc := 45) (q := 3) (by decide +kernel) rfl) <|
  jx_all1 (sd_iload_n (pc := 46) (q := 2) (by decide +kernel) rfl) <|
  jx_all1 (sd_iceq (pc := 47) (off := 17) (by decide +kernel) (by decide +kernel)) <|
  jx_all1 (sd_iload_n (pc := 50) (q := 2) (by decide +kernel) rfl) <|
  jx_all1 (sd_ifeq (pc := 51) (off := 13) (by decide +kernel) (by decide +kernel)) <|
  jx_all1 (sd_iload_n (pc := 54) (q := 2) (by decide +kernel) rfl) <|
  jx_all1 (sd_iconst (pc := 55) (n := 1) (by decide +kernel) (by decide +kernel)) <|
  jx_all1 (sd_icne (pc := 56) (off := 12) (by decide +kernel) (by decide +kernel)) <|
  jx_all1 (sd_iload_n (pc := 59) (q := 3) (by decide +kernel) rfl) <|
  jx_all1 (sd_iconst (pc := 60) (n := 2) (by decide +kernel) (by decide +kernel)) <|
  jx_all1 (sd_icne (pc := 61) (off := 7) (by decide +kernel) (by decide +kernel)) <|
  jx_all1 (sd_iconst (pc := 64) (n := 1) (by decide +kernel) (by decide +kernel)) <|
  jx_all1 (sd_goto (pc := 65) (off := 4) (by decide +kernel) (by decide +kernel)) <|
  jx_all1 (sd_iconst (pc := 68) (n := 0) (by decide +kernel) (by decide +kernel)) <|
  jx_all1 (sd_istore (pc := 69) (by decide +kernel)) <|
  jx_all1 (sd_iload (pc := 71) (by decide +kernel)) <|
  jx_all1 (sd_ifeq (pc := 73) (off := 17) (by decide +kernel) (by decide +kernel)) <|
  jx_all1 (sd_aload_n (pc := 76) (q := 0) (by decide +kernel) rfl) <|
  jx_all1 (sd_gR (pc := 77) kf_30 (f := 9) (q := (jx_f1 39 0)) (idx := 25) (by decide +kernel) rfl wd_819 rfl) <|
  jx_all1 (sd_bipush (pc := 80) (n := 84) (by decide +kernel) (by decide +kernel)) <|
  jx_all1 (sd_iload_n (pc := 82) (q := 1) (by decide +kernel) rfl) <|
  jx_all1 (sd_imul (pc := 83) (by decide +kernel)) <|
  jx_all1 (sd_iconst (pc := 84) (n := 1) (by decide +kernel) (by decide +kernel)) <|
  jx_all1 (sd_iadd (pc := 85) (by decide +kernel)) <|
  jx_all1 (sd_iaload (pc := 86) (by decide +kernel)) <|
  jx_all1 (sd_goto (pc := 87) (off := 9) (by decide +kernel) (by decide +kernel)) <|
  jx_all1 (sd_aload_n (pc := 90) (q := 0) (by decide +kernel) rfl) <|
  jx_all1 (sd_bipush (pc := 91) (n := (-4)) (by decide +kernel) (by decide +kernel)) <|
  jx_all1 (sd_vI (pc := 93) (idx := 87) (kd := 30) (by decide +kernel) mf_111 wd_888 rfl rfl) <|
  jx_all1 (sd_ireturn (pc := 96) (by decide +kernel) rfl) <|
  jx_all0
set_option maxRecDepth 100000 in
theorem sn_180 (D : jx_D) : jx_all (fun q => jx_Snd cX10_told 2 RX10 (some .int) D q.1 q.2) (tb_180 D) := by
  unfold tb_180
  exact jx_all1 (sd_iload_n (pc := 0) (q := 1) (by decide +kernel) rfl) <|
  jx_all1 (sd_iflt (pc := 1) (off := 9) (by decide +kernel) (by decide +kernel)) <|
  jx_all1 (sd_iload_n (pc := 4) (q := 1) (by decide +kernel) rfl) <|
  jx_all1 (sd_bipush (pc := 5) (n := 6) (by decide +kernel) (by decide +kernel)) <|
  jx_all1 (sd_icle (pc := 7) (off := 9) (by decide +kernel) (by decide +kernel)) <|
  jx_all1 (sd_aload_n (pc := 10) (q := 0) (by decide +kernel) rfl) <|
  jx_all1 (sd_iconst (pc := 11) (n := (-1)) (by decide +kernel) (by decide +kernel)) <|
  jx_all1 (sd_vI (pc := 12) (idx := 87) (kd := 30) (by decide +kernel) mf_111 wd_888 rfl rfl) <|
  jx_all1 (sd_ireturn (pc := 15) (by decide +kernel) rfl) <|
  jx_all1 (sd_iload_n (pc := 16) (q := 1) (by decide +kernel) rfl) <|
  jx_all1 (sd_sw (pc := 17) (dflt := 94) (lo0 := 0) (hi := 5) (offs := #[39, 44, 49, 62, 80, 85]) (len := 39) (by decide +kernel) (by decide +kernel) (by decide +kernel) (jx_swr (hi := 5) (by decide +kernel))) <|
  jx_all1 (sd_aload_n (pc := 56) (q := 0) (by decide +kernel) rfl) <|
  jx_all1 (sd_gI (pc := 57) kf_30 (f := 0) (q := jx_f0) (idx := 70) (by decide +kernel) rfl wd_810 rfl) <|
  jx_all1 (sd_ireturn (pc := 60) (by decide +kernel) rfl) <|
  jx_all1 (sd_aload_n (pc := 61) (q := 0) (by decide +kernel) rfl) <|
  jx_all1 (sd_gI (pc := 62) kf_30 (f := 1) (q := jx_f0) (idx := 73) (by decide +kernel) rfl wd_811 rfl) <|
  jx_all1 (sd_ireturn (pc := 65) (by decide +kernel) rfl) <|
  jx_all1 (sd_aload_n (pc := 66) (q := 0) (by decide +kernel) rfl) <|
  jx_all1 (sd_gI (pc := 67) kf_30 (f := 2) (q := jx_f0) (idx := 76) (by decide +kernel) rfl wd_812 rfl) <|
  jx_all1 (sd_ifeq (pc := 70) (off := 7) (by decide +kernel) (by decide +kernel)) <|
  jx_all1 (sd_iconst (pc := 73) (n := 1) (by decide +kernel) (by decide +kernel)) <|
  jx_all1 (sd_goto (pc := 74) (off := 4) (by decide +kernel) (by decide +kernel)) <|
  jx_all1 (sd_iconst (pc := 77) (n := 0) (by decide +kernel) (by decide +kernel)) <|
  jx_all1 (sd_ireturn (pc := 78) (by decide +kernel) rfl) <|
  jx_all1 (sd_aload_n (pc := 79) (q := 0) (by decide +kernel) rfl) <|
  jx_all1 (sd_iconst (pc := 80) (n := 0) (by decide +kernel) (by decide +kernel)) <|
  jx_all1 (sd_aload_n (pc := 81) (q := 0) (by decide +kernel) rfl) <|
  jx_all1 (sd_vI (pc := 82) (idx := 131) (kd := 30) (by decide +kernel) mf_137 wd_989 rfl rfl) <|
  jx_all1 (sd_vI (pc := 85) (idx := 153) (kd := 30) (by decide +kernel) mf_148 wd_1033 rfl rfl) <|
  jx_all1 (sd_ifeq (pc := 88) (off := 7) (by decide +kernel) (by decide +kernel)) <|
  jx_all1 (sd_iconst (pc := 91) (n := 1) (by decide +kernel) (by decide +kernel)) <|
  jx_all1 (sd_goto (pc := 92) (off := 4) (by decide +kernel) (by decide +kernel)) <|
  jx_all1 (sd_iconst (pc := 95) (n := 0) (by decide +kernel) (by decide +kernel)) <|
  jx_all1 (sd_ireturn (pc := 96) (by decide +kernel) rfl) <|
  jx_all1 (sd_aload_n (pc := 97) (q := 0) (by decide +kernel) rfl) <|
  jx_all1 (sd_gI (pc := 98) kf_30 (f := 14) (q := jx_f0) (idx := 195) (by decide +kernel) rfl wd_824 rfl) <|
  jx_all1 (sd_ireturn (pc := 101) (by decide +kernel) rfl) <|
  jx_all1 (sd_aload_n (pc := 102) (q := 0) (by decide +kernel) rfl) <|
  jx_all1 (sd_aload_n (pc := 103) (q := 0) (by decide +kernel) rfl) <|
  jx_all1 (sd_vI (pc := 104) (idx := 131) (kd := 30) (by decide +kernel) mf_137 wd_989 rfl rfl) <|
  jx_all1 (sd_vI (pc := 107) (idx := 159) (kd := 30) (by decide +kernel) mf_155 wd_1061 rfl rfl) <|
  jx_all1 (sd_ireturn (pc := 110) (by decide +kernel) rfl) <|
  jx_all1 (sd_aload_n (pc := 111) (q := 0) (by decide +kernel) rfl) <|
  jx_all1 (sd_gI (pc := 112) kf_30 (f := 16) (q := jx_f0) (idx := 66) (by decide +kernel) rfl wd_826 rfl) <|
  jx_all1 (sd_ireturn (pc := 115) (by decide +kernel) rfl) <|
  jx_all0
