-- printed by wip/whole/tool/emit6.py
set_option maxRecDepth 20000 in
set_option maxHeartbeats 2000000 in
theorem c_Terms (l : Launch) : cMet l ⟨"TermForge$Terms", "<init>", "()V"⟩ prog_8_method_1_code 1 ({ frames := 1, cells := 2, slots := 1200, locals := 12 } : Room) [tf_r 1] cl_1 cl_5 2 1200 := by
  refine c_start (oc := 1) (by decide) rfl rfl rfl ?_
  intro p e s m args below meth c D cA A ad0 X hi hr hlk
  refine c_aload_n X (k := 0) (by decide +kernel) rfl ?_
  refine c_obj X (ix := 3) (by decide +kernel) (tf_g 35 (by decide +kernel) (by decide +kernel)) (tf_g 28 (by decide +kernel) (by decide +kernel)) (tf_g 29 (by decide +kernel) (by decide +kernel)) ⟨by decide, by decide⟩ ?_
  refine c_norm 4 [(0, tf_r 1)] [] cl_1 0 0 (by decide +kernel) (by decide +kernel) (by decide +kernel) (by decide +kernel) (by decide +kernel) (by decide +kernel) ?_
  refine c_aload_n X (k := 0) (by decide +kernel) rfl ?_
  refine c_iconst X (z := 0) (by decide +kernel) ?_
  refine c_put0 X (ix := 9) (ci := 1) (j := 0) (fs := [none, some none, some none]) (by decide +kernel) rfl rfl rfl rfl rfl (by decide +kernel) ?_
  refine c_norm 9 [(0, tf_r 1)] [] cl_1 0 0 (by decide +kernel) (by decide +kernel) (by decide +kernel) (by decide +kernel) (by decide +kernel) (by decide +kernel) ?_
  refine c_aload_n X (k := 0) (by decide +kernel) rfl ?_
  refine c_sipush X (z := 300) (by decide +kernel) (by decide +kernel) ?_
  refine c_newa X (t := 0) (N := 300) rfl (tf_g 52 (by decide +kernel) (by decide +kernel)) (by decide +kernel) (by decide +kernel) (by decide +kernel) (by decide +kernel) (by decide +kernel) (by decide +kernel) (by decide +kernel) (by decide +kernel) (by decide +kernel) (by decide +kernel) ?_
  refine c_norm 15 [(0, tf_r 1)] [tf_r 2, tf_r 1] cl_2 1 300 (by decide +kernel) (by decide +kernel) (by decide +kernel) (by decide +kernel) (by decide +kernel) (by decide +kernel) ?_
  refine c_putF X hi (ix := 15) (ci := 1) (j := 1) (fs := [none, some none, some none]) (by decide +kernel) rfl rfl tf_uw1 tf_ty1 tf_tyok1 tf_nm1 rfl rfl (tf_tyok1 1 (by decide)) (fun _ => rfl) (fun _ => rfl) (by decide) (by decide +kernel) ?_
  refine c_norm 18 [(0, tf_r 1)] [] cl_3 1 300 (by decide +kernel) (by decide +kernel) (by decide +kernel) (by decide +kernel) (by decide +kernel) (by decide +kernel) ?_
  refine c_aload_n X (k := 0) (by decide +kernel) rfl ?_
  refine c_sipush X (z := 900) (by decide +kernel) (by decide +kernel) ?_
  refine c_newa X (t := 0) (N := 900) rfl (tf_g 52 (by decide +kernel) (by decide +kernel)) (by decide +kernel) (by decide +kernel) (by decide +kernel) (by decide +kernel) (by decide +kernel) (by decide +kernel) (by decide +kernel) (by decide +kernel) (by decide +kernel) (by decide +kernel) ?_
  refine c_norm 24 [(0, tf_r 1)] [tf_r 3, tf_r 1] cl_4 2 1200 (by decide +kernel) (by decide +kernel) (by decide +kernel) (by decide +kernel) (by decide +kernel) (by decide +kernel) ?_
  refine c_putF X hi (ix := 19) (ci := 1) (j := 2) (fs := [none, some (some 2), some none]) (by decide +kernel) rfl rfl tf_uw1 tf_ty1 tf_tyok1 tf_nm1 rfl rfl (tf_tyok1 2 (by decide)) (fun _ => rfl) (fun _ => rfl) (by decide) (by decide +kernel) ?_
  refine c_norm 27 [(0, tf_r 1)] [] cl_5 2 1200 (by decide +kernel) (by decide +kernel) (by decide +kernel) (by decide +kernel) (by decide +kernel) (by decide +kernel) ?_
  exact c_ret X hr hlk (by decide +kernel)

set_option maxRecDepth 20000 in
set_option maxHeartbeats 2000000 in
theorem c_Classes (l : Launch) : cMet l ⟨"TermForge$Classes", "<init>", "(LTermForge$Terms;)V"⟩ prog_2_method_1_code 2 ({ frames := 1, cells := 6, slots := 3002, locals := 12 } : Room) [tf_r 4, tf_r 1] cl_7 cl_20 6 3002 := by
  refine c_start (oc := 2) (by decide) rfl rfl rfl ?_
  intro p e s m args below meth c D cA A ad0 X hi hr hlk
  refine c_aload_n X (k := 0) (by decide +kernel) rfl ?_
  refine c_obj X (ix := 3) (by decide +kernel) (tf_g 58 (by decide +kernel) (by decide +kernel)) (tf_g 28 (by decide +kernel) (by decide +kernel)) (tf_g 29 (by decide +kernel) (by decide +kernel)) ⟨by decide, by decide⟩ ?_
  refine c_norm 4 [(0, tf_r 4), (1, tf_r 1)] [] cl_7 0 0 (by decide +kernel) (by decide +kernel) (by decide +kernel) (by decide +kernel) (by decide +kernel) (by decide +kernel) ?_
  refine c_aload_n X (k := 0) (by decide +kernel) rfl ?_
  refine c_iconst X (z := 0) (by decide +kernel) ?_
  refine c_put0 X (ix := 9) (ci := 2) (j := 0) (fs := [none, some none, some none, some none, some none, some none, some none, some none, none]) (by decide +kernel) rfl rfl rfl rfl rfl (by decide +kernel) ?_
  refine c_norm 9 [(0, tf_r 4), (1, tf_r 1)] [] cl_7 0 0 (by decide +kernel) (by decide +kernel) (by decide +kernel) (by decide +kernel) (by decide +kernel) (by decide +kernel) ?_
  refine c_aload_n X (k := 0) (by decide +kernel) rfl ?_
  refine c_sipush X (z := 300) (by decide +kernel) (by decide +kernel) ?_
  refine c_newa X (t := 0) (N := 300) rfl (tf_g 52 (by decide +kernel) (by decide +kernel)) (by decide +kernel) (by decide +kernel) (by decide +kernel) (by decide +kernel) (by decide +kernel) (by decide +kernel) (by decide +kernel) (by decide +kernel) (by decide +kernel) (by decide +kernel) ?_
  refine c_norm 15 [(0, tf_r 4), (1, tf_r 1)] [tf_r 5, tf_r 4] cl_8 1 300 (by decide +kernel) (by decide +kernel) (by decide +kernel) (by decide +kernel) (by decide +kernel) (by decide +kernel) ?_
  refine c_putF X hi (ix := 15) (ci := 2) (j := 2) (fs := [none, some none, some none, some none, some none, some none, some none, some none, none]) (by decide +kernel) rfl rfl tf_uw2 tf_ty2 tf_tyok2 tf_nm2 rfl rfl (tf_tyok2 2 (by decide)) (fun _ => rfl) (fun _ => rfl) (by decide) (by decide +kernel) ?_
  refine c_norm 18 [(0, tf_r 4), (1, tf_r 1)] [] cl_9 1 300 (by decide +kernel) (by decide +kernel) (by decide +kernel) (by decide +kernel) (by decide +kernel) (by decide +kernel) ?_
  refine c_aload_n X (k := 0) (by decide +kernel) rfl ?_
  refine c_sipush X (z := 300) (by decide +kernel) (by decide +kernel) ?_
  refine c_newa X (t := 0) (N := 300) rfl (tf_g 52 (by decide +kernel) (by decide +kernel)) (by decide +kernel) (by decide +kernel) (by decide +kernel) (by decide +kernel) (by decide +kernel) (by decide +kernel) (by decide +kernel) (by decide +kernel) (by decide +kernel) (by decide +kernel) ?_
  refine c_norm 24 [(0, tf_r 4), (1, tf_r 1)] [tf_r 6, tf_r 4] cl_10 2 600 (by decide +kernel) (by decide +kernel) (by decide +kernel) (by decide +kernel) (by decide +kernel) (by decide +kernel) ?_
  refine c_putF X hi (ix := 19) (ci := 2) (j := 3) (fs := [none, some none, some (some 5), some none, some none, some none, some none, some none, none]) (by decide +kernel) rfl rfl tf_uw2 tf_ty2 tf_tyok2 tf_nm2 rfl rfl (tf_tyok2 3 (by decide)) (fun _ => rfl) (fun _ => rfl) (by decide) (by decide +kernel) ?_
  refine c_norm 27 [(0, tf_r 4), (1, tf_r 1)] [] cl_11 2 600 (by decide +kernel) (by decide +kernel) (by decide +kernel) (by decide +kernel) (by decide +kernel) (by decide +kernel) ?_
  refine c_aload_n X (k := 0) (by decide +kernel) rfl ?_
  refine c_sipush X (z := 300) (by decide +kernel) (by decide +kernel) ?_
  refine c_newa X (t := 0) (N := 300) rfl (tf_g 52 (by decide +kernel) (by decide +kernel)) (by decide +kernel) (by decide +kernel) (by decide +kernel) (by decide +kernel) (by decide +kernel) (by decide +kernel) (by decide +kernel) (by decide +kernel) (by decide +kernel) (by decide +kernel) ?_
  refine c_norm 33 [(0, tf_r 4), (1, tf_r 1)] [tf_r 7, tf_r 4] cl_12 3 900 (by decide +kernel) (by decide +kernel) (by decide +kernel) (by decide +kernel) (by decide +kernel) (by decide +kernel) ?_
  refine c_putF X hi (ix := 22) (ci := 2) (j := 4) (fs := [none, some none, some (some 5), some (some 6), some none, some none, some none, some none, none]) (by decide +kernel) rfl rfl tf_uw2 tf_ty2 tf_tyok2 tf_nm2 rfl rfl (tf_tyok2 4 (by decide)) (fun _ => rfl) (fun _ => rfl) (by decide) (by decide +kernel) ?_
  refine c_norm 36 [(0, tf_r 4), (1, tf_r 1)] [] cl_13 3 900 (by decide +kernel) (by decide +kernel) (by decide +kernel) (by decide +kernel) (by decide +kernel) (by decide +kernel) ?_
  refine c_aload_n X (k := 0) (by decide +kernel) rfl ?_
  refine c_sipush X (z := 300) (by decide +kernel) (by decide +kernel) ?_
  refine c_newa X (t := 0) (N := 300) rfl (tf_g 52 (by decide +kernel) (by decide +kernel)) (by decide +kernel) (by decide +kernel) (by decide +kernel) (by decide +kernel) (by decide +kernel) (by decide +kernel) (by decide +kernel) (by decide +kernel) (by decide +kernel) (by decide +kernel) ?_
  refine c_norm 42 [(0, tf_r 4), (1, tf_r 1)] [tf_r 8, tf_r 4] cl_14 4 1200 (by decide +kernel) (by decide +kernel) (by decide +kernel) (by decide +kernel) (by decide +kernel) (by decide +kernel) ?_
  refine c_putF X hi (ix := 25) (ci := 2) (j := 5) (fs := [none, some none, some (some 5), some (some 6), some (some 7), some none, some none, some none, none]) (by decide +kernel) rfl rfl tf_uw2 tf_ty2 tf_tyok2 tf_nm2 rfl rfl (tf_tyok2 5 (by decide)) (fun _ => rfl) (fun _ => rfl) (by decide) (by decide +kernel) ?_
  refine c_norm 45 [(0, tf_r 4), (1, tf_r 1)] [] cl_15 4 1200 (by decide +kernel) (by decide +kernel) (by decide +kernel) (by decide +kernel) (by decide +kernel) (by decide +kernel) ?_
  refine c_aload_n X (k := 0) (by decide +kernel) rfl ?_
  refine c_sipush X (z := 901) (by decide +kernel) (by decide +kernel) ?_
  refine c_newa X (t := 0) (N := 901) rfl (tf_g 52 (by decide +kernel) (by decide +kernel)) (by decide +kernel) (by decide +kernel) (by decide +kernel) (by decide +kernel) (by decide +kernel) (by decide +kernel) (by decide +kernel) (by decide +kernel) (by decide +kernel) (by decide +kernel) ?_
  refine c_norm 51 [(0, tf_r 4), (1, tf_r 1)] [tf_r 9, tf_r 4] cl_16 5 2101 (by decide +kernel) (by decide +kernel) (by decide +kernel) (by decide +kernel) (by decide +kernel) (by decide +kernel) ?_
  refine c_putF X hi (ix := 28) (ci := 2) (j := 6) (fs := [none, some none, some (some 5), some (some 6), some (some 7), some (some 8), some none, some none, none]) (by decide +kernel) rfl rfl tf_uw2 tf_ty2 tf_tyok2 tf_nm2 rfl rfl (tf_tyok2 6 (by decide)) (fun _ => rfl) (fun _ => rfl) (by decide) (by decide +kernel) ?_
  refine c_norm 54 [(0, tf_r 4), (1, tf_r 1)] [] cl_17 5 2101 (by decide +kernel) (by decide +kernel) (by decide +kernel) (by decide +kernel) (by decide +kernel) (by decide +kernel) ?_
  refine c_aload_n X (k := 0) (by decide +kernel) rfl ?_
  refine c_sipush X (z := 901) (by decide +kernel) (by decide +kernel) ?_
  refine c_newa X (t := 0) (N := 901) rfl (tf_g 52 (by decide +kernel) (by decide +kernel)) (by decide +kernel) (by decide +kernel) (by decide +kernel) (by decide +kernel) (by decide +kernel) (by decide +kernel) (by decide +kernel) (by decide +kernel) (by decide +kernel) (by decide +kernel) ?_
  refine c_norm 60 [(0, tf_r 4), (1, tf_r 1)] [tf_r 10, tf_r 4] cl_18 6 3002 (by decide +kernel) (by decide +kernel) (by decide +kernel) (by decide +kernel) (by decide +kernel) (by decide +kernel) ?_
  refine c_putF X hi (ix := 31) (ci := 2) (j := 7) (fs := [none, some none, some (some 5), some (some 6), some (some 7), some (some 8), some (some 9), some none, none]) (by decide +kernel) rfl rfl tf_uw2 tf_ty2 tf_tyok2 tf_nm2 rfl rfl (tf_tyok2 7 (by decide)) (fun _ => rfl) (fun _ => rfl) (by decide) (by decide +kernel) ?_
  refine c_norm 63 [(0, tf_r 4), (1, tf_r 1)] [] cl_19 6 3002 (by decide +kernel) (by decide +kernel) (by decide +kernel) (by decide +kernel) (by decide +kernel) (by decide +kernel) ?_
  refine c_aload_n X (k := 0) (by decide +kernel) rfl ?_
  refine c_iconst X (z := 0) (by decide +kernel) ?_
  refine c_put0 X (ix := 34) (ci := 2) (j := 8) (fs := [none, some none, some (some 5), some (some 6), some (some 7), some (some 8), some (some 9), some (some 10), none]) (by decide +kernel) rfl rfl rfl rfl rfl (by decide +kernel) ?_
  refine c_norm 68 [(0, tf_r 4), (1, tf_r 1)] [] cl_19 6 3002 (by decide +kernel) (by decide +kernel) (by decide +kernel) (by decide +kernel) (by decide +kernel) (by decide +kernel) ?_
  refine c_aload_n X (k := 0) (by decide +kernel) rfl ?_
  refine c_aload_n X (k := 1) (by decide +kernel) rfl ?_
  refine c_putF X hi (ix := 37) (ci := 2) (j := 1) (fs := [none, some none, some (some 5), some (some 6), some (some 7), some (some 8), some (some 9), some (some 10), none]) (by decide +kernel) rfl rfl tf_uw2 tf_ty2 tf_tyok2 tf_nm2 rfl rfl (tf_tyok2 1 (by decide)) (fun _ => rfl) (fun _ => rfl) (by decide) (by decide +kernel) ?_
  refine c_norm 73 [(0, tf_r 4), (1, tf_r 1)] [] cl_20 6 3002 (by decide +kernel) (by decide +kernel) (by decide +kernel) (by decide +kernel) (by decide +kernel) (by decide +kernel) ?_
  exact c_ret X hr hlk (by decide +kernel)

set_option maxRecDepth 20000 in
set_option maxHeartbeats 2000000 in
theorem c_Levels (l : Launch) : cMet l ⟨"TermForge$Levels", "<init>", "()V"⟩ prog_4_method_1_code 1 ({ frames := 1, cells := 3, slots := 60, locals := 12 } : Room) [tf_r 11] cl_22 cl_28 3 60 := by
  refine c_start (oc := 3) (by decide) rfl rfl rfl ?_
  intro p e s m args below meth c D cA A ad0 X hi hr hlk
  refine c_aload_n X (k := 0) (by decide +kernel) rfl ?_
  refine c_obj X (ix := 3) (by decide +kernel) (tf_g 93 (by decide +kernel) (by decide +kernel)) (tf_g 28 (by decide +kernel) (by decide +kernel)) (tf_g 29 (by decide +kernel) (by decide +kernel)) ⟨by decide, by decide⟩ ?_
  refine c_norm 4 [(0, tf_r 11)] [] cl_22 0 0 (by decide +kernel) (by decide +kernel) (by decide +kernel) (by decide +kernel) (by decide +kernel) (by decide +kernel) ?_
  refine c_aload_n X (k := 0) (by decide +kernel) rfl ?_
  refine c_iconst X (z := 0) (by decide +kernel) ?_
  refine c_put0 X (ix := 9) (ci := 3) (j := 0) (fs := [none, some none, some none, some none]) (by decide +kernel) rfl rfl rfl rfl rfl (by decide +kernel) ?_
  refine c_norm 9 [(0, tf_r 11)] [] cl_22 0 0 (by decide +kernel) (by decide +kernel) (by decide +kernel) (by decide +kernel) (by decide +kernel) (by decide +kernel) ?_
  refine c_aload_n X (k := 0) (by decide +kernel) rfl ?_
  refine c_bipush X (z := 20) (by decide +kernel) (by decide +kernel) ?_
  refine c_newa X (t := 0) (N := 20) rfl (tf_g 52 (by decide +kernel) (by decide +kernel)) (by decide +kernel) (by decide +kernel) (by decide +kernel) (by decide +kernel) (by decide +kernel) (by decide +kernel) (by decide +kernel) (by decide +kernel) (by decide +kernel) (by decide +kernel) ?_
  refine c_norm 14 [(0, tf_r 11)] [tf_r 12, tf_r 11] cl_23 1 20 (by decide +kernel) (by decide +kernel) (by decide +kernel) (by decide +kernel) (by decide +kernel) (by decide +kernel) ?_
  refine c_putF X hi (ix := 15) (ci := 3) (j := 1) (fs := [none, some none, some none, some none]) (by decide +kernel) rfl rfl tf_uw3 tf_ty3 tf_tyok3 tf_nm3 rfl rfl (tf_tyok3 1 (by decide)) (fun _ => rfl) (fun _ => rfl) (by decide) (by decide +kernel) ?_
  refine c_norm 17 [(0, tf_r 11)] [] cl_24 1 20 (by decide +kernel) (by decide +kernel) (by decide +kernel) (by decide +kernel) (by decide +kernel) (by decide +kernel) ?_
  refine c_aload_n X (k := 0) (by decide +kernel) rfl ?_
  refine c_bipush X (z := 20) (by decide +kernel) (by decide +kernel) ?_
  refine c_newa X (t := 0) (N := 20) rfl (tf_g 52 (by decide +kernel) (by decide +kernel)) (by decide +kernel) (by decide +kernel) (by decide +kernel) (by decide +kernel) (by decide +kernel) (by decide +kernel) (by decide +kernel) (by decide +kernel) (by decide +kernel) (by decide +kernel) ?_
  refine c_norm 22 [(0, tf_r 11)] [tf_r 13, tf_r 11] cl_25 2 40 (by decide +kernel) (by decide +kernel) (by decide +kernel) (by decide +kernel) (by decide +kernel) (by decide +kernel) ?_
  refine c_putF X hi (ix := 19) (ci := 3) (j := 2) (fs := [none, some (some 12), some none, some none]) (by decide +kernel) rfl rfl tf_uw3 tf_ty3 tf_tyok3 tf_nm3 rfl rfl (tf_tyok3 2 (by decide)) (fun _ => rfl) (fun _ => rfl) (by decide) (by decide +kernel) ?_
  refine c_norm 25 [(0, tf_r 11)] [] cl_26 2 40 (by decide +kernel) (by decide +kernel) (by decide +kernel) (by decide +kernel) (by decide +kernel) (by decide +kernel) ?_
  refine c_aload_n X (k := 0) (by decide +kernel) rfl ?_
  refine c_bipush X (z := 20) (by decide +kernel) (by decide +kernel) ?_
  refine c_newa X (t := 0) (N := 20) rfl (tf_g 52 (by decide +kernel) (by decide +kernel)) (by decide +kernel) (by decide +kernel) (by decide +kernel) (by decide +kernel) (by decide +kernel) (by decide +kernel) (by decide +kernel) (by decide +kernel) (by decide +kernel) (by decide +kernel) ?_
  refine c_norm 30 [(0, tf_r 11)] [tf_r 14, tf_r 11] cl_27 3 60 (by decide +kernel) (by decide +kernel) (by decide +kernel) (by decide +kernel) (by decide +kernel) (by decide +kernel) ?_
  refine c_putF X hi (ix := 22) (ci := 3) (j := 3) (fs := [none, some (some 12), some (some 13), some none]) (by decide +kernel) rfl rfl tf_uw3 tf_ty3 tf_tyok3 tf_nm3 rfl rfl (tf_tyok3 3 (by decide)) (fun _ => rfl) (fun _ => rfl) (by decide) (by decide +kernel) ?_
  refine c_norm 33 [(0, tf_r 11)] [] cl_28 3 60 (by decide +kernel) (by decide +kernel) (by decide +kernel) (by decide +kernel) (by decide +kernel) (by decide +kernel) ?_
  exact c_ret X hr hlk (by decide +kernel)

set_option maxRecDepth 20000 in
set_option maxHeartbeats 2000000 in
theorem c_Trees (l : Launch) : cMet l ⟨"TermForge$Trees", "<init>", "()V"⟩ prog_9_method_1_code 1 ({ frames := 1, cells := 8, slots := 3212, locals := 12 } : Room) [tf_r 15] cl_30 cl_46 8 3212 := by
  refine c_start (oc := 4) (by decide) rfl rfl rfl ?_
  intro p e s m args below meth c D cA A ad0 X hi hr hlk
  refine c_aload_n X (k := 0) (by decide +kernel) rfl ?_
  refine c_obj X (ix := 3) (by decide +kernel) (tf_g 113 (by decide +kernel) (by decide +kernel)) (tf_g 28 (by decide +kernel) (by decide +kernel)) (tf_g 29 (by decide +kernel) (by decide +kernel)) ⟨by decide, by decide⟩ ?_
  refine c_norm 4 [(0, tf_r 15)] [] cl_30 0 0 (by decide +kernel) (by decide +kernel) (by decide +kernel) (by decide +kernel) (by decide +kernel) (by decide +kernel) ?_
  refine c_aload_n X (k := 0) (by decide +kernel) rfl ?_
  refine c_iconst X (z := 0) (by decide +kernel) ?_
  refine c_put0 X (ix := 9) (ci := 4) (j := 0) (fs := [none, none, some none, some none, some none, some none, some none, some none, some none, some none]) (by decide +kernel) rfl rfl rfl rfl rfl (by decide +kernel) ?_
  refine c_norm 9 [(0, tf_r 15)] [] cl_30 0 0 (by decide +kernel) (by decide +kernel) (by decide +kernel) (by decide +kernel) (by decide +kernel) (by decide +kernel) ?_
  refine c_aload_n X (k := 0) (by decide +kernel) rfl ?_
  refine c_iconst X (z := 0) (by decide +kernel) ?_
  refine c_put0 X (ix := 15) (ci := 4) (j := 1) (fs := [none, none, some none, some none, some none, some none, some none, some none, some none, some none]) (by decide +kernel) rfl rfl rfl rfl rfl (by decide +kernel) ?_
  refine c_norm 14 [(0, tf_r 15)] [] cl_30 0 0 (by decide +kernel) (by decide +kernel) (by decide +kernel) (by decide +kernel) (by decide +kernel) (by decide +kernel) ?_
  refine c_aload_n X (k := 0) (by decide +kernel) rfl ?_
  refine c_sipush X (z := 300) (by decide +kernel) (by decide +kernel) ?_
  refine c_newa X (t := 0) (N := 300) rfl (tf_g 52 (by decide +kernel) (by decide +kernel)) (by decide +kernel) (by decide +kernel) (by decide +kernel) (by decide +kernel) (by decide +kernel) (by decide +kernel) (by decide +kernel) (by decide +kernel) (by decide +kernel) (by decide +kernel) ?_
  refine c_norm 20 [(0, tf_r 15)] [tf_r 16, tf_r 15] cl_31 1 300 (by decide +kernel) (by decide +kernel) (by decide +kernel) (by decide +kernel) (by decide +kernel) (by decide +kernel) ?_
  refine c_putF X hi (ix := 18) (ci := 4) (j := 2) (fs := [none, none, some none, some none, some none, some none, some none, some none, some none, some none]) (by decide +kernel) rfl rfl tf_uw4 tf_ty4 tf_tyok4 tf_nm4 rfl rfl (tf_tyok4 2 (by decide)) (fun _ => rfl) (fun _ => rfl) (by decide) (by decide +kernel) ?_
  refine c_norm 23 [(0, tf_r 15)] [] cl_32 1 300 (by decide +kernel) (by decide +kernel) (by decide +kernel) (by decide +kernel) (by decide +kernel) (by decide +kernel) ?_
  refine c_aload_n X (k := 0) (by decide +kernel) rfl ?_
  refine c_sipush X (z := 300) (by decide +kernel) (by decide +kernel) ?_
  refine c_newa X (t := 0) (N := 300) rfl (tf_g 52 (by decide +kernel) (by decide +kernel)) (by decide +kernel) (by decide +kernel) (by decide +kernel) (by decide +kernel) (by decide +kernel) (by decide +kernel) (by decide +kernel) (by decide +kernel) (by decide +kernel) (by decide +kernel) ?_
  refine c_norm 29 [(0, tf_r 15)] [tf_r 17, tf_r 15] cl_33 2 600 (by decide +kernel) (by decide +kernel) (by decide +kernel) (by decide +kernel) (by decide +kernel) (by decide +kernel) ?_
  refine c_putF X hi (ix := 22) (ci := 4) (j := 3) (fs := [none, none, some (some 16), some none, some none, some none, some none, some none, some none, some none]) (by decide +kernel) rfl rfl tf_uw4 tf_ty4 tf_tyok4 tf_nm4 rfl rfl (tf_tyok4 3 (by decide)) (fun _ => rfl) (fun _ => rfl) (by decide) (by decide +kernel) ?_
  refine c_norm 32 [(0, tf_r 15)] [] cl_34 2 600 (by decide +kernel) (by decide +kernel) (by decide +kernel) (by decide +kernel) (by decide +kernel) (by decide +kernel) ?_
  refine c_aload_n X (k := 0) (by decide +kernel) rfl ?_
  refine c_sipush X (z := 300) (by decide +kernel) (by decide +kernel) ?_
  refine c_newa X (t := 3) (N := 300) rfl (tf_g 153 (by decide +kernel) (by decide +kernel)) (by decide +kernel) (by decide +kernel) (by decide +kernel) (by decide +kernel) (by decide +kernel) (by decide +kernel) (by decide +kernel) (by decide +kernel) (by decide +kernel) (by decide +kernel) ?_
  refine c_norm 38 [(0, tf_r 15)] [tf_r 18, tf_r 15] cl_35 3 900 (by decide +kernel) (by decide +kernel) (by decide +kernel) (by decide +kernel) (by decide +kernel) (by decide +kernel) ?_
  refine c_putF X hi (ix := 25) (ci := 4) (j := 4) (fs := [none, none, some (some 16), some (some 17), some none, some none, some none, some none, some none, some none]) (by decide +kernel) rfl rfl tf_uw4 tf_ty4 tf_tyok4 tf_nm4 rfl rfl (tf_tyok4 4 (by decide)) (fun _ => rfl) (fun _ => rfl) (by decide) (by decide +kernel) ?_
  refine c_norm 41 [(0, tf_r 15)] [] cl_36 3 900 (by decide +kernel) (by decide +kernel) (by decide +kernel) (by decide +kernel) (by decide +kernel) (by decide +kernel) ?_
  refine c_aload_n X (k := 0) (by decide +kernel) rfl ?_
  refine c_sipush X (z := 300) (by decide +kernel) (by decide +kernel) ?_
  refine c_newa X (t := 0) (N := 300) rfl (tf_g 52 (by decide +kernel) (by decide +kernel)) (by decide +kernel) (by decide +kernel) (by decide +kernel) (by decide +kernel) (by decide +kernel) (by decide +kernel) (by decide +kernel) (by decide +kernel) (by decide +kernel) (by decide +kernel) ?_
  refine c_norm 47 [(0, tf_r 15)] [tf_r 19, tf_r 15] cl_37 4 1200 (by decide +kernel) (by decide +kernel) (by decide +kernel) (by decide +kernel) (by decide +kernel) (by decide +kernel) ?_
  refine c_putF X hi (ix := 29) (ci := 4) (j := 5) (fs := [none, none, some (some 16), some (some 17), some (some 18), some none, some none, some none, some none, some none]) (by decide +kernel) rfl rfl tf_uw4 tf_ty4 tf_tyok4 tf_nm4 rfl rfl (tf_tyok4 5 (by decide)) (fun _ => rfl) (fun _ => rfl) (by decide) (by decide +kernel) ?_
  refine c_norm 50 [(0, tf_r 15)] [] cl_38 4 1200 (by decide +kernel) (by decide +kernel) (by decide +kernel) (by decide +kernel) (by decide +kernel) (by decide +kernel) ?_
  refine c_aload_n X (k := 0) (by decide +kernel) rfl ?_
  refine c_sipush X (z := 900) (by decide +kernel) (by decide +kernel) ?_
  refine c_newa X (t := 0) (N := 900) rfl (tf_g 52 (by decide +kernel) (by decide +kernel)) (by decide +kernel) (by decide +kernel) (by decide +kernel) (by decide +kernel) (by decide +kernel) (by decide +kernel) (by decide +kernel) (by decide +kernel) (by decide +kernel) (by decide +kernel) ?_
  refine c_norm 56 [(0, tf_r 15)] [tf_r 20, tf_r 15] cl_39 5 2100 (by decide +kernel) (by decide +kernel) (by decide +kernel) (by decide +kernel) (by decide +kernel) (by decide +kernel) ?_
  refine c_putF X hi (ix := 32) (ci := 4) (j := 6) (fs := [none, none, some (some 16), some (some 17), some (some 18), some (some 19), some none, some none, some none, some none]) (by decide +kernel) rfl rfl tf_uw4 tf_ty4 tf_tyok4 tf_nm4 rfl rfl (tf_tyok4 6 (by decide)) (fun _ => rfl) (fun _ => rfl) (by decide) (by decide +kernel) ?_
  refine c_norm 59 [(0, tf_r 15)] [] cl_40 5 2100 (by decide +kernel) (by decide +kernel) (by decide +kernel) (by decide +kernel) (by decide +kernel) (by decide +kernel) ?_
  refine c_aload_n X (k := 0) (by decide +kernel) rfl ?_
  refine c_sipush X (z := 512) (by decide +kernel) (by decide +kernel) ?_
  refine c_newa X (t := 0) (N := 512) rfl (tf_g 52 (by decide +kernel) (by decide +kernel)) (by decide +kernel) (by decide +kernel) (by decide +kernel) (by decide +kernel) (by decide +kernel) (by decide +kernel) (by decide +kernel) (by decide +kernel) (by decide +kernel) (by decide +kernel) ?_
  refine c_norm 65 [(0, tf_r 15)] [tf_r 21, tf_r 15] cl_41 6 2612 (by decide +kernel) (by decide +kernel) (by decide +kernel) (by decide +kernel) (by decide +kernel) (by decide +kernel) ?_
  refine c_putF X hi (ix := 35) (ci := 4) (j := 7) (fs := [none, none, some (some 16), some (some 17), some (some 18), some (some 19), some (some 20), some none, some none, some none]) (by decide +kernel) rfl rfl tf_uw4 tf_ty4 tf_tyok4 tf_nm4 rfl rfl (tf_tyok4 7 (by decide)) (fun _ => rfl) (fun _ => rfl) (by decide) (by decide +kernel) ?_
  refine c_norm 68 [(0, tf_r 15)] [] cl_42 6 2612 (by decide +kernel) (by decide +kernel) (by decide +kernel) (by decide +kernel) (by decide +kernel) (by decide +kernel) ?_
  refine c_aload_n X (k := 0) (by decide +kernel) rfl ?_
  refine c_sipush X (z := 300) (by decide +kernel) (by decide +kernel) ?_
  refine c_newa X (t := 0) (N := 300) rfl (tf_g 52 (by decide +kernel) (by decide +kernel)) (by decide +kernel) (by decide +kernel) (by decide +kernel) (by decide +kernel) (by decide +kernel) (by decide +kernel) (by decide +kernel) (by decide +kernel) (by decide +kernel) (by decide +kernel) ?_
  refine c_norm 74 [(0, tf_r 15)] [tf_r 22, tf_r 15] cl_43 7 2912 (by decide +kernel) (by decide +kernel) (by decide +kernel) (by decide +kernel) (by decide +kernel) (by decide +kernel) ?_
  refine c_putF X hi (ix := 38) (ci := 4) (j := 8) (fs := [none, none, some (some 16), some (some 17), some (some 18), some (some 19), some (some 20), some (some 21), some none, some none]) (by decide +kernel) rfl rfl tf_uw4 tf_ty4 tf_tyok4 tf_nm4 rfl rfl (tf_tyok4 8 (by decide)) (fun _ => rfl) (fun _ => rfl) (by decide) (by decide +kernel) ?_
  refine c_norm 77 [(0, tf_r 15)] [] cl_44 7 2912 (by decide +kernel) (by decide +kernel) (by decide +kernel) (by decide +kernel) (by decide +kernel) (by decide +kernel) ?_
  refine c_aload_n X (k := 0) (by decide +kernel) rfl ?_
  refine c_sipush X (z := 300) (by decide +kernel) (by decide +kernel) ?_
  refine c_newa X (t := 0) (N := 300) rfl (tf_g 52 (by decide +kernel) (by decide +kernel)) (by decide +kernel) (by decide +kernel) (by decide +kernel) (by decide +kernel) (by decide +kernel) (by decide +kernel) (by decide +kernel) (by decide +kernel) (by decide +kernel) (by decide +kernel) ?_
  refine c_norm 83 [(0, tf_r 15)] [tf_r 23, tf_r 15] cl_45 8 3212 (by decide +kernel) (by decide +kernel) (by decide +kernel) (by decide +kernel) (by decide +kernel) (by decide +kernel) ?_
  refine c_putF X hi (ix := 41) (ci := 4) (j := 9) (fs := [none, none, some (some 16), some (some 17), some (some 18), some (some 19), some (some 20), some (some 21), some (some 22), some none]) (by decide +kernel) rfl rfl tf_uw4 tf_ty4 tf_tyok4 tf_nm4 rfl rfl (tf_tyok4 9 (by decide)) (fun _ => rfl) (fun _ => rfl) (by decide) (by decide +kernel) ?_
  refine c_norm 86 [(0, tf_r 15)] [] cl_46 8 3212 (by decide +kernel) (by decide +kernel) (by decide +kernel) (by decide +kernel) (by decide +kernel) (by decide +kernel) ?_
  exact c_ret X hr hlk (by decide +kernel)

set_option maxRecDepth 20000 in
set_option maxHeartbeats 2000000 in
theorem c_Finder (l : Launch) : cMet l ⟨"TermForge$Finder", "<init>", "(LTermForge$Terms;LTermForge$Classes;LTermForge$Trees;)V"⟩ prog_3_method_1_code 4 ({ frames := 1, cells := 4, slots := 1200, locals := 12 } : Room) [tf_r 24, tf_r 1, tf_r 4, tf_r 15] cl_48 cl_59 4 1200 := by
  refine c_start (oc := 5) (by decide) rfl rfl rfl ?_
  intro p e s m args below meth c D cA A ad0 X hi hr hlk
  refine c_aload_n X (k := 0) (by decide +kernel) rfl ?_
  refine c_obj X (ix := 3) (by decide +kernel) (tf_g 159 (by decide +kernel) (by decide +kernel)) (tf_g 28 (by decide +kernel) (by decide +kernel)) (tf_g 29 (by decide +kernel) (by decide +kernel)) ⟨by decide, by decide⟩ ?_
  refine c_norm 4 [(0, tf_r 24), (1, tf_r 1), (2, tf_r 4), (3, tf_r 15)] [] cl_48 0 0 (by decide +kernel) (by decide +kernel) (by decide +kernel) (by decide +kernel) (by decide +kernel) (by decide +kernel) ?_
  refine c_aload_n X (k := 0) (by decide +kernel) rfl ?_
  refine c_sipush X (z := 300) (by decide +kernel) (by decide +kernel) ?_
  refine c_newa X (t := 0) (N := 300) rfl (tf_g 52 (by decide +kernel) (by decide +kernel)) (by decide +kernel) (by decide +kernel) (by decide +kernel) (by decide +kernel) (by decide +kernel) (by decide +kernel) (by decide +kernel) (by decide +kernel) (by decide +kernel) (by decide +kernel) ?_
  refine c_norm 10 [(0, tf_r 24), (1, tf_r 1), (2, tf_r 4), (3, tf_r 15)] [tf_r 25, tf_r 24] cl_49 1 300 (by decide +kernel) (by decide +kernel) (by decide +kernel) (by decide +kernel) (by decide +kernel) (by decide +kernel) ?_
  refine c_putF X hi (ix := 9) (ci := 5) (j := 3) (fs := [some none, some none, some none, some none, some none, some none, some none, none, none]) (by decide +kernel) rfl rfl tf_uw5 tf_ty5 tf_tyok5 tf_nm5 rfl rfl (tf_tyok5 3 (by decide)) (fun _ => rfl) (fun _ => rfl) (by decide) (by decide +kernel) ?_
  refine c_norm 13 [(0, tf_r 24), (1, tf_r 1), (2, tf_r 4), (3, tf_r 15)] [] cl_50 1 300 (by decide +kernel) (by decide +kernel) (by decide +kernel) (by decide +kernel) (by decide +kernel) (by decide +kernel) ?_
  refine c_aload_n X (k := 0) (by decide +kernel) rfl ?_
  refine c_sipush X (z := 300) (by decide +kernel) (by decide +kernel) ?_
  refine c_newa X (t := 0) (N := 300) rfl (tf_g 52 (by decide +kernel) (by decide +kernel)) (by decide +kernel) (by decide +kernel) (by decide +kernel) (by decide +kernel) (by decide +kernel) (by decide +kernel) (by decide +kernel) (by decide +kernel) (by decide +kernel) (by decide +kernel) ?_
  refine c_norm 19 [(0, tf_r 24), (1, tf_r 1), (2, tf_r 4), (3, tf_r 15)] [tf_r 26, tf_r 24] cl_51 2 600 (by decide +kernel) (by decide +kernel) (by decide +kernel) (by decide +kernel) (by decide +kernel) (by decide +kernel) ?_
  refine c_putF X hi (ix := 15) (ci := 5) (j := 4) (fs := [some none, some none, some none, some (some 25), some none, some none, some none, none, none]) (by decide +kernel) rfl rfl tf_uw5 tf_ty5 tf_tyok5 tf_nm5 rfl rfl (tf_tyok5 4 (by decide)) (fun _ => rfl) (fun _ => rfl) (by decide) (by decide +kernel) ?_
  refine c_norm 22 [(0, tf_r 24), (1, tf_r 1), (2, tf_r 4), (3, tf_r 15)] [] cl_52 2 600 (by decide +kernel) (by decide +kernel) (by decide +kernel) (by decide +kernel) (by decide +kernel) (by decide +kernel) ?_
  refine c_aload_n X (k := 0) (by decide +kernel) rfl ?_
  refine c_sipush X (z := 300) (by decide +kernel) (by decide +kernel) ?_
  refine c_newa X (t := 0) (N := 300) rfl (tf_g 52 (by decide +kernel) (by decide +kernel)) (by decide +kernel) (by decide +kernel) (by decide +kernel) (by decide +kernel) (by decide +kernel) (by decide +kernel) (by decide +kernel) (by decide +kernel) (by decide +kernel) (by decide +kernel) ?_
  refine c_norm 28 [(0, tf_r 24), (1, tf_r 1), (2, tf_r 4), (3, tf_r 15)] [tf_r 27, tf_r 24] cl_53 3 900 (by decide +kernel) (by decide +kernel) (by decide +kernel) (by decide +kernel) (by decide +kernel) (by decide +kernel) ?_
  refine c_putF X hi (ix := 18) (ci := 5) (j := 5) (fs := [some none, some none, some none, some (some 25), some (some 26), some none, some none, none, none]) (by decide +kernel) rfl rfl tf_uw5 tf_ty5 tf_tyok5 tf_nm5 rfl rfl (tf_tyok5 5 (by decide)) (fun _ => rfl) (fun _ => rfl) (by decide) (by decide +kernel) ?_
  refine c_norm 31 [(0, tf_r 24), (1, tf_r 1), (2, tf_r 4), (3, tf_r 15)] [] cl_54 3 900 (by decide +kernel) (by decide +kernel) (by decide +kernel) (by decide +kernel) (by decide +kernel) (by decide +kernel) ?_
  refine c_aload_n X (k := 0) (by decide +kernel) rfl ?_
  refine c_sipush X (z := 300) (by decide +kernel) (by decide +kernel) ?_
  refine c_newa X (t := 0) (N := 300) rfl (tf_g 52 (by decide +kernel) (by decide +kernel)) (by decide +kernel) (by decide +kernel) (by decide +kernel) (by decide +kernel) (by decide +kernel) (by decide +kernel) (by decide +kernel) (by decide +kernel) (by decide +kernel) (by decide +kernel) ?_
  refine c_norm 37 [(0, tf_r 24), (1, tf_r 1), (2, tf_r 4), (3, tf_r 15)] [tf_r 28, tf_r 24] cl_55 4 1200 (by decide +kernel) (by decide +kernel) (by decide +kernel) (by decide +kernel) (by decide +kernel) (by decide +kernel) ?_
  refine c_putF X hi (ix := 21) (ci := 5) (j := 6) (fs := [some none, some none, some none, some (some 25), some (some 26), some (some 27), some none, none, none]) (by decide +kernel) rfl rfl tf_uw5 tf_ty5 tf_tyok5 tf_nm5 rfl rfl (tf_tyok5 6 (by decide)) (fun _ => rfl) (fun _ => rfl) (by decide) (by decide +kernel) ?_
  refine c_norm 40 [(0, tf_r 24), (1, tf_r 1), (2, tf_r 4), (3, tf_r 15)] [] cl_56 4 1200 (by decide +kernel) (by decide +kernel) (by decide +kernel) (by decide +kernel) (by decide +kernel) (by decide +kernel) ?_
  refine c_aload_n X (k := 0) (by decide +kernel) rfl ?_
  refine c_iconst X (z := 0) (by decide +kernel) ?_
  refine c_put0 X (ix := 24) (ci := 5) (j := 7) (fs := [some none, some none, some none, some (some 25), some (some 26), some (some 27), some (some 28), none, none]) (by decide +kernel) rfl rfl rfl rfl rfl (by decide +kernel) ?_
  refine c_norm 45 [(0, tf_r 24), (1, tf_r 1), (2, tf_r 4), (3, tf_r 15)] [] cl_56 4 1200 (by decide +kernel) (by decide +kernel) (by decide +kernel) (by decide +kernel) (by decide +kernel) (by decide +kernel) ?_
  refine c_aload_n X (k := 0) (by decide +kernel) rfl ?_
  refine c_iconst X (z := 0) (by decide +kernel) ?_
  refine c_put0 X (ix := 28) (ci := 5) (j := 8) (fs := [some none, some none, some none, some (some 25), some (some 26), some (some 27), some (some 28), none, none]) (by decide +kernel) rfl rfl rfl rfl rfl (by decide +kernel) ?_
  refine c_norm 50 [(0, tf_r 24), (1, tf_r 1), (2, tf_r 4), (3, tf_r 15)] [] cl_56 4 1200 (by decide +kernel) (by decide +kernel) (by decide +kernel) (by decide +kernel) (by decide +kernel) (by decide +kernel) ?_
  refine c_aload_n X (k := 0) (by decide +kernel) rfl ?_
  refine c_aload_n X (k := 1) (by decide +kernel) rfl ?_
  refine c_putF X hi (ix := 32) (ci := 5) (j := 0) (fs := [some none, some none, some none, some (some 25), some (some 26), some (some 27), some (some 28), none, none]) (by decide +kernel) rfl rfl tf_uw5 tf_ty5 tf_tyok5 tf_nm5 rfl rfl (tf_tyok5 0 (by decide)) (fun _ => rfl) (fun _ => rfl) (by decide) (by decide +kernel) ?_
  refine c_norm 55 [(0, tf_r 24), (1, tf_r 1), (2, tf_r 4), (3, tf_r 15)] [] cl_57 4 1200 (by decide +kernel) (by decide +kernel) (by decide +kernel) (by decide +kernel) (by decide +kernel) (by decide +kernel) ?_
  refine c_aload_n X (k := 0) (by decide +kernel) rfl ?_
  refine c_aload_n X (k := 2) (by decide +kernel) rfl ?_
  refine c_putF X hi (ix := 36) (ci := 5) (j := 1) (fs := [some (some 1), some none, some none, some (some 25), some (some 26), some (some 27), some (some 28), none, none]) (by decide +kernel) rfl rfl tf_uw5 tf_ty5 tf_tyok5 tf_nm5 rfl rfl (tf_tyok5 1 (by decide)) (fun _ => rfl) (fun _ => rfl) (by decide) (by decide +kernel) ?_
  refine c_norm 60 [(0, tf_r 24), (1, tf_r 1), (2, tf_r 4), (3, tf_r 15)] [] cl_58 4 1200 (by decide +kernel) (by decide +kernel) (by decide +kernel) (by decide +kernel) (by decide +kernel) (by decide +kernel) ?_
  refine c_aload_n X (k := 0) (by decide +kernel) rfl ?_
  refine c_aload_n X (k := 3) (by decide +kernel) rfl ?_
  refine c_putF X hi (ix := 40) (ci := 5) (j := 2) (fs := [some (some 1), some (some 4), some none, some (some 25), some (some 26), some (some 27), some (some 28), none, none]) (by decide +kernel) rfl rfl tf_uw5 tf_ty5 tf_tyok5 tf_nm5 rfl rfl (tf_tyok5 2 (by decide)) (fun _ => rfl) (fun _ => rfl) (by decide) (by decide +kernel) ?_
  refine c_norm 65 [(0, tf_r 24), (1, tf_r 1), (2, tf_r 4), (3, tf_r 15)] [] cl_59 4 1200 (by decide +kernel) (by decide +kernel) (by decide +kernel) (by decide +kernel) (by decide +kernel) (by decide +kernel) ?_
  exact c_ret X hr hlk (by decide +kernel)
