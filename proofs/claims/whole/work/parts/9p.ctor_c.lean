-- printed by wip/whole/tool/emit6.py
set_option maxRecDepth 20000 in
set_option maxHeartbeats 2000000 in
theorem c_Pairs (l : Launch) : cMet l ⟨"TermForge$Pairs", "<init>", "(LTermForge$Trees;)V"⟩ prog_6_method_1_code 2 ({ frames := 1, cells := 4, slots := 3600, locals := 12 } : Room) [tf_r 35, tf_r 15] cl_75 cl_84 4 3600 := by
  refine c_start (oc := 8) (by decide) rfl rfl rfl ?_
  intro p e s m args below meth c D cA A ad0 X hi hr hlk
  refine c_aload_n X (k := 0) (by decide +kernel) rfl ?_
  refine c_obj X (ix := 5) (by decide +kernel) (tf_g 233 (by decide +kernel) (by decide +kernel)) (tf_g 28 (by decide +kernel) (by decide +kernel)) (tf_g 29 (by decide +kernel) (by decide +kernel)) ⟨by decide, by decide⟩ ?_
  refine c_norm 4 [(0, tf_r 35), (1, tf_r 15)] [] cl_75 0 0 (by decide +kernel) (by decide +kernel) (by decide +kernel) (by decide +kernel) (by decide +kernel) (by decide +kernel) ?_
  refine c_aload_n X (k := 0) (by decide +kernel) rfl ?_
  refine c_iconst X (z := 0) (by decide +kernel) ?_
  refine c_put0 X (ix := 11) (ci := 8) (j := 0) (fs := [none, none, some none, some none, some none, some none, some none, none]) (by decide +kernel) rfl rfl rfl rfl rfl (by decide +kernel) ?_
  refine c_norm 9 [(0, tf_r 35), (1, tf_r 15)] [] cl_75 0 0 (by decide +kernel) (by decide +kernel) (by decide +kernel) (by decide +kernel) (by decide +kernel) (by decide +kernel) ?_
  refine c_aload_n X (k := 0) (by decide +kernel) rfl ?_
  refine c_iconst X (z := 0) (by decide +kernel) ?_
  refine c_put0 X (ix := 15) (ci := 8) (j := 1) (fs := [none, none, some none, some none, some none, some none, some none, none]) (by decide +kernel) rfl rfl rfl rfl rfl (by decide +kernel) ?_
  refine c_norm 14 [(0, tf_r 35), (1, tf_r 15)] [] cl_75 0 0 (by decide +kernel) (by decide +kernel) (by decide +kernel) (by decide +kernel) (by decide +kernel) (by decide +kernel) ?_
  refine c_aload_n X (k := 0) (by decide +kernel) rfl ?_
  refine c_sipush X (z := 1500) (by decide +kernel) (by decide +kernel) ?_
  refine c_newa X (t := 3) (N := 1500) rfl (tf_g 153 (by decide +kernel) (by decide +kernel)) (by decide +kernel) (by decide +kernel) (by decide +kernel) (by decide +kernel) (by decide +kernel) (by decide +kernel) (by decide +kernel) (by decide +kernel) (by decide +kernel) (by decide +kernel) ?_
  refine c_norm 20 [(0, tf_r 35), (1, tf_r 15)] [tf_r 36, tf_r 35] cl_76 1 1500 (by decide +kernel) (by decide +kernel) (by decide +kernel) (by decide +kernel) (by decide +kernel) (by decide +kernel) ?_
  refine c_putF X hi (ix := 18) (ci := 8) (j := 3) (fs := [none, none, some none, some none, some none, some none, some none, none]) (by decide +kernel) rfl rfl tf_uw8 tf_ty8 tf_tyok8 tf_nm8 rfl rfl (tf_tyok8 3 (by decide)) (fun _ => rfl) (fun _ => rfl) (by decide) (by decide +kernel) ?_
  refine c_norm 23 [(0, tf_r 35), (1, tf_r 15)] [] cl_77 1 1500 (by decide +kernel) (by decide +kernel) (by decide +kernel) (by decide +kernel) (by decide +kernel) (by decide +kernel) ?_
  refine c_aload_n X (k := 0) (by decide +kernel) rfl ?_
  refine c_sipush X (z := 1500) (by decide +kernel) (by decide +kernel) ?_
  refine c_newa X (t := 3) (N := 1500) rfl (tf_g 153 (by decide +kernel) (by decide +kernel)) (by decide +kernel) (by decide +kernel) (by decide +kernel) (by decide +kernel) (by decide +kernel) (by decide +kernel) (by decide +kernel) (by decide +kernel) (by decide +kernel) (by decide +kernel) ?_
  refine c_norm 29 [(0, tf_r 35), (1, tf_r 15)] [tf_r 37, tf_r 35] cl_78 2 3000 (by decide +kernel) (by decide +kernel) (by decide +kernel) (by decide +kernel) (by decide +kernel) (by decide +kernel) ?_
  refine c_putF X hi (ix := 22) (ci := 8) (j := 4) (fs := [none, none, some none, some (some 36), some none, some none, some none, none]) (by decide +kernel) rfl rfl tf_uw8 tf_ty8 tf_tyok8 tf_nm8 rfl rfl (tf_tyok8 4 (by decide)) (fun _ => rfl) (fun _ => rfl) (by decide) (by decide +kernel) ?_
  refine c_norm 32 [(0, tf_r 35), (1, tf_r 15)] [] cl_79 2 3000 (by decide +kernel) (by decide +kernel) (by decide +kernel) (by decide +kernel) (by decide +kernel) (by decide +kernel) ?_
  refine c_aload_n X (k := 0) (by decide +kernel) rfl ?_
  refine c_sipush X (z := 300) (by decide +kernel) (by decide +kernel) ?_
  refine c_newa X (t := 0) (N := 300) rfl (tf_g 52 (by decide +kernel) (by decide +kernel)) (by decide +kernel) (by decide +kernel) (by decide +kernel) (by decide +kernel) (by decide +kernel) (by decide +kernel) (by decide +kernel) (by decide +kernel) (by decide +kernel) (by decide +kernel) ?_
  refine c_norm 38 [(0, tf_r 35), (1, tf_r 15)] [tf_r 38, tf_r 35] cl_80 3 3300 (by decide +kernel) (by decide +kernel) (by decide +kernel) (by decide +kernel) (by decide +kernel) (by decide +kernel) ?_
  refine c_putF X hi (ix := 25) (ci := 8) (j := 5) (fs := [none, none, some none, some (some 36), some (some 37), some none, some none, none]) (by decide +kernel) rfl rfl tf_uw8 tf_ty8 tf_tyok8 tf_nm8 rfl rfl (tf_tyok8 5 (by decide)) (fun _ => rfl) (fun _ => rfl) (by decide) (by decide +kernel) ?_
  refine c_norm 41 [(0, tf_r 35), (1, tf_r 15)] [] cl_81 3 3300 (by decide +kernel) (by decide +kernel) (by decide +kernel) (by decide +kernel) (by decide +kernel) (by decide +kernel) ?_
  refine c_aload_n X (k := 0) (by decide +kernel) rfl ?_
  refine c_sipush X (z := 300) (by decide +kernel) (by decide +kernel) ?_
  refine c_newa X (t := 1) (N := 300) rfl (tf_g 208 (by decide +kernel) (by decide +kernel)) (by decide +kernel) (by decide +kernel) (by decide +kernel) (by decide +kernel) (by decide +kernel) (by decide +kernel) (by decide +kernel) (by decide +kernel) (by decide +kernel) (by decide +kernel) ?_
  refine c_norm 47 [(0, tf_r 35), (1, tf_r 15)] [tf_r 39, tf_r 35] cl_82 4 3600 (by decide +kernel) (by decide +kernel) (by decide +kernel) (by decide +kernel) (by decide +kernel) (by decide +kernel) ?_
  refine c_putF X hi (ix := 29) (ci := 8) (j := 6) (fs := [none, none, some none, some (some 36), some (some 37), some (some 38), some none, none]) (by decide +kernel) rfl rfl tf_uw8 tf_ty8 tf_tyok8 tf_nm8 rfl rfl (tf_tyok8 6 (by decide)) (fun _ => rfl) (fun _ => rfl) (by decide) (by decide +kernel) ?_
  refine c_norm 50 [(0, tf_r 35), (1, tf_r 15)] [] cl_83 4 3600 (by decide +kernel) (by decide +kernel) (by decide +kernel) (by decide +kernel) (by decide +kernel) (by decide +kernel) ?_
  refine c_aload_n X (k := 0) (by decide +kernel) rfl ?_
  refine c_iconst X (z := 0) (by decide +kernel) ?_
  refine c_put0 X (ix := 33) (ci := 8) (j := 7) (fs := [none, none, some none, some (some 36), some (some 37), some (some 38), some (some 39), none]) (by decide +kernel) rfl rfl rfl rfl rfl (by decide +kernel) ?_
  refine c_norm 55 [(0, tf_r 35), (1, tf_r 15)] [] cl_83 4 3600 (by decide +kernel) (by decide +kernel) (by decide +kernel) (by decide +kernel) (by decide +kernel) (by decide +kernel) ?_
  refine c_aload_n X (k := 0) (by decide +kernel) rfl ?_
  refine c_aload_n X (k := 1) (by decide +kernel) rfl ?_
  refine c_putF X hi (ix := 36) (ci := 8) (j := 2) (fs := [none, none, some none, some (some 36), some (some 37), some (some 38), some (some 39), none]) (by decide +kernel) rfl rfl tf_uw8 tf_ty8 tf_tyok8 tf_nm8 rfl rfl (tf_tyok8 2 (by decide)) (fun _ => rfl) (fun _ => rfl) (by decide) (by decide +kernel) ?_
  refine c_norm 60 [(0, tf_r 35), (1, tf_r 15)] [] cl_84 4 3600 (by decide +kernel) (by decide +kernel) (by decide +kernel) (by decide +kernel) (by decide +kernel) (by decide +kernel) ?_
  exact c_ret X hr hlk (by decide +kernel)
