-- printed by wip/whole/tool/emit6.py
set_option maxRecDepth 20000 in
set_option maxHeartbeats 2000000 in
theorem c_Pairs (l : Launch) : cMet l ⟨"TermForge$Pairs", "<init>", "(LTermForge$Trees;)V"⟩ prog_6_method_1_code 2 ({ frames := 1, cells := 2, slots := 91407, locals := 12 } : Room) [tf_r 35, tf_r 15] cl_75 cl_80 2 91407 := by
  refine c_start (oc := 8) (by decide) rfl rfl rfl ?_
  intro p e s m args below meth c D cA A ad0 X hi hr hlk
  refine c_aload_n X (k := 0) (by decide +kernel) rfl ?_
  refine c_obj X (ix := 3) (by decide +kernel) (tf_g 230 (by decide +kernel) (by decide +kernel)) (tf_g 27 (by decide +kernel) (by decide +kernel)) (tf_g 28 (by decide +kernel) (by decide +kernel)) ⟨by decide, by decide⟩ ?_
  refine c_norm 4 [(0, tf_r 35), (1, tf_r 15)] [] cl_75 0 0 (by decide +kernel) (by decide +kernel) (by decide +kernel) (by decide +kernel) (by decide +kernel) (by decide +kernel) ?_
  refine c_aload_n X (k := 0) (by decide +kernel) rfl ?_
  refine c_iconst X (z := 0) (by decide +kernel) ?_
  refine c_put0 X (ix := 9) (ci := 8) (j := 0) (fs := [none, none, some none, some none, some none]) (by decide +kernel) rfl rfl rfl rfl rfl (by decide +kernel) ?_
  refine c_norm 9 [(0, tf_r 35), (1, tf_r 15)] [] cl_75 0 0 (by decide +kernel) (by decide +kernel) (by decide +kernel) (by decide +kernel) (by decide +kernel) (by decide +kernel) ?_
  refine c_aload_n X (k := 0) (by decide +kernel) rfl ?_
  refine c_iconst X (z := 0) (by decide +kernel) ?_
  refine c_put0 X (ix := 15) (ci := 8) (j := 1) (fs := [none, none, some none, some none, some none]) (by decide +kernel) rfl rfl rfl rfl rfl (by decide +kernel) ?_
  refine c_norm 14 [(0, tf_r 35), (1, tf_r 15)] [] cl_75 0 0 (by decide +kernel) (by decide +kernel) (by decide +kernel) (by decide +kernel) (by decide +kernel) (by decide +kernel) ?_
  refine c_aload_n X (k := 0) (by decide +kernel) rfl ?_
  refine c_ldc X (z := 90000) (ix := 18) (by decide +kernel) rfl ?_
  refine c_newa X (t := 0) (N := 90000) rfl (tf_g 49 (by decide +kernel) (by decide +kernel)) (by decide +kernel) (by decide +kernel) (by decide +kernel) (by decide +kernel) (by decide +kernel) (by decide +kernel) (by decide +kernel) (by decide +kernel) (by decide +kernel) (by decide +kernel) ?_
  refine c_norm 19 [(0, tf_r 35), (1, tf_r 15)] [tf_r 36, tf_r 35] cl_76 1 90000 (by decide +kernel) (by decide +kernel) (by decide +kernel) (by decide +kernel) (by decide +kernel) (by decide +kernel) ?_
  refine c_putF X hi (ix := 19) (ci := 8) (j := 3) (fs := [none, none, some none, some none, some none]) (by decide +kernel) rfl rfl tf_uw8 tf_ty8 tf_tyok8 tf_nm8 rfl rfl (tf_tyok8 3 (by decide)) (fun _ => rfl) (fun _ => rfl) (by decide) (by decide +kernel) ?_
  refine c_norm 22 [(0, tf_r 35), (1, tf_r 15)] [] cl_77 1 90000 (by decide +kernel) (by decide +kernel) (by decide +kernel) (by decide +kernel) (by decide +kernel) (by decide +kernel) ?_
  refine c_aload_n X (k := 0) (by decide +kernel) rfl ?_
  refine c_sipush X (z := 1407) (by decide +kernel) (by decide +kernel) ?_
  refine c_newa X (t := 3) (N := 1407) rfl (tf_g 150 (by decide +kernel) (by decide +kernel)) (by decide +kernel) (by decide +kernel) (by decide +kernel) (by decide +kernel) (by decide +kernel) (by decide +kernel) (by decide +kernel) (by decide +kernel) (by decide +kernel) (by decide +kernel) ?_
  refine c_norm 28 [(0, tf_r 35), (1, tf_r 15)] [tf_r 37, tf_r 35] cl_78 2 91407 (by decide +kernel) (by decide +kernel) (by decide +kernel) (by decide +kernel) (by decide +kernel) (by decide +kernel) ?_
  refine c_putF X hi (ix := 23) (ci := 8) (j := 4) (fs := [none, none, some none, some (some 36), some none]) (by decide +kernel) rfl rfl tf_uw8 tf_ty8 tf_tyok8 tf_nm8 rfl rfl (tf_tyok8 4 (by decide)) (fun _ => rfl) (fun _ => rfl) (by decide) (by decide +kernel) ?_
  refine c_norm 31 [(0, tf_r 35), (1, tf_r 15)] [] cl_79 2 91407 (by decide +kernel) (by decide +kernel) (by decide +kernel) (by decide +kernel) (by decide +kernel) (by decide +kernel) ?_
  refine c_aload_n X (k := 0) (by decide +kernel) rfl ?_
  refine c_aload_n X (k := 1) (by decide +kernel) rfl ?_
  refine c_putF X hi (ix := 27) (ci := 8) (j := 2) (fs := [none, none, some none, some (some 36), some (some 37)]) (by decide +kernel) rfl rfl tf_uw8 tf_ty8 tf_tyok8 tf_nm8 rfl rfl (tf_tyok8 2 (by decide)) (fun _ => rfl) (fun _ => rfl) (by decide) (by decide +kernel) ?_
  refine c_norm 36 [(0, tf_r 35), (1, tf_r 15)] [] cl_80 2 91407 (by decide +kernel) (by decide +kernel) (by decide +kernel) (by decide +kernel) (by decide +kernel) (by decide +kernel) ?_
  exact c_ret X hr hlk (by decide +kernel)
