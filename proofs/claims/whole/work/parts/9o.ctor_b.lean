-- printed by wip/whole/tool/emit6.py
set_option maxRecDepth 20000 in
set_option maxHeartbeats 2000000 in
theorem c_Reach (l : Launch) : cMet l ⟨"TermForge$Reach", "<init>", "(LTermForge$Trees;)V"⟩ prog_7_method_1_code 2 ({ frames := 1, cells := 2, slots := 600, locals := 12 } : Room) [tf_r 29, tf_r 15] cl_61 cl_66 2 600 := by
  refine c_start (oc := 6) (by decide) rfl rfl rfl ?_
  intro p e s m args below meth c D cA A ad0 X hi hr hlk
  refine c_aload_n X (k := 0) (by decide +kernel) rfl ?_
  refine c_obj X (ix := 3) (by decide +kernel) (tf_g 193 (by decide +kernel) (by decide +kernel)) (tf_g 28 (by decide +kernel) (by decide +kernel)) (tf_g 29 (by decide +kernel) (by decide +kernel)) ⟨by decide, by decide⟩ ?_
  refine c_norm 4 [(0, tf_r 29), (1, tf_r 15)] [] cl_61 0 0 (by decide +kernel) (by decide +kernel) (by decide +kernel) (by decide +kernel) (by decide +kernel) (by decide +kernel) ?_
  refine c_aload_n X (k := 0) (by decide +kernel) rfl ?_
  refine c_iconst X (z := 0) (by decide +kernel) ?_
  refine c_put0 X (ix := 9) (ci := 6) (j := 0) (fs := [none, some none, some none, some none]) (by decide +kernel) rfl rfl rfl rfl rfl (by decide +kernel) ?_
  refine c_norm 9 [(0, tf_r 29), (1, tf_r 15)] [] cl_61 0 0 (by decide +kernel) (by decide +kernel) (by decide +kernel) (by decide +kernel) (by decide +kernel) (by decide +kernel) ?_
  refine c_aload_n X (k := 0) (by decide +kernel) rfl ?_
  refine c_sipush X (z := 300) (by decide +kernel) (by decide +kernel) ?_
  refine c_newa X (t := 0) (N := 300) rfl (tf_g 52 (by decide +kernel) (by decide +kernel)) (by decide +kernel) (by decide +kernel) (by decide +kernel) (by decide +kernel) (by decide +kernel) (by decide +kernel) (by decide +kernel) (by decide +kernel) (by decide +kernel) (by decide +kernel) ?_
  refine c_norm 15 [(0, tf_r 29), (1, tf_r 15)] [tf_r 30, tf_r 29] cl_62 1 300 (by decide +kernel) (by decide +kernel) (by decide +kernel) (by decide +kernel) (by decide +kernel) (by decide +kernel) ?_
  refine c_putF X hi (ix := 15) (ci := 6) (j := 2) (fs := [none, some none, some none, some none]) (by decide +kernel) rfl rfl tf_uw6 tf_ty6 tf_tyok6 tf_nm6 rfl rfl (tf_tyok6 2 (by decide)) (fun _ => rfl) (fun _ => rfl) (by decide) (by decide +kernel) ?_
  refine c_norm 18 [(0, tf_r 29), (1, tf_r 15)] [] cl_63 1 300 (by decide +kernel) (by decide +kernel) (by decide +kernel) (by decide +kernel) (by decide +kernel) (by decide +kernel) ?_
  refine c_aload_n X (k := 0) (by decide +kernel) rfl ?_
  refine c_sipush X (z := 300) (by decide +kernel) (by decide +kernel) ?_
  refine c_newa X (t := 1) (N := 300) rfl (tf_g 208 (by decide +kernel) (by decide +kernel)) (by decide +kernel) (by decide +kernel) (by decide +kernel) (by decide +kernel) (by decide +kernel) (by decide +kernel) (by decide +kernel) (by decide +kernel) (by decide +kernel) (by decide +kernel) ?_
  refine c_norm 24 [(0, tf_r 29), (1, tf_r 15)] [tf_r 31, tf_r 29] cl_64 2 600 (by decide +kernel) (by decide +kernel) (by decide +kernel) (by decide +kernel) (by decide +kernel) (by decide +kernel) ?_
  refine c_putF X hi (ix := 19) (ci := 6) (j := 3) (fs := [none, some none, some (some 30), some none]) (by decide +kernel) rfl rfl tf_uw6 tf_ty6 tf_tyok6 tf_nm6 rfl rfl (tf_tyok6 3 (by decide)) (fun _ => rfl) (fun _ => rfl) (by decide) (by decide +kernel) ?_
  refine c_norm 27 [(0, tf_r 29), (1, tf_r 15)] [] cl_65 2 600 (by decide +kernel) (by decide +kernel) (by decide +kernel) (by decide +kernel) (by decide +kernel) (by decide +kernel) ?_
  refine c_aload_n X (k := 0) (by decide +kernel) rfl ?_
  refine c_aload_n X (k := 1) (by decide +kernel) rfl ?_
  refine c_putF X hi (ix := 23) (ci := 6) (j := 1) (fs := [none, some none, some (some 30), some (some 31)]) (by decide +kernel) rfl rfl tf_uw6 tf_ty6 tf_tyok6 tf_nm6 rfl rfl (tf_tyok6 1 (by decide)) (fun _ => rfl) (fun _ => rfl) (by decide) (by decide +kernel) ?_
  refine c_norm 32 [(0, tf_r 29), (1, tf_r 15)] [] cl_66 2 600 (by decide +kernel) (by decide +kernel) (by decide +kernel) (by decide +kernel) (by decide +kernel) (by decide +kernel) ?_
  exact c_ret X hr hlk (by decide +kernel)

set_option maxRecDepth 20000 in
set_option maxHeartbeats 2000000 in
theorem c_Matching (l : Launch) : cMet l ⟨"TermForge$Matching", "<init>", "(LTermForge$Trees;)V"⟩ prog_5_method_1_code 2 ({ frames := 1, cells := 2, slots := 600, locals := 12 } : Room) [tf_r 32, tf_r 15] cl_68 cl_73 2 600 := by
  refine c_start (oc := 7) (by decide) rfl rfl rfl ?_
  intro p e s m args below meth c D cA A ad0 X hi hr hlk
  refine c_aload_n X (k := 0) (by decide +kernel) rfl ?_
  refine c_obj X (ix := 3) (by decide +kernel) (tf_g 214 (by decide +kernel) (by decide +kernel)) (tf_g 28 (by decide +kernel) (by decide +kernel)) (tf_g 29 (by decide +kernel) (by decide +kernel)) ⟨by decide, by decide⟩ ?_
  refine c_norm 4 [(0, tf_r 32), (1, tf_r 15)] [] cl_68 0 0 (by decide +kernel) (by decide +kernel) (by decide +kernel) (by decide +kernel) (by decide +kernel) (by decide +kernel) ?_
  refine c_aload_n X (k := 0) (by decide +kernel) rfl ?_
  refine c_sipush X (z := 300) (by decide +kernel) (by decide +kernel) ?_
  refine c_newa X (t := 0) (N := 300) rfl (tf_g 52 (by decide +kernel) (by decide +kernel)) (by decide +kernel) (by decide +kernel) (by decide +kernel) (by decide +kernel) (by decide +kernel) (by decide +kernel) (by decide +kernel) (by decide +kernel) (by decide +kernel) (by decide +kernel) ?_
  refine c_norm 10 [(0, tf_r 32), (1, tf_r 15)] [tf_r 33, tf_r 32] cl_69 1 300 (by decide +kernel) (by decide +kernel) (by decide +kernel) (by decide +kernel) (by decide +kernel) (by decide +kernel) ?_
  refine c_putF X hi (ix := 9) (ci := 7) (j := 1) (fs := [some none, some none, some none, none]) (by decide +kernel) rfl rfl tf_uw7 tf_ty7 tf_tyok7 tf_nm7 rfl rfl (tf_tyok7 1 (by decide)) (fun _ => rfl) (fun _ => rfl) (by decide) (by decide +kernel) ?_
  refine c_norm 13 [(0, tf_r 32), (1, tf_r 15)] [] cl_70 1 300 (by decide +kernel) (by decide +kernel) (by decide +kernel) (by decide +kernel) (by decide +kernel) (by decide +kernel) ?_
  refine c_aload_n X (k := 0) (by decide +kernel) rfl ?_
  refine c_sipush X (z := 300) (by decide +kernel) (by decide +kernel) ?_
  refine c_newa X (t := 0) (N := 300) rfl (tf_g 52 (by decide +kernel) (by decide +kernel)) (by decide +kernel) (by decide +kernel) (by decide +kernel) (by decide +kernel) (by decide +kernel) (by decide +kernel) (by decide +kernel) (by decide +kernel) (by decide +kernel) (by decide +kernel) ?_
  refine c_norm 19 [(0, tf_r 32), (1, tf_r 15)] [tf_r 34, tf_r 32] cl_71 2 600 (by decide +kernel) (by decide +kernel) (by decide +kernel) (by decide +kernel) (by decide +kernel) (by decide +kernel) ?_
  refine c_putF X hi (ix := 15) (ci := 7) (j := 2) (fs := [some none, some (some 33), some none, none]) (by decide +kernel) rfl rfl tf_uw7 tf_ty7 tf_tyok7 tf_nm7 rfl rfl (tf_tyok7 2 (by decide)) (fun _ => rfl) (fun _ => rfl) (by decide) (by decide +kernel) ?_
  refine c_norm 22 [(0, tf_r 32), (1, tf_r 15)] [] cl_72 2 600 (by decide +kernel) (by decide +kernel) (by decide +kernel) (by decide +kernel) (by decide +kernel) (by decide +kernel) ?_
  refine c_aload_n X (k := 0) (by decide +kernel) rfl ?_
  refine c_iconst X (z := 0) (by decide +kernel) ?_
  refine c_put0 X (ix := 18) (ci := 7) (j := 3) (fs := [some none, some (some 33), some (some 34), none]) (by decide +kernel) rfl rfl rfl rfl rfl (by decide +kernel) ?_
  refine c_norm 27 [(0, tf_r 32), (1, tf_r 15)] [] cl_72 2 600 (by decide +kernel) (by decide +kernel) (by decide +kernel) (by decide +kernel) (by decide +kernel) (by decide +kernel) ?_
  refine c_aload_n X (k := 0) (by decide +kernel) rfl ?_
  refine c_aload_n X (k := 1) (by decide +kernel) rfl ?_
  refine c_putF X hi (ix := 22) (ci := 7) (j := 0) (fs := [some none, some (some 33), some (some 34), none]) (by decide +kernel) rfl rfl tf_uw7 tf_ty7 tf_tyok7 tf_nm7 rfl rfl (tf_tyok7 0 (by decide)) (fun _ => rfl) (fun _ => rfl) (by decide) (by decide +kernel) ?_
  refine c_norm 32 [(0, tf_r 32), (1, tf_r 15)] [] cl_73 2 600 (by decide +kernel) (by decide +kernel) (by decide +kernel) (by decide +kernel) (by decide +kernel) (by decide +kernel) ?_
  exact c_ret X hr hlk (by decide +kernel)

set_option maxRecDepth 20000 in
set_option maxHeartbeats 2000000 in
theorem c_Writing (l : Launch) : cMet l ⟨"TermForge$Writing", "<init>", "(LTermForge$Trees;)V"⟩ prog_10_method_1_code 2 ({ frames := 1, cells := 3, slots := 605, locals := 12 } : Room) [tf_r 40, tf_r 15] cl_86 cl_93 3 605 := by
  refine c_start (oc := 9) (by decide) rfl rfl rfl ?_
  intro p e s m args below meth c D cA A ad0 X hi hr hlk
  refine c_aload_n X (k := 0) (by decide +kernel) rfl ?_
  refine c_obj X (ix := 3) (by decide +kernel) (tf_g 266 (by decide +kernel) (by decide +kernel)) (tf_g 28 (by decide +kernel) (by decide +kernel)) (tf_g 29 (by decide +kernel) (by decide +kernel)) ⟨by decide, by decide⟩ ?_
  refine c_norm 4 [(0, tf_r 40), (1, tf_r 15)] [] cl_86 0 0 (by decide +kernel) (by decide +kernel) (by decide +kernel) (by decide +kernel) (by decide +kernel) (by decide +kernel) ?_
  refine c_aload_n X (k := 0) (by decide +kernel) rfl ?_
  refine c_iconst X (z := 0) (by decide +kernel) ?_
  refine c_put0 X (ix := 9) (ci := 9) (j := 0) (fs := [none, some none, some none, some none, none, some none, none]) (by decide +kernel) rfl rfl rfl rfl rfl (by decide +kernel) ?_
  refine c_norm 9 [(0, tf_r 40), (1, tf_r 15)] [] cl_86 0 0 (by decide +kernel) (by decide +kernel) (by decide +kernel) (by decide +kernel) (by decide +kernel) (by decide +kernel) ?_
  refine c_aload_n X (k := 0) (by decide +kernel) rfl ?_
  refine c_sipush X (z := 200) (by decide +kernel) (by decide +kernel) ?_
  refine c_newa X (t := 1) (N := 200) rfl (tf_g 208 (by decide +kernel) (by decide +kernel)) (by decide +kernel) (by decide +kernel) (by decide +kernel) (by decide +kernel) (by decide +kernel) (by decide +kernel) (by decide +kernel) (by decide +kernel) (by decide +kernel) (by decide +kernel) ?_
  refine c_norm 15 [(0, tf_r 40), (1, tf_r 15)] [tf_r 41, tf_r 40] cl_87 1 200 (by decide +kernel) (by decide +kernel) (by decide +kernel) (by decide +kernel) (by decide +kernel) (by decide +kernel) ?_
  refine c_putF X hi (ix := 15) (ci := 9) (j := 2) (fs := [none, some none, some none, some none, none, some none, none]) (by decide +kernel) rfl rfl tf_uw9 tf_ty9 tf_tyok9 tf_nm9 rfl rfl (tf_tyok9 2 (by decide)) (fun _ => rfl) (fun _ => rfl) (by decide) (by decide +kernel) ?_
  refine c_norm 18 [(0, tf_r 40), (1, tf_r 15)] [] cl_88 1 200 (by decide +kernel) (by decide +kernel) (by decide +kernel) (by decide +kernel) (by decide +kernel) (by decide +kernel) ?_
  refine c_aload_n X (k := 0) (by decide +kernel) rfl ?_
  refine c_sipush X (z := 200) (by decide +kernel) (by decide +kernel) ?_
  refine c_newa X (t := 1) (N := 200) rfl (tf_g 208 (by decide +kernel) (by decide +kernel)) (by decide +kernel) (by decide +kernel) (by decide +kernel) (by decide +kernel) (by decide +kernel) (by decide +kernel) (by decide +kernel) (by decide +kernel) (by decide +kernel) (by decide +kernel) ?_
  refine c_norm 24 [(0, tf_r 40), (1, tf_r 15)] [tf_r 42, tf_r 40] cl_89 2 400 (by decide +kernel) (by decide +kernel) (by decide +kernel) (by decide +kernel) (by decide +kernel) (by decide +kernel) ?_
  refine c_putF X hi (ix := 19) (ci := 9) (j := 3) (fs := [none, some none, some (some 41), some none, none, some none, none]) (by decide +kernel) rfl rfl tf_uw9 tf_ty9 tf_tyok9 tf_nm9 rfl rfl (tf_tyok9 3 (by decide)) (fun _ => rfl) (fun _ => rfl) (by decide) (by decide +kernel) ?_
  refine c_norm 27 [(0, tf_r 40), (1, tf_r 15)] [] cl_90 2 400 (by decide +kernel) (by decide +kernel) (by decide +kernel) (by decide +kernel) (by decide +kernel) (by decide +kernel) ?_
  refine c_aload_n X (k := 0) (by decide +kernel) rfl ?_
  refine c_iconst X (z := 0) (by decide +kernel) ?_
  refine c_put0 X (ix := 22) (ci := 9) (j := 4) (fs := [none, some none, some (some 41), some (some 42), none, some none, none]) (by decide +kernel) rfl rfl rfl rfl rfl (by decide +kernel) ?_
  refine c_norm 32 [(0, tf_r 40), (1, tf_r 15)] [] cl_90 2 400 (by decide +kernel) (by decide +kernel) (by decide +kernel) (by decide +kernel) (by decide +kernel) (by decide +kernel) ?_
  refine c_aload_n X (k := 0) (by decide +kernel) rfl ?_
  refine c_sipush X (z := 205) (by decide +kernel) (by decide +kernel) ?_
  refine c_newa X (t := 0) (N := 205) rfl (tf_g 52 (by decide +kernel) (by decide +kernel)) (by decide +kernel) (by decide +kernel) (by decide +kernel) (by decide +kernel) (by decide +kernel) (by decide +kernel) (by decide +kernel) (by decide +kernel) (by decide +kernel) (by decide +kernel) ?_
  refine c_norm 38 [(0, tf_r 40), (1, tf_r 15)] [tf_r 43, tf_r 40] cl_91 3 605 (by decide +kernel) (by decide +kernel) (by decide +kernel) (by decide +kernel) (by decide +kernel) (by decide +kernel) ?_
  refine c_putF X hi (ix := 25) (ci := 9) (j := 5) (fs := [none, some none, some (some 41), some (some 42), none, some none, none]) (by decide +kernel) rfl rfl tf_uw9 tf_ty9 tf_tyok9 tf_nm9 rfl rfl (tf_tyok9 5 (by decide)) (fun _ => rfl) (fun _ => rfl) (by decide) (by decide +kernel) ?_
  refine c_norm 41 [(0, tf_r 40), (1, tf_r 15)] [] cl_92 3 605 (by decide +kernel) (by decide +kernel) (by decide +kernel) (by decide +kernel) (by decide +kernel) (by decide +kernel) ?_
  refine c_aload_n X (k := 0) (by decide +kernel) rfl ?_
  refine c_iconst X (z := 0) (by decide +kernel) ?_
  refine c_put0 X (ix := 29) (ci := 9) (j := 6) (fs := [none, some none, some (some 41), some (some 42), none, some (some 43), none]) (by decide +kernel) rfl rfl rfl rfl rfl (by decide +kernel) ?_
  refine c_norm 46 [(0, tf_r 40), (1, tf_r 15)] [] cl_92 3 605 (by decide +kernel) (by decide +kernel) (by decide +kernel) (by decide +kernel) (by decide +kernel) (by decide +kernel) ?_
  refine c_aload_n X (k := 0) (by decide +kernel) rfl ?_
  refine c_aload_n X (k := 1) (by decide +kernel) rfl ?_
  refine c_putF X hi (ix := 32) (ci := 9) (j := 1) (fs := [none, some none, some (some 41), some (some 42), none, some (some 43), none]) (by decide +kernel) rfl rfl tf_uw9 tf_ty9 tf_tyok9 tf_nm9 rfl rfl (tf_tyok9 1 (by decide)) (fun _ => rfl) (fun _ => rfl) (by decide) (by decide +kernel) ?_
  refine c_norm 51 [(0, tf_r 40), (1, tf_r 15)] [] cl_93 3 605 (by decide +kernel) (by decide +kernel) (by decide +kernel) (by decide +kernel) (by decide +kernel) (by decide +kernel) ?_
  exact c_ret X hr hlk (by decide +kernel)
