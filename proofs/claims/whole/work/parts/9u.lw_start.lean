-- printed by wip/whole/tool/emit8.py: from the law's entry to its loop
set_option maxRecDepth 20000 in
set_option maxHeartbeats 4000000 in
theorem whole_start {p : Program} {e : Env} {s : State} {m : MethodId} {below : List Frame} {meth : Method} {c : Code} (l : Launch) (hfl : l.flags = pinnedFlags ++ [noTraceFlag]) {b L : Nat} {xs : Nat → Int32} (hL : L ≤ 3072) (hx : p.tables.exec = Jvm.exec) (hb : c.code = code) (hr : meth.sig.returnType = ret) (hml : c.maxLocals = 8) (hown : s.vm.findClass "TermForgeLaw" = some m.cls)
    (hts : ∀ w ∈ lw_tbl, w.before #[Value.ref b] s = true) (hX : va_X b L xs s s.heap) (hbl : b < s.heap.size) (hlk : meth.locks = false) (hgv : (Jvm.Cond.and given_1 narrow_1).before #[Value.ref b] s = true) (hex : c.exceptionTable.toList.map (fun h => (h.startPc, h.endPc, h.handlerPc, h.catchType)) = []) :
    W p l e room_1 s m #[Value.ref b] below meth c s.heap [] 0 0 (lw_Z below #[Value.ref b] s) (entryFrame m ([Value.ref b] : List Value).toArray 8) := by
  have ht : ∀ w ∈ tables_1, w.before #[Value.ref b] s = true := fun w hw => hts w (List.mem_append_right _ hw)
  have hgt := le_gt hts
  have hnw := le_nt ht
  have hsw := le_sw ht (flat_of_before _ hgv)
  obtain ⟨D, cA, hK⟩ := le_K hgt
  have X : c_X p s m #[Value.ref b] c D cA (fun q => s.heap.size ≤ q) code 11 8 := ⟨hx, hb, hml, hown, hgt, hK, fun q h => h, hnw⟩
  have key : c_AW p l e room_1 s m #[Value.ref b] below meth c (lw_Z below #[Value.ref b] s) D cA (fun q => s.heap.size ≤ q) (fun _ => b) 0 8 0 [(0, tf_r 9999)] [] [] 0 0 := by
    refine c_new X (ix := 8) (ci := 0) (fs0 := [some none, some none, some none, some none, some none, some none, some none, some none, some none, none]) (fs1 := List.map c_v0 [some none, some none, some none, some none, some none, some none, some none, some none, some none, none]) rfl tf_uw0 tf_ty0 tf_tyok0 (tf_g 21 (by decide +kernel) (by decide +kernel)) (tf_g 22 (by decide +kernel) (by decide +kernel)) (tf_g 1 (by decide +kernel) (by decide +kernel)) (c_f1 (by decide +kernel)) (by decide +kernel) (by decide +kernel) (by decide +kernel) (by decide +kernel) (by decide +kernel) (by decide +kernel) (by decide +kernel) (by decide +kernel) ?_
    refine c_norm 3 [(0, tf_r 9999)] [tf_r 0] cl_0 1 10 (by decide +kernel) (by decide +kernel) (by decide +kernel) (by decide +kernel) (by decide +kernel) (by decide +kernel) ?_
    refine c_dup X (by decide +kernel) ?_
    refine c_call X (ix := 76) (y := ⟨"TermForge", "<init>", "()V"⟩) (as := []) (r := [tf_r 0]) (c_TermForge l) (tf_g 25 (by decide +kernel) (by decide +kernel)) (tf_g 1 (by decide +kernel) (by decide +kernel)) (tf_g 24 (by decide +kernel) (by decide +kernel)) rfl (by decide +kernel) (tf_g 23 (by decide +kernel) (by decide +kernel)) (by decide +kernel) rfl rfl (by decide +kernel) (fun _ => Nat.le_of_ble_eq_true rfl) (by decide +kernel) (by decide +kernel) (by decide +kernel) (by decide +kernel) ?_
    refine c_norm 7 [(0, tf_r 9999)] [tf_r 0] cl_90 42 102953 (by decide +kernel) (by decide +kernel) (by decide +kernel) (by decide +kernel) (by decide +kernel) (by decide +kernel) ?_
    refine c_astore_n X (k := 1) (by decide +kernel) rfl ?_
    refine c_norm 8 [(1, tf_r 0), (0, tf_r 9999)] [] cl_90 42 102953 (by decide +kernel) (by decide +kernel) (by decide +kernel) (by decide +kernel) (by decide +kernel) (by decide +kernel) ?_
    refine c_new X (ix := 77) (ci := 10) (fs0 := [none, none, some none, some none, some none, none, some none, some none, none, some none, some none, some none, some none, some none, none, some none, some none, some none, none, some none, some none, some none, some none, some none, some none, some none, none, some none, none, some none, none, some none, some none]) (fs1 := List.map c_v0 [none, none, some none, some none, some none, none, some none, some none, none, some none, some none, some none, some none, some none, none, some none, some none, some none, none, some none, some none, some none, some none, some none, some none, some none, none, some none, none, some none, none, some none, some none]) rfl tf_uw10 tf_ty10 tf_tyok10 (tf_g 816 (by decide +kernel) (by decide +kernel)) (tf_g 817 (by decide +kernel) (by decide +kernel)) (tf_g 11 (by decide +kernel) (by decide +kernel)) (c_f1 (by decide +kernel)) (by decide +kernel) (by decide +kernel) (by decide +kernel) (by decide +kernel) (by decide +kernel) (by decide +kernel) (by decide +kernel) (by decide +kernel) ?_
    refine c_norm 11 [(1, tf_r 0), (0, tf_r 9999)] [tf_r 42] cl_91 43 102986 (by decide +kernel) (by decide +kernel) (by decide +kernel) (by decide +kernel) (by decide +kernel) (by decide +kernel) ?_
    refine c_dup X (by decide +kernel) ?_
    refine c_call X (ix := 79) (y := ⟨"TermForgeModel", "<init>", "()V"⟩) (as := []) (r := [tf_r 42]) (c_TermForgeModel l) (tf_g 820 (by decide +kernel) (by decide +kernel)) (tf_g 11 (by decide +kernel) (by decide +kernel)) (tf_g 819 (by decide +kernel) (by decide +kernel)) rfl (by decide +kernel) (tf_g 818 (by decide +kernel) (by decide +kernel)) (by decide +kernel) rfl rfl (by decide +kernel) (fun _ => Nat.le_of_ble_eq_true rfl) (by decide +kernel) (by decide +kernel) (by decide +kernel) (by decide +kernel) ?_
    refine c_norm 15 [(1, tf_r 0), (0, tf_r 9999)] [tf_r 42] cl_139 67 214430 (by decide +kernel) (by decide +kernel) (by decide +kernel) (by decide +kernel) (by decide +kernel) (by decide +kernel) ?_
    refine c_astore_n X (k := 2) (by decide +kernel) rfl ?_
    refine c_norm 16 [(2, tf_r 42), (1, tf_r 0), (0, tf_r 9999)] [] cl_139 67 214430 (by decide +kernel) (by decide +kernel) (by decide +kernel) (by decide +kernel) (by decide +kernel) (by decide +kernel) ?_
    refine c_iconst X (z := 1) (by decide +kernel) ?_
    refine c_newa X (t := 3) (N := 1) rfl (tf_g 150 (by decide +kernel) (by decide +kernel)) (by decide +kernel) (by decide +kernel) (by decide +kernel) (by decide +kernel) (by decide +kernel) (by decide +kernel) (by decide +kernel) (by decide +kernel) (by decide +kernel) (by decide +kernel) ?_
    refine c_norm 19 [(2, tf_r 42), (1, tf_r 0), (0, tf_r 9999)] [tf_r 67] tf_LAY 68 214431 (by decide +kernel) (by decide +kernel) (by decide +kernel) (by decide +kernel) (by decide +kernel) (by decide +kernel) ?_
    refine c_astore_n X (k := 3) (by decide +kernel) rfl ?_
    refine c_iconst X (z := 0) (by decide +kernel) ?_
    refine c_istore X (k := 4) (by decide +kernel) rfl ?_
    refine c_norm 23 [(4, tf_i 0), (3, tf_r 67), (2, tf_r 42), (1, tf_r 0), (0, tf_r 9999)] [] tf_LAY 68 214431 (by decide +kernel) (by decide +kernel) (by decide +kernel) (by decide +kernel) (by decide +kernel) (by decide +kernel) ?_
    exact law_end hfl hL hx hb hr hml hown hgt hnw hlk hK hex hX hbl hsw rfl
  have hl := lv_entry [Value.ref b] (n := 8) (Nat.le_of_ble_eq_true rfl)
  rw [lg_entry_eq]
  exact key s.heap [] _ (fun _ => b) (fun _ _ => rfl) (fun k q h => by cases h) ⟨fun i j p q h => by (cases h), fun k q h => by cases h⟩ va_S.rf hl
