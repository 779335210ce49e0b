-- printed by wip/whole/tool/emit7.py: what the law's entry knows
theorem tf_nt_in : ∀ w ∈ tf_nt, w ∈ tables_1 := by
  intro w hw
  simp only [tf_nt, List.mem_cons, List.not_mem_nil, or_false] at hw
  rcases hw with rfl | rfl | rfl | rfl | rfl | rfl | rfl | rfl | rfl | rfl | rfl | rfl | rfl | rfl | rfl | rfl | rfl | rfl | rfl | rfl
  · exact List.mem_of_getElem? (i := 32) (by decide +kernel)
  · exact List.mem_of_getElem? (i := 90) (by decide +kernel)
  · exact List.mem_of_getElem? (i := 110) (by decide +kernel)
  · exact List.mem_of_getElem? (i := 374) (by decide +kernel)
  · exact List.mem_of_getElem? (i := 433) (by decide +kernel)
  · exact List.mem_of_getElem? (i := 440) (by decide +kernel)
  · exact List.mem_of_getElem? (i := 445) (by decide +kernel)
  · exact List.mem_of_getElem? (i := 480) (by decide +kernel)
  · exact List.mem_of_getElem? (i := 505) (by decide +kernel)
  · exact List.mem_of_getElem? (i := 517) (by decide +kernel)
  · exact List.mem_of_getElem? (i := 582) (by decide +kernel)
  · exact List.mem_of_getElem? (i := 599) (by decide +kernel)
  · exact List.mem_of_getElem? (i := 675) (by decide +kernel)
  · exact List.mem_of_getElem? (i := 708) (by decide +kernel)
  · exact List.mem_of_getElem? (i := 724) (by decide +kernel)
  · exact List.mem_of_getElem? (i := 754) (by decide +kernel)
  · exact List.mem_of_getElem? (i := 787) (by decide +kernel)
  · exact List.mem_of_getElem? (i := 790) (by decide +kernel)
  · exact List.mem_of_getElem? (i := 816) (by decide +kernel)
  · exact List.mem_of_getElem? (i := 839) (by decide +kernel)
theorem le_nt {args : Array Value} {s : State} (ht : ∀ w ∈ tables_1, w.before args s = true) : ∀ w ∈ tf_nt, va_Nw w s := by
  intro w hw
  have h1 := ht w (tf_nt_in w hw)
  rcases tf_nt_ok w hw with ⟨a, i, x, h0, rfl⟩ | ⟨a, i, x, rfl⟩
  · exact va_Nw.of rfl h1
  · exact h1
theorem le_gt {args : Array Value} {s : State} (hts : ∀ w ∈ lw_tbl, w.before args s = true) : ∀ w ∈ tf_gt, w.before args s = true := by
  intro w hw
  unfold tf_gt at hw
  rcases List.mem_append.mp hw with q | q
  · exact hts w (List.mem_append_right _ (List.mem_filter.mp q).1)
  · exact hts w (List.mem_append_left _ q)
theorem tf_e1 {w : Cond} {args : Array Value} {s : State} (hw : w.onTables = true) (h : w.before args s = true) : w.before #[] s = true := va_tabs hw rfl h
theorem le_sw {args : Array Value} {s : State} (ht : ∀ w ∈ tables_1, w.before args s = true) (hg : ∀ w ∈ flatC (Jvm.Cond.and given_1 narrow_1), w.before args s = true) : tf_SW s := by
  constructor
  · intro w hw
    simp only [tf_sw, List.mem_cons, List.not_mem_nil, or_false] at hw
    rcases hw with rfl | rfl | rfl | rfl
    · exact ht (.laysStatic "java/lang/Throwable" "UNASSIGNED_STACK" "[Ljava/lang/StackTraceElement;") (List.mem_of_getElem? (i := 360) (by decide +kernel))
    · exact ht (.laysStatic "java/lang/Throwable" "SUPPRESSED_SENTINEL" "Ljava/util/List;") (List.mem_of_getElem? (i := 362) (by decide +kernel))
    · exact hg (.isRef (.static "java/lang/Throwable" "UNASSIGNED_STACK" "[Ljava/lang/StackTraceElement;")) (by decide +kernel)
    · exact hg (.isRef (.static "java/lang/Throwable" "SUPPRESSED_SENTINEL" "Ljava/util/List;")) (by decide +kernel)
  · intro w hw
    simp only [tf_cx, List.mem_cons, List.not_mem_nil, or_false] at hw
    rcases hw with rfl | rfl | rfl | rfl | rfl | rfl | rfl | rfl | rfl | rfl | rfl | rfl | rfl | rfl | rfl
    · exact tf_e1 rfl (ht _ (List.mem_of_getElem? (i := 426) (by decide +kernel)))
    · exact tf_e1 rfl (ht _ (List.mem_of_getElem? (i := 335) (by decide +kernel)))
    · exact tf_e1 rfl (ht _ (List.mem_of_getElem? (i := 809) (by decide +kernel)))
    · exact hg (.not (.castable "java/lang/IllegalArgumentException" "java/lang/IllegalStateException")) (by decide +kernel)
    · exact hg (.not (.castable "java/lang/IllegalArgumentException" "java/util/NoSuchElementException")) (by decide +kernel)
    · exact hg (.not (.castable "java/lang/IllegalStateException" "java/lang/IllegalArgumentException")) (by decide +kernel)
    · exact hg (.not (.castable "java/lang/IllegalStateException" "java/util/NoSuchElementException")) (by decide +kernel)
    · exact hg (.not (.castable "java/util/NoSuchElementException" "java/lang/IllegalArgumentException")) (by decide +kernel)
    · exact hg (.not (.castable "java/util/NoSuchElementException" "java/lang/IllegalStateException")) (by decide +kernel)
    · exact tf_e1 rfl (ht _ (List.mem_of_getElem? (i := 336) (by decide +kernel)))
    · exact tf_e1 rfl (ht _ (List.mem_of_getElem? (i := 337) (by decide +kernel)))
    · exact tf_e1 rfl (ht _ (List.mem_of_getElem? (i := 338) (by decide +kernel)))
    · exact tf_e1 rfl (ht _ (List.mem_of_getElem? (i := 339) (by decide +kernel)))
    · exact tf_e1 rfl (ht _ (List.mem_of_getElem? (i := 340) (by decide +kernel)))
    · exact tf_e1 rfl (ht _ (List.mem_of_getElem? (i := 341) (by decide +kernel)))
theorem le_arr {args : Array Value} {s : State} {ty : FieldType} (hty : ∀ C, ty ≠ .object C) (h : (Cond.arrayClass ty).before args s = true) : ∃ cA : ClassId, ArrOfT s cA ty ∧ va_RA s cA ty := by
  obtain ⟨cA, kA, comp, h1, h2, h3⟩ := Cond.arrayClass_spec h
  refine ⟨cA, fun n z => ⟨fun k h => (by cases h), kA, h2, comp, h3⟩, ?_⟩
  cases ty with
  | object C => exact absurd rfl (hty C)
  | _ => exact h1
theorem le_K {args : Array Value} {s : State} (hts : ∀ w ∈ tf_gt, w.before args s = true) : ∃ (D : va_G) (cA : Nat → ClassId), va_K D tf_cls (tf_tys cA) s := by
  obtain ⟨c0, iS0, k0⟩ := u_known (C := "TermForge") (T := tf_T0) (N := 10) (n := 10) hts tf_uw0 (hts _ (tf_g 23 (by decide +kernel) (by decide +kernel)))
  obtain ⟨c1, iS1, k1⟩ := u_known (C := "TermForge$Terms") (T := tf_T1) (N := 3) (n := 3) hts tf_uw1 (hts _ (tf_g 31 (by decide +kernel) (by decide +kernel)))
  obtain ⟨c2, iS2, k2⟩ := u_known (C := "TermForge$Classes") (T := tf_T2) (N := 9) (n := 9) hts tf_uw2 (hts _ (tf_g 54 (by decide +kernel) (by decide +kernel)))
  obtain ⟨c3, iS3, k3⟩ := u_known (C := "TermForge$Levels") (T := tf_T3) (N := 4) (n := 4) hts tf_uw3 (hts _ (tf_g 89 (by decide +kernel) (by decide +kernel)))
  obtain ⟨c4, iS4, k4⟩ := u_known (C := "TermForge$Trees") (T := tf_T4) (N := 10) (n := 10) hts tf_uw4 (hts _ (tf_g 109 (by decide +kernel) (by decide +kernel)))
  obtain ⟨c5, iS5, k5⟩ := u_known (C := "TermForge$Finder") (T := tf_T5) (N := 9) (n := 9) hts tf_uw5 (hts _ (tf_g 155 (by decide +kernel) (by decide +kernel)))
  obtain ⟨c6, iS6, k6⟩ := u_known (C := "TermForge$Reach") (T := tf_T6) (N := 4) (n := 4) hts tf_uw6 (hts _ (tf_g 189 (by decide +kernel) (by decide +kernel)))
  obtain ⟨c7, iS7, k7⟩ := u_known (C := "TermForge$Matching") (T := tf_T7) (N := 4) (n := 4) hts tf_uw7 (hts _ (tf_g 210 (by decide +kernel) (by decide +kernel)))
  obtain ⟨c8, iS8, k8⟩ := u_known (C := "TermForge$Pairs") (T := tf_T8) (N := 8) (n := 8) hts tf_uw8 (hts _ (tf_g 229 (by decide +kernel) (by decide +kernel)))
  obtain ⟨c9, iS9, k9⟩ := u_known (C := "TermForge$Writing") (T := tf_T9) (N := 7) (n := 7) hts tf_uw9 (hts _ (tf_g 262 (by decide +kernel) (by decide +kernel)))
  obtain ⟨c10, iS10, k10⟩ := u_known (C := "TermForgeModel") (T := tf_T10) (N := 33) (n := 33) hts tf_uw10 (hts _ (tf_g 841 (by decide +kernel) (by decide +kernel)))
  obtain ⟨a_int, q_int⟩ := le_arr (ty := .int) (fun C h => by cases h) (hts _ (tf_g 52 (by decide +kernel) (by decide +kernel)))
  obtain ⟨a_byte, q_byte⟩ := le_arr (ty := .byte) (fun C h => by cases h) (hts _ (tf_g 208 (by decide +kernel) (by decide +kernel)))
  obtain ⟨a_boolean, q_boolean⟩ := le_arr (ty := .boolean) (fun C h => by cases h) (hts _ (tf_g 947 (by decide +kernel) (by decide +kernel)))
  obtain ⟨a_long, q_long⟩ := le_arr (ty := .long) (fun C h => by cases h) (hts _ (tf_g 153 (by decide +kernel) (by decide +kernel)))
  refine ⟨(fun k => if k = 0 then c0 else if k = 1 then c1 else if k = 2 then c2 else if k = 3 then c3 else if k = 4 then c4 else if k = 5 then c5 else if k = 6 then c6 else if k = 7 then c7 else if k = 8 then c8 else if k = 9 then c9 else c10, fun k => if k = 0 then iS0 else if k = 1 then iS1 else if k = 2 then iS2 else if k = 3 then iS3 else if k = 4 then iS4 else if k = 5 then iS5 else if k = 6 then iS6 else if k = 7 then iS7 else if k = 8 then iS8 else if k = 9 then iS9 else iS10), fun k => if k = 0 then a_int else if k = 1 then a_byte else if k = 2 then a_boolean else a_long, ?_, ?_⟩
  · intro k q hq
    match k, hq with
    | 0, hq => cases hq; exact k0
    | 1, hq => cases hq; exact k1
    | 2, hq => cases hq; exact k2
    | 3, hq => cases hq; exact k3
    | 4, hq => cases hq; exact k4
    | 5, hq => cases hq; exact k5
    | 6, hq => cases hq; exact k6
    | 7, hq => cases hq; exact k7
    | 8, hq => cases hq; exact k8
    | 9, hq => cases hq; exact k9
    | 10, hq => cases hq; exact k10
    | (k + 11), hq => cases hq
  · intro k q hq
    match k, hq with
    | 0, hq => cases hq; exact q_int
    | 1, hq => cases hq; exact q_byte
    | 2, hq => cases hq; exact q_boolean
    | 3, hq => cases hq; exact q_long
    | (k + 4), hq => cases hq
