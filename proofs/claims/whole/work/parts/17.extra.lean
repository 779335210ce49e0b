-- EXTRA: printed by wip/whole/tool/emit2.py
def tf_pu (y : Nat) : Bool := Nat.beq y 19 || Nat.beq y 20 || Nat.beq y 21
def tf_cz0 (y : Nat) : Bool := Nat.beq y 1 || Nat.beq y 4 || Nat.beq y 5 || Nat.beq y 14 || Nat.beq y 16 || Nat.beq y 17 || Nat.beq y 19 || Nat.beq y 20 || Nat.beq y 21
def tf_xk (oc t : Nat) : Option Nat := bif Nat.beq oc 11 then (bif Nat.beq t 13 then some 1 else (bif Nat.beq t 19 then some 0 else (bif Nat.beq t 71 then some 2 else (none)))) else none
def tf_hdl (oc pc x : Nat) (hs : List (Nat × Nat × Nat × Nat)) : Option Nat := match hs with
  | [] => none
  | q :: r => bif Nat.ble q.1 pc && Nat.blt pc q.2.1 then (match tf_xk oc q.2.2.2 with
      | some k => bif Nat.beq k x then some q.2.2.1 else tf_hdl oc pc x r
      | none => none) else tf_hdl oc pc x r
theorem tf_xk_ok {oc t k : Nat} (h : tf_xk oc t = some k) : oc = 11 ∧ t ≠ 0 ∧ k < 3 ∧ Cond.classLink (tf_cn oc) t (tf_xn k) ∈ tf_gt := by
  unfold tf_xk at h
  cases hb : Nat.beq oc 11 with
  | false => rw [hb] at h; cases h
  | true =>
    rw [hb, cond_true] at h
    have hoc := Nat.eq_of_beq_eq_true hb
    subst hoc
    by_cases e13 : t = 13
    · subst e13; cases h; exact ⟨rfl, by decide, by decide, tf_g 324 (by decide +kernel) rfl⟩
    rw [show Nat.beq t 13 = false from (by cases hb : Nat.beq t 13 with | false => rfl | true => exact absurd (Nat.eq_of_beq_eq_true hb) e13), cond_false] at h
    by_cases e19 : t = 19
    · subst e19; cases h; exact ⟨rfl, by decide, by decide, tf_g 419 (by decide +kernel) rfl⟩
    rw [show Nat.beq t 19 = false from (by cases hb : Nat.beq t 19 with | false => rfl | true => exact absurd (Nat.eq_of_beq_eq_true hb) e19), cond_false] at h
    by_cases e71 : t = 71
    · subst e71; cases h; exact ⟨rfl, by decide, by decide, tf_g 802 (by decide +kernel) rfl⟩
    rw [show Nat.beq t 71 = false from (by cases hb : Nat.beq t 71 with | false => rfl | true => exact absurd (Nat.eq_of_beq_eq_true hb) e71), cond_false] at h
    cases h
def tf_cx : List Cond := [.castable "java/lang/IllegalArgumentException" "java/lang/IllegalArgumentException", .castable "java/lang/IllegalStateException" "java/lang/IllegalStateException", .castable "java/util/NoSuchElementException" "java/util/NoSuchElementException", .not (.castable "java/lang/IllegalArgumentException" "java/lang/IllegalStateException"), .not (.castable "java/lang/IllegalArgumentException" "java/util/NoSuchElementException"), .not (.castable "java/lang/IllegalStateException" "java/lang/IllegalArgumentException"), .not (.castable "java/lang/IllegalStateException" "java/util/NoSuchElementException"), .not (.castable "java/util/NoSuchElementException" "java/lang/IllegalArgumentException"), .not (.castable "java/util/NoSuchElementException" "java/lang/IllegalStateException"), (Jvm.Cond.declares ({ cls := "java/lang/RuntimeException", name := "<init>", desc := "()V" } : Jvm.MethodName)), (Jvm.Cond.declares ({ cls := "java/lang/RuntimeException", name := "<init>", desc := "(Ljava/lang/String;)V" } : Jvm.MethodName)), (Jvm.Cond.declares ({ cls := "java/lang/Exception", name := "<init>", desc := "()V" } : Jvm.MethodName)), (Jvm.Cond.declares ({ cls := "java/lang/Exception", name := "<init>", desc := "(Ljava/lang/String;)V" } : Jvm.MethodName)), (Jvm.Cond.declares ({ cls := "java/lang/Throwable", name := "<init>", desc := "()V" } : Jvm.MethodName)), (Jvm.Cond.declares ({ cls := "java/lang/Throwable", name := "<init>", desc := "(Ljava/lang/String;)V" } : Jvm.MethodName))]
theorem tf_cx_ok : ∀ w ∈ tf_cx, (∃ a b, w = .castable a b) ∨ (∃ a b, w = .not (.castable a b)) ∨ ∃ x, w = .declares x := by
  intro w hw
  simp only [tf_cx, List.mem_cons, List.not_mem_nil, or_false] at hw
  rcases hw with rfl | rfl | rfl | rfl | rfl | rfl | rfl | rfl | rfl | rfl | rfl | rfl | rfl | rfl | rfl
  all_goals first | exact Or.inl ⟨_, _, rfl⟩ | exact Or.inr (Or.inl ⟨_, _, rfl⟩) | exact Or.inr (Or.inr ⟨_, rfl⟩)
theorem tf_cx_s {x : Nat} (h : x < 3) : Cond.castable (tf_xn x) (tf_xn x) ∈ tf_cx := by
  match x, h with
  | 0, _ => decide +kernel
  | 1, _ => decide +kernel
  | 2, _ => decide +kernel
theorem tf_cx_n {x k : Nat} (h : x < 3) (hk : k < 3) (hne : k ≠ x) : Cond.not (.castable (tf_xn x) (tf_xn k)) ∈ tf_cx := by
  match x, h, k, hk with
  | 0, _, 1, _ => decide +kernel
  | 0, _, 2, _ => decide +kernel
  | 1, _, 0, _ => decide +kernel
  | 1, _, 2, _ => decide +kernel
  | 2, _, 0, _ => decide +kernel
  | 2, _, 1, _ => decide +kernel
  | 0, _, 0, _ => exact absurd rfl hne
  | 1, _, 1, _ => exact absurd rfl hne
  | 2, _, 2, _ => exact absurd rfl hne
def tf_up2 : List String := ["java/lang/RuntimeException", "java/lang/Exception"]
theorem tf_oa97 : ∀ w ∈ Bundle.ownAtoms "TermForge" 97 "java/lang/IllegalArgumentException" tf_up2, w ∈ tf_gt ∨ w ∈ tf_sw ∨ w ∈ tf_cx := by
  have key : ∀ w ∈ Bundle.ownAtoms "TermForge" 97 "java/lang/IllegalArgumentException" tf_up2, (w ∈ tables_1 ∧ goodWord w = true) ∨ w ∈ tf_sw ∨ w ∈ tf_cx := by decide +kernel
  intro w hw
  rcases key w hw with h | h
  · exact Or.inl (List.mem_append_left _ (List.mem_filter.mpr h))
  · exact Or.inr h
theorem tf_oa134 : ∀ w ∈ Bundle.ownAtoms "TermForge" 134 "java/lang/IllegalStateException" tf_up2, w ∈ tf_gt ∨ w ∈ tf_sw ∨ w ∈ tf_cx := by
  have key : ∀ w ∈ Bundle.ownAtoms "TermForge" 134 "java/lang/IllegalStateException" tf_up2, (w ∈ tables_1 ∧ goodWord w = true) ∨ w ∈ tf_sw ∨ w ∈ tf_cx := by decide +kernel
  intro w hw
  rcases key w hw with h | h
  · exact Or.inl (List.mem_append_left _ (List.mem_filter.mpr h))
  · exact Or.inr h
theorem tf_thx_ok {y pc ix ib ic x : Nat} (h : tf_thx y pc = some (ix, ib, ic, x)) : tf_oc y = 0 ∧ x < 3 ∧ tf_tab y pc = some (.new ix) ∧ tf_tab y (pc + 3) = some .dup ∧ tf_tab y (pc + 4) = some (.ldc ib) ∧ tf_tab y (pc + 6) = some (.invokespecial ic) ∧ tf_tab y (pc + 9) = some .athrow ∧
    (∃ tx, Cond.stringRef (tf_cn 0) ib tx ∈ tf_nt) ∧ Cond.classLink (tf_cn 0) ix (tf_xn x) ∈ tf_gt ∧ Cond.instantiable (tf_xn x) 6 ∈ tf_gt ∧ Cond.initialized (tf_xn x) ∈ tf_gt ∧ (x < 2 → ∀ w ∈ Bundle.ownAtoms (tf_cn 0) ic (tf_xn x) tf_up2, w ∈ tf_gt ∨ w ∈ tf_sw ∨ w ∈ tf_cx) ∧ (x = 2 → ic = 199) := by
  have hy : y < 153 := by
    apply Classical.byContradiction
    intro hn
    have : Nat.blt y 153 = false := by
      cases hb : Nat.blt y 153 with
      | false => rfl
      | true => exact absurd (Nat.le_of_ble_eq_true hb) hn
    unfold tf_thx at h
    rw [this] at h
    cases h
  by_cases y1 : y = 1
  · subst y1
    have h : (bif Nat.beq pc 10 then some (93, 95, 97, 0) else (bif Nat.beq pc 29 then some (93, 100, 97, 0) else (none))) = some (ix, ib, ic, x) := h
    by_cases p0 : pc = 10
    · subst p0; cases h; exact ⟨rfl, by decide, rfl, rfl, rfl, rfl, rfl, ⟨_, List.mem_of_getElem? (i := 4) rfl⟩, tf_g 424 (by decide +kernel) rfl, tf_g 425 (by decide +kernel) rfl, tf_g 16 (by decide +kernel) rfl, fun _ => tf_oa97, fun h => absurd h (by decide)⟩
    rw [show Nat.beq pc 10 = false from (by cases hb : Nat.beq pc 10 with | false => rfl | true => exact absurd (Nat.eq_of_beq_eq_true hb) p0), cond_false] at h
    by_cases p1 : pc = 29
    · subst p1; cases h; exact ⟨rfl, by decide, rfl, rfl, rfl, rfl, rfl, ⟨_, List.mem_of_getElem? (i := 5) rfl⟩, tf_g 424 (by decide +kernel) rfl, tf_g 425 (by decide +kernel) rfl, tf_g 16 (by decide +kernel) rfl, fun _ => tf_oa97, fun h => absurd h (by decide)⟩
    rw [show Nat.beq pc 29 = false from (by cases hb : Nat.beq pc 29 with | false => rfl | true => exact absurd (Nat.eq_of_beq_eq_true hb) p1), cond_false] at h
    cases h
  by_cases y4 : y = 4
  · subst y4
    have h : (bif Nat.beq pc 12 then some (130, 132, 134, 1) else (none)) = some (ix, ib, ic, x) := h
    by_cases p0 : pc = 12
    · subst p0; cases h; exact ⟨rfl, by decide, rfl, rfl, rfl, rfl, rfl, ⟨_, List.mem_of_getElem? (i := 8) rfl⟩, tf_g 333 (by decide +kernel) rfl, tf_g 334 (by decide +kernel) rfl, tf_g 15 (by decide +kernel) rfl, fun _ => tf_oa134, fun h => absurd h (by decide)⟩
    rw [show Nat.beq pc 12 = false from (by cases hb : Nat.beq pc 12 with | false => rfl | true => exact absurd (Nat.eq_of_beq_eq_true hb) p0), cond_false] at h
    cases h
  by_cases y5 : y = 5
  · subst y5
    have h : (bif Nat.beq pc 10 then some (130, 140, 134, 1) else (none)) = some (ix, ib, ic, x) := h
    by_cases p0 : pc = 10
    · subst p0; cases h; exact ⟨rfl, by decide, rfl, rfl, rfl, rfl, rfl, ⟨_, List.mem_of_getElem? (i := 9) rfl⟩, tf_g 333 (by decide +kernel) rfl, tf_g 334 (by decide +kernel) rfl, tf_g 15 (by decide +kernel) rfl, fun _ => tf_oa134, fun h => absurd h (by decide)⟩
    rw [show Nat.beq pc 10 = false from (by cases hb : Nat.beq pc 10 with | false => rfl | true => exact absurd (Nat.eq_of_beq_eq_true hb) p0), cond_false] at h
    cases h
  by_cases y14 : y = 14
  · subst y14
    have h : (bif Nat.beq pc 15 then some (93, 182, 97, 0) else (none)) = some (ix, ib, ic, x) := h
    by_cases p0 : pc = 15
    · subst p0; cases h; exact ⟨rfl, by decide, rfl, rfl, rfl, rfl, rfl, ⟨_, List.mem_of_getElem? (i := 14) rfl⟩, tf_g 424 (by decide +kernel) rfl, tf_g 425 (by decide +kernel) rfl, tf_g 16 (by decide +kernel) rfl, fun _ => tf_oa97, fun h => absurd h (by decide)⟩
    rw [show Nat.beq pc 15 = false from (by cases hb : Nat.beq pc 15 with | false => rfl | true => exact absurd (Nat.eq_of_beq_eq_true hb) p0), cond_false] at h
    cases h
  by_cases y16 : y = 16
  · subst y16
    have h : (bif Nat.beq pc 15 then some (195, 197, 199, 2) else (none)) = some (ix, ib, ic, x) := h
    by_cases p0 : pc = 15
    · subst p0; cases h; exact ⟨rfl, by decide, rfl, rfl, rfl, rfl, rfl, ⟨_, List.mem_of_getElem? (i := 18) rfl⟩, tf_g 807 (by decide +kernel) rfl, tf_g 808 (by decide +kernel) rfl, tf_g 21 (by decide +kernel) rfl, fun h => absurd h (by decide), fun _ => rfl⟩
    rw [show Nat.beq pc 15 = false from (by cases hb : Nat.beq pc 15 with | false => rfl | true => exact absurd (Nat.eq_of_beq_eq_true hb) p0), cond_false] at h
    cases h
  by_cases y17 : y = 17
  · subst y17
    have h : (bif Nat.beq pc 73 then some (93, 207, 97, 0) else (none)) = some (ix, ib, ic, x) := h
    by_cases p0 : pc = 73
    · subst p0; cases h; exact ⟨rfl, by decide, rfl, rfl, rfl, rfl, rfl, ⟨_, List.mem_of_getElem? (i := 19) rfl⟩, tf_g 424 (by decide +kernel) rfl, tf_g 425 (by decide +kernel) rfl, tf_g 16 (by decide +kernel) rfl, fun _ => tf_oa97, fun h => absurd h (by decide)⟩
    rw [show Nat.beq pc 73 = false from (by cases hb : Nat.beq pc 73 with | false => rfl | true => exact absurd (Nat.eq_of_beq_eq_true hb) p0), cond_false] at h
    cases h
  by_cases y19 : y = 19
  · subst y19
    have h : (bif Nat.beq pc 13 then some (130, 211, 134, 1) else (none)) = some (ix, ib, ic, x) := h
    by_cases p0 : pc = 13
    · subst p0; cases h; exact ⟨rfl, by decide, rfl, rfl, rfl, rfl, rfl, ⟨_, List.mem_of_getElem? (i := 3) rfl⟩, tf_g 333 (by decide +kernel) rfl, tf_g 334 (by decide +kernel) rfl, tf_g 15 (by decide +kernel) rfl, fun _ => tf_oa134, fun h => absurd h (by decide)⟩
    rw [show Nat.beq pc 13 = false from (by cases hb : Nat.beq pc 13 with | false => rfl | true => exact absurd (Nat.eq_of_beq_eq_true hb) p0), cond_false] at h
    cases h
  by_cases y20 : y = 20
  · subst y20
    have h : (bif Nat.beq pc 15 then some (93, 213, 97, 0) else (none)) = some (ix, ib, ic, x) := h
    by_cases p0 : pc = 15
    · subst p0; cases h; exact ⟨rfl, by decide, rfl, rfl, rfl, rfl, rfl, ⟨_, List.mem_of_getElem? (i := 6) rfl⟩, tf_g 424 (by decide +kernel) rfl, tf_g 425 (by decide +kernel) rfl, tf_g 16 (by decide +kernel) rfl, fun _ => tf_oa97, fun h => absurd h (by decide)⟩
    rw [show Nat.beq pc 15 = false from (by cases hb : Nat.beq pc 15 with | false => rfl | true => exact absurd (Nat.eq_of_beq_eq_true hb) p0), cond_false] at h
    cases h
  have key : ∀ y : Fin 153, y.val ≠ 1 → y.val ≠ 4 → y.val ≠ 5 → y.val ≠ 14 → y.val ≠ 16 → y.val ≠ 17 → y.val ≠ 19 → y.val ≠ 20 → ∀ pc, tf_thx y.val pc = none := by
    intro y
    match y with
    | ⟨y, hy⟩ =>
    intro q1 q4 q5 q14 q16 q17 q19 q20 pc
    by_cases h0_153 : y < 76
    · skip
      by_cases h0_76 : y < 38
      · skip
        by_cases h0_38 : y < 19
        · skip
          by_cases h0_19 : y < 9
          · skip
            by_cases h0_9 : y < 4
            · skip
              by_cases h0_4 : y < 2
              · skip
                by_cases h0_2 : y < 1
                · skip
                  have e : y = 0 := by omega
                  subst e
                  exact rfl
                · skip
                  have e : y = 1 := by omega
                  subst e
                  exact absurd rfl q1
              · skip
                by_cases h2_4 : y < 3
                · skip
                  have e : y = 2 := by omega
                  subst e
                  exact rfl
                · skip
                  have e : y = 3 := by omega
                  subst e
                  exact rfl
            · skip
              by_cases h4_9 : y < 6
              · skip
                by_cases h4_6 : y < 5
                · skip
                  have e : y = 4 := by omega
                  subst e
                  exact absurd rfl q4
                · skip
                  have e : y = 5 := by omega
                  subst e
                  exact absurd rfl q5
              · skip
                by_cases h6_9 : y < 7
                · skip
                  have e : y = 6 := by omega
                  subst e
                  exact rfl
                · skip
                  by_cases h7_9 : y < 8
                  · skip
                    have e : y = 7 := by omega
                    subst e
                    exact rfl
                  · skip
                    have e : y = 8 := by omega
                    subst e
                    exact rfl
          · skip
            by_cases h9_19 : y < 14
            · skip
              by_cases h9_14 : y < 11
              · skip
                by_cases h9_11 : y < 10
                · skip
                  have e : y = 9 := by omega
                  subst e
                  exact rfl
                · skip
                  have e : y = 10 := by omega
                  subst e
                  exact rfl
              · skip
                by_cases h11_14 : y < 12
                · skip
                  have e : y = 11 := by omega
                  subst e
                  exact rfl
                · skip
                  by_cases h12_14 : y < 13
                  · skip
                    have e : y = 12 := by omega
                    subst e
                    exact rfl
                  · skip
                    have e : y = 13 := by omega
                    subst e
                    exact rfl
            · skip
              by_cases h14_19 : y < 16
              · skip
                by_cases h14_16 : y < 15
                · skip
                  have e : y = 14 := by omega
                  subst e
                  exact absurd rfl q14
                · skip
                  have e : y = 15 := by omega
                  subst e
                  exact rfl
              · skip
                by_cases h16_19 : y < 17
                · skip
                  have e : y = 16 := by omega
                  subst e
                  exact absurd rfl q16
                · skip
                  by_cases h17_19 : y < 18
                  · skip
                    have e : y = 17 := by omega
                    subst e
                    exact absurd rfl q17
                  · skip
                    have e : y = 18 := by omega
                    subst e
                    exact rfl
        · skip
          by_cases h19_38 : y < 28
          · skip
            by_cases h19_28 : y < 23
            · skip
              by_cases h19_23 : y < 21
              · skip
                by_cases h19_21 : y < 20
                · skip
                  have e : y = 19 := by omega
                  subst e
                  exact absurd rfl q19
                · skip
                  have e : y = 20 := by omega
                  subst e
                  exact absurd rfl q20
              · skip
                by_cases h21_23 : y < 22
                · skip
                  have e : y = 21 := by omega
                  subst e
                  exact rfl
                · skip
                  have e : y = 22 := by omega
                  subst e
                  exact rfl
            · skip
              by_cases h23_28 : y < 25
              · skip
                by_cases h23_25 : y < 24
                · skip
                  have e : y = 23 := by omega
                  subst e
                  exact rfl
                · skip
                  have e : y = 24 := by omega
                  subst e
                  exact rfl
              · skip
                by_cases h25_28 : y < 26
                · skip
                  have e : y = 25 := by omega
                  subst e
                  exact rfl
                · skip
                  by_cases h26_28 : y < 27
                  · skip
                    have e : y = 26 := by omega
                    subst e
                    exact rfl
                  · skip
                    have e : y = 27 := by omega
                    subst e
                    exact rfl
          · skip
            by_cases h28_38 : y < 33
            · skip
              by_cases h28_33 : y < 30
              · skip
                by_cases h28_30 : y < 29
                · skip
                  have e : y = 28 := by omega
                  subst e
                  exact rfl
                · skip
                  have e : y = 29 := by omega
                  subst e
                  exact rfl
              · skip
                by_cases h30_33 : y < 31
                · skip
                  have e : y = 30 := by omega
                  subst e
                  exact rfl
                · skip
                  by_cases h31_33 : y < 32
                  · skip
                    have e : y = 31 := by omega
                    subst e
                    exact rfl
                  · skip
                    have e : y = 32 := by omega
                    subst e
                    exact rfl
            · skip
              by_cases h33_38 : y < 35
              · skip
                by_cases h33_35 : y < 34
                · skip
                  have e : y = 33 := by omega
                  subst e
                  exact rfl
                · skip
                  have e : y = 34 := by omega
                  subst e
                  exact rfl
              · skip
                by_cases h35_38 : y < 36
                · skip
                  have e : y = 35 := by omega
                  subst e
                  exact rfl
                · skip
                  by_cases h36_38 : y < 37
                  · skip
                    have e : y = 36 := by omega
                    subst e
                    exact rfl
                  · skip
                    have e : y = 37 := by omega
                    subst e
                    exact rfl
      · skip
        by_cases h38_76 : y < 57
        · skip
          by_cases h38_57 : y < 47
          · skip
            by_cases h38_47 : y < 42
            · skip
              by_cases h38_42 : y < 40
              · skip
                by_cases h38_40 : y < 39
                · skip
                  have e : y = 38 := by omega
                  subst e
                  exact rfl
                · skip
                  have e : y = 39 := by omega
                  subst e
                  exact rfl
              · skip
                by_cases h40_42 : y < 41
                · skip
                  have e : y = 40 := by omega
                  subst e
                  exact rfl
                · skip
                  have e : y = 41 := by omega
                  subst e
                  exact rfl
            · skip
              by_cases h42_47 : y < 44
              · skip
                by_cases h42_44 : y < 43
                · skip
                  have e : y = 42 := by omega
                  subst e
                  exact rfl
                · skip
                  have e : y = 43 := by omega
                  subst e
                  exact rfl
              · skip
                by_cases h44_47 : y < 45
                · skip
                  have e : y = 44 := by omega
                  subst e
                  exact rfl
                · skip
                  by_cases h45_47 : y < 46
                  · skip
                    have e : y = 45 := by omega
                    subst e
                    exact rfl
                  · skip
                    have e : y = 46 := by omega
                    subst e
                    exact rfl
          · skip
            by_cases h47_57 : y < 52
            · skip
              by_cases h47_52 : y < 49
              · skip
                by_cases h47_49 : y < 48
                · skip
                  have e : y = 47 := by omega
                  subst e
                  exact rfl
                · skip
                  have e : y = 48 := by omega
                  subst e
                  exact rfl
              · skip
                by_cases h49_52 : y < 50
                · skip
                  have e : y = 49 := by omega
                  subst e
                  exact rfl
                · skip
                  by_cases h50_52 : y < 51
                  · skip
                    have e : y = 50 := by omega
                    subst e
                    exact rfl
                  · skip
                    have e : y = 51 := by omega
                    subst e
                    exact rfl
            · skip
              by_cases h52_57 : y < 54
              · skip
                by_cases h52_54 : y < 53
                · skip
                  have e : y = 52 := by omega
                  subst e
                  exact rfl
                · skip
                  have e : y = 53 := by omega
                  subst e
                  exact rfl
              · skip
                by_cases h54_57 : y < 55
                · skip
                  have e : y = 54 := by omega
                  subst e
                  exact rfl
                · skip
                  by_cases h55_57 : y < 56
                  · skip
                    have e : y = 55 := by omega
                    subst e
                    exact rfl
                  · skip
                    have e : y = 56 := by omega
                    subst e
                    exact rfl
        · skip
          by_cases h57_76 : y < 66
          · skip
            by_cases h57_66 : y < 61
            · skip
              by_cases h57_61 : y < 59
              · skip
                by_cases h57_59 : y < 58
                · skip
                  have e : y = 57 := by omega
                  subst e
                  exact rfl
                · skip
                  have e : y = 58 := by omega
                  subst e
                  exact rfl
              · skip
                by_cases h59_61 : y < 60
                · skip
                  have e : y = 59 := by omega
                  subst e
                  exact rfl
                · skip
                  have e : y = 60 := by omega
                  subst e
                  exact rfl
            · skip
              by_cases h61_66 : y < 63
              · skip
                by_cases h61_63 : y < 62
                · skip
                  have e : y = 61 := by omega
                  subst e
                  exact rfl
                · skip
                  have e : y = 62 := by omega
                  subst e
                  exact rfl
              · skip
                by_cases h63_66 : y < 64
                · skip
                  have e : y = 63 := by omega
                  subst e
                  exact rfl
                · skip
                  by_cases h64_66 : y < 65
                  · skip
                    have e : y = 64 := by omega
                    subst e
                    exact rfl
                  · skip
                    have e : y = 65 := by omega
                    subst e
                    exact rfl
          · skip
            by_cases h66_76 : y < 71
            · skip
              by_cases h66_71 : y < 68
              · skip
                by_cases h66_68 : y < 67
                · skip
                  have e : y = 66 := by omega
                  subst e
                  exact rfl
                · skip
                  have e : y = 67 := by omega
                  subst e
                  exact rfl
              · skip
                by_cases h68_71 : y < 69
                · skip
                  have e : y = 68 := by omega
                  subst e
                  exact rfl
                · skip
                  by_cases h69_71 : y < 70
                  · skip
                    have e : y = 69 := by omega
                    subst e
                    exact rfl
                  · skip
                    have e : y = 70 := by omega
                    subst e
                    exact rfl
            · skip
              by_cases h71_76 : y < 73
              · skip
                by_cases h71_73 : y < 72
                · skip
                  have e : y = 71 := by omega
                  subst e
                  exact rfl
                · skip
                  have e : y = 72 := by omega
                  subst e
                  exact rfl
              · skip
                by_cases h73_76 : y < 74
                · skip
                  have e : y = 73 := by omega
                  subst e
                  exact rfl
                · skip
                  by_cases h74_76 : y < 75
                  · skip
                    have e : y = 74 := by omega
                    subst e
                    exact rfl
                  · skip
                    have e : y = 75 := by omega
                    subst e
                    exact rfl
    · skip
      by_cases h76_153 : y < 114
      · skip
        by_cases h76_114 : y < 95
        · skip
          by_cases h76_95 : y < 85
          · skip
            by_cases h76_85 : y < 80
            · skip
              by_cases h76_80 : y < 78
              · skip
                by_cases h76_78 : y < 77
                · skip
                  have e : y = 76 := by omega
                  subst e
                  exact rfl
                · skip
                  have e : y = 77 := by omega
                  subst e
                  exact rfl
              · skip
                by_cases h78_80 : y < 79
                · skip
                  have e : y = 78 := by omega
                  subst e
                  exact rfl
                · skip
                  have e : y = 79 := by omega
                  subst e
                  exact rfl
            · skip
              by_cases h80_85 : y < 82
              · skip
                by_cases h80_82 : y < 81
                · skip
                  have e : y = 80 := by omega
                  subst e
                  exact rfl
                · skip
                  have e : y = 81 := by omega
                  subst e
                  exact rfl
              · skip
                by_cases h82_85 : y < 83
                · skip
                  have e : y = 82 := by omega
                  subst e
                  exact rfl
                · skip
                  by_cases h83_85 : y < 84
                  · skip
                    have e : y = 83 := by omega
                    subst e
                    exact rfl
                  · skip
                    have e : y = 84 := by omega
                    subst e
                    exact rfl
          · skip
            by_cases h85_95 : y < 90
            · skip
              by_cases h85_90 : y < 87
              · skip
                by_cases h85_87 : y < 86
                · skip
                  have e : y = 85 := by omega
                  subst e
                  exact rfl
                · skip
                  have e : y = 86 := by omega
                  subst e
                  exact rfl
              · skip
                by_cases h87_90 : y < 88
                · skip
                  have e : y = 87 := by omega
                  subst e
                  exact rfl
                · skip
                  by_cases h88_90 : y < 89
                  · skip
                    have e : y = 88 := by omega
                    subst e
                    exact rfl
                  · skip
                    have e : y = 89 := by omega
                    subst e
                    exact rfl
            · skip
              by_cases h90_95 : y < 92
              · skip
                by_cases h90_92 : y < 91
                · skip
                  have e : y = 90 := by omega
                  subst e
                  exact rfl
                · skip
                  have e : y = 91 := by omega
                  subst e
                  exact rfl
              · skip
                by_cases h92_95 : y < 93
                · skip
                  have e : y = 92 := by omega
                  subst e
                  exact rfl
                · skip
                  by_cases h93_95 : y < 94
                  · skip
                    have e : y = 93 := by omega
                    subst e
                    exact rfl
                  · skip
                    have e : y = 94 := by omega
                    subst e
                    exact rfl
        · skip
          by_cases h95_114 : y < 104
          · skip
            by_cases h95_104 : y < 99
            · skip
              by_cases h95_99 : y < 97
              · skip
                by_cases h95_97 : y < 96
                · skip
                  have e : y = 95 := by omega
                  subst e
                  exact rfl
                · skip
                  have e : y = 96 := by omega
                  subst e
                  exact rfl
              · skip
                by_cases h97_99 : y < 98
                · skip
                  have e : y = 97 := by omega
                  subst e
                  exact rfl
                · skip
                  have e : y = 98 := by omega
                  subst e
                  exact rfl
            · skip
              by_cases h99_104 : y < 101
              · skip
                by_cases h99_101 : y < 100
                · skip
                  have e : y = 99 := by omega
                  subst e
                  exact rfl
                · skip
                  have e : y = 100 := by omega
                  subst e
                  exact rfl
              · skip
                by_cases h101_104 : y < 102
                · skip
                  have e : y = 101 := by omega
                  subst e
                  exact rfl
                · skip
                  by_cases h102_104 : y < 103
                  · skip
                    have e : y = 102 := by omega
                    subst e
                    exact rfl
                  · skip
                    have e : y = 103 := by omega
                    subst e
                    exact rfl
          · skip
            by_cases h104_114 : y < 109
            · skip
              by_cases h104_109 : y < 106
              · skip
                by_cases h104_106 : y < 105
                · skip
                  have e : y = 104 := by omega
                  subst e
                  exact rfl
                · skip
                  have e : y = 105 := by omega
                  subst e
                  exact rfl
              · skip
                by_cases h106_109 : y < 107
                · skip
                  have e : y = 106 := by omega
                  subst e
                  exact rfl
                · skip
                  by_cases h107_109 : y < 108
                  · skip
                    have e : y = 107 := by omega
                    subst e
                    exact rfl
                  · skip
                    have e : y = 108 := by omega
                    subst e
                    exact rfl
            · skip
              by_cases h109_114 : y < 111
              · skip
                by_cases h109_111 : y < 110
                · skip
                  have e : y = 109 := by omega
                  subst e
                  exact rfl
                · skip
                  have e : y = 110 := by omega
                  subst e
                  exact rfl
              · skip
                by_cases h111_114 : y < 112
                · skip
                  have e : y = 111 := by omega
                  subst e
                  exact rfl
                · skip
                  by_cases h112_114 : y < 113
                  · skip
                    have e : y = 112 := by omega
                    subst e
                    exact rfl
                  · skip
                    have e : y = 113 := by omega
                    subst e
                    exact rfl
      · skip
        by_cases h114_153 : y < 133
        · skip
          by_cases h114_133 : y < 123
          · skip
            by_cases h114_123 : y < 118
            · skip
              by_cases h114_118 : y < 116
              · skip
                by_cases h114_116 : y < 115
                · skip
                  have e : y = 114 := by omega
                  subst e
                  exact rfl
                · skip
                  have e : y = 115 := by omega
                  subst e
                  exact rfl
              · skip
                by_cases h116_118 : y < 117
                · skip
                  have e : y = 116 := by omega
                  subst e
                  exact rfl
                · skip
                  have e : y = 117 := by omega
                  subst e
                  exact rfl
            · skip
              by_cases h118_123 : y < 120
              · skip
                by_cases h118_120 : y < 119
                · skip
                  have e : y = 118 := by omega
                  subst e
                  exact rfl
                · skip
                  have e : y = 119 := by omega
                  subst e
                  exact rfl
              · skip
                by_cases h120_123 : y < 121
                · skip
                  have e : y = 120 := by omega
                  subst e
                  exact rfl
                · skip
                  by_cases h121_123 : y < 122
                  · skip
                    have e : y = 121 := by omega
                    subst e
                    exact rfl
                  · skip
                    have e : y = 122 := by omega
                    subst e
                    exact rfl
          · skip
            by_cases h123_133 : y < 128
            · skip
              by_cases h123_128 : y < 125
              · skip
                by_cases h123_125 : y < 124
                · skip
                  have e : y = 123 := by omega
                  subst e
                  exact rfl
                · skip
                  have e : y = 124 := by omega
                  subst e
                  exact rfl
              · skip
                by_cases h125_128 : y < 126
                · skip
                  have e : y = 125 := by omega
                  subst e
                  exact rfl
                · skip
                  by_cases h126_128 : y < 127
                  · skip
                    have e : y = 126 := by omega
                    subst e
                    exact rfl
                  · skip
                    have e : y = 127 := by omega
                    subst e
                    exact rfl
            · skip
              by_cases h128_133 : y < 130
              · skip
                by_cases h128_130 : y < 129
                · skip
                  have e : y = 128 := by omega
                  subst e
                  exact rfl
                · skip
                  have e : y = 129 := by omega
                  subst e
                  exact rfl
              · skip
                by_cases h130_133 : y < 131
                · skip
                  have e : y = 130 := by omega
                  subst e
                  exact rfl
                · skip
                  by_cases h131_133 : y < 132
                  · skip
                    have e : y = 131 := by omega
                    subst e
                    exact rfl
                  · skip
                    have e : y = 132 := by omega
                    subst e
                    exact rfl
        · skip
          by_cases h133_153 : y < 143
          · skip
            by_cases h133_143 : y < 138
            · skip
              by_cases h133_138 : y < 135
              · skip
                by_cases h133_135 : y < 134
                · skip
                  have e : y = 133 := by omega
                  subst e
                  exact rfl
                · skip
                  have e : y = 134 := by omega
                  subst e
                  exact rfl
              · skip
                by_cases h135_138 : y < 136
                · skip
                  have e : y = 135 := by omega
                  subst e
                  exact rfl
                · skip
                  by_cases h136_138 : y < 137
                  · skip
                    have e : y = 136 := by omega
                    subst e
                    exact rfl
                  · skip
                    have e : y = 137 := by omega
                    subst e
                    exact rfl
            · skip
              by_cases h138_143 : y < 140
              · skip
                by_cases h138_140 : y < 139
                · skip
                  have e : y = 138 := by omega
                  subst e
                  exact rfl
                · skip
                  have e : y = 139 := by omega
                  subst e
                  exact rfl
              · skip
                by_cases h140_143 : y < 141
                · skip
                  have e : y = 140 := by omega
                  subst e
                  exact rfl
                · skip
                  by_cases h141_143 : y < 142
                  · skip
                    have e : y = 141 := by omega
                    subst e
                    exact rfl
                  · skip
                    have e : y = 142 := by omega
                    subst e
                    exact rfl
          · skip
            by_cases h143_153 : y < 148
            · skip
              by_cases h143_148 : y < 145
              · skip
                by_cases h143_145 : y < 144
                · skip
                  have e : y = 143 := by omega
                  subst e
                  exact rfl
                · skip
                  have e : y = 144 := by omega
                  subst e
                  exact rfl
              · skip
                by_cases h145_148 : y < 146
                · skip
                  have e : y = 145 := by omega
                  subst e
                  exact rfl
                · skip
                  by_cases h146_148 : y < 147
                  · skip
                    have e : y = 146 := by omega
                    subst e
                    exact rfl
                  · skip
                    have e : y = 147 := by omega
                    subst e
                    exact rfl
            · skip
              by_cases h148_153 : y < 150
              · skip
                by_cases h148_150 : y < 149
                · skip
                  have e : y = 148 := by omega
                  subst e
                  exact rfl
                · skip
                  have e : y = 149 := by omega
                  subst e
                  exact rfl
              · skip
                by_cases h150_153 : y < 151
                · skip
                  have e : y = 150 := by omega
                  subst e
                  exact rfl
                · skip
                  by_cases h151_153 : y < 152
                  · skip
                    have e : y = 151 := by omega
                    subst e
                    exact rfl
                  · skip
                    have e : y = 152 := by omega
                    subst e
                    exact rfl
  have := key ⟨y, hy⟩ y1 y4 y5 y14 y16 y17 y19 y20 pc
  rw [show tf_thx y pc = none from this] at h
  cases h
theorem tf_i900 {oc ix : Nat} (h : tf_inv oc ix = some 900) : Cond.methodLink (tf_cn oc) ix Lib.Math.max.name ∈ tf_gt ∧ Cond.static Lib.Math.max.name ∈ tf_gt ∧ Cond.initialized "java/lang/Math" ∈ tf_gt ∧ Cond.code Lib.Math.max.name Lib.Math.max.code 2 (some .int) ∈ tf_gt := by
  obtain ⟨k, hk⟩ := tf_invM h
  have key : ∀ e ∈ tf_invL, e.2.2.1 = 900 → e.1 = 4 ∧ e.2.1 = 57 := by decide +kernel
  obtain ⟨h1, h2⟩ := key _ hk rfl
  have h1 : oc = 4 := h1
  have h2 : ix = 57 := h2
  subst h1; subst h2
  exact ⟨tf_g 604 (by decide +kernel) rfl, tf_g 605 (by decide +kernel) rfl, tf_g 18 (by decide +kernel) rfl, tf_g 606 (by decide +kernel) rfl⟩
theorem tf_i901 {oc ix : Nat} (h : tf_inv oc ix = some 901) : Cond.methodLink (tf_cn oc) ix Lib.MathLoose.min_long.x ∈ tf_gt ∧ Cond.static Lib.MathLoose.min_long.x ∈ tf_gt ∧ Cond.initialized "java/lang/Math" ∈ tf_gt ∧ Cond.code Lib.MathLoose.min_long.x Lib.MathLoose.min_long.code 4 (some .long) ∈ tf_gt := by
  obtain ⟨k, hk⟩ := tf_invM h
  have key : ∀ e ∈ tf_invL, e.2.2.1 = 901 → e.1 = 4 ∧ e.2.1 = 64 := by decide +kernel
  obtain ⟨h1, h2⟩ := key _ hk rfl
  have h1 : oc = 4 := h1
  have h2 : ix = 64 := h2
  subst h1; subst h2
  exact ⟨tf_g 608 (by decide +kernel) rfl, tf_g 609 (by decide +kernel) rfl, tf_g 18 (by decide +kernel) rfl, tf_g 610 (by decide +kernel) rfl⟩
theorem tf_i902 {oc ix : Nat} (h : tf_inv oc ix = some 902) : Cond.methodLink (tf_cn oc) ix arraycopyName ∈ tf_gt ∧ Cond.native arraycopyName ∈ tf_gt ∧ Cond.static arraycopyName ∈ tf_gt ∧ Cond.initialized "java/lang/System" ∈ tf_gt := by
  obtain ⟨k, hk⟩ := tf_invM h
  have key : ∀ e ∈ tf_invL, e.2.2.1 = 902 → e.1 = 9 ∧ e.2.1 = 47 := by decide +kernel
  obtain ⟨h1, h2⟩ := key _ hk rfl
  have h1 : oc = 9 := h1
  have h2 : ix = 47 := h2
  subst h1; subst h2
  exact ⟨tf_g 796 (by decide +kernel) rfl, tf_g 798 (by decide +kernel) rfl, tf_g 797 (by decide +kernel) rfl, tf_g 20 (by decide +kernel) rfl⟩
