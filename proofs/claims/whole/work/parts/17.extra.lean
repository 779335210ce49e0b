-- EXTRA: printed by wip/whole/tool/emit2.py
def tf_pu (y : Nat) : Bool := Nat.beq y 19 || Nat.beq y 20 || Nat.beq y 21
def tf_cz0 (y : Nat) : Bool := Nat.beq y 1 || Nat.beq y 4 || Nat.beq y 5 || Nat.beq y 14 || Nat.beq y 16 || Nat.beq y 17 || Nat.beq y 19 || Nat.beq y 20 || Nat.beq y 21
def tf_xk (oc t : Nat) : Option Nat := bif Nat.beq oc 11 then (bif Nat.beq t 13 then some 1 else (bif Nat.beq t 19 then some 0 else (bif Nat.beq t 71 then some 2 else (none)))) else none
def tf_hdl (oc pc x : Nat) (hs : List (Nat × Nat × Nat × Nat)) : Option Nat := match hs with
  | [] => none
  | q :: r => bif Nat.ble q.1 pc && Nat.blt pc q.2.1 then (match tf_xk oc q.2.2.2 with
      | some k => bif Nat.beq k x then some q.2.2.1 else tf_hdl oc pc x r
      | none => none) else tf_hdl oc pc x r
theorem tf_xk_ok {oc t k : Nat} (h : tf_xk oc t = some k) : oc = 11 ∧ t ≠ 0 ∧ k < 3 ∧ Cond.classLink (tf_cn oc) t (tf_xn k) ∈ tf_gt := by
  unfold tf_xk at h
  cases hb : Nat.beq oc 11 with
  | false => rw [hb] at h; cases h
  | true =>
    rw [hb, cond_true] at h
    have hoc := Nat.eq_of_beq_eq_true hb
    subst hoc
    by_cases e13 : t = 13
    · subst e13; cases h; exact ⟨rfl, by decide, by decide, tf_g 313 (by decide +kernel) rfl⟩
    rw [show Nat.beq t 13 = false from (by cases hb : Nat.beq t 13 with | false => rfl | true => exact absurd (Nat.eq_of_beq_eq_true hb) e13), cond_false] at h
    by_cases e19 : t = 19
    · subst e19; cases h; exact ⟨rfl, by decide, by decide, tf_g 408 (by decide +kernel) rfl⟩
    rw [show Nat.beq t 19 = false from (by cases hb : Nat.beq t 19 with | false => rfl | true => exact absurd (Nat.eq_of_beq_eq_true hb) e19), cond_false] at h
    by_cases e71 : t = 71
    · subst e71; cases h; exact ⟨rfl, by decide, by decide, tf_g 778 (by decide +kernel) rfl⟩
    rw [show Nat.beq t 71 = false from (by cases hb : Nat.beq t 71 with | false => rfl | true => exact absurd (Nat.eq_of_beq_eq_true hb) e71), cond_false] at h
    cases h
def tf_cx : List Cond := [.castable "java/lang/IllegalArgumentException" "java/lang/IllegalArgumentException", .castable "java/lang/IllegalStateException" "java/lang/IllegalStateException", .castable "java/util/NoSuchElementException" "java/util/NoSuchElementException", .not (.castable "java/lang/IllegalArgumentException" "java/lang/IllegalStateException"), .not (.castable "java/lang/IllegalArgumentException" "java/util/NoSuchElementException"), .not (.castable "java/lang/IllegalStateException" "java/lang/IllegalArgumentException"), .not (.castable "java/lang/IllegalStateException" "java/util/NoSuchElementException"), .not (.castable "java/util/NoSuchElementException" "java/lang/IllegalArgumentException"), .not (.castable "java/util/NoSuchElementException" "java/lang/IllegalStateException"), (Jvm.Cond.declares ({ cls := "java/lang/RuntimeException", name := "<init>", desc := "()V" } : Jvm.MethodName)), (Jvm.Cond.declares ({ cls := "java/lang/RuntimeException", name := "<init>", desc := "(Ljava/lang/String;)V" } : Jvm.MethodName)), (Jvm.Cond.declares ({ cls := "java/lang/Exception", name := "<init>", desc := "()V" } : Jvm.MethodName)), (Jvm.Cond.declares ({ cls := "java/lang/Exception", name := "<init>", desc := "(Ljava/lang/String;)V" } : Jvm.MethodName)), (Jvm.Cond.declares ({ cls := "java/lang/Throwable", name := "<init>", desc := "()V" } : Jvm.MethodName)), (Jvm.Cond.declares ({ cls := "java/lang/Throwable", name := "<init>", desc := "(Ljava/lang/String;)V" } : Jvm.MethodName))]
theorem tf_cx_ok : ∀ w ∈ tf_cx, (∃ a b, w = .castable a b) ∨ (∃ a b, w = .not (.castable a b)) ∨ ∃ x, w = .declares x := by
  intro w hw
  simp only [tf_cx, List.mem_cons, List.not_mem_nil, or_false] at hw
  rcases hw with rfl | rfl | rfl | rfl | rfl | rfl | rfl | rfl | rfl | rfl | rfl | rfl | rfl | rfl | rfl
  all_goals first | exact Or.inl ⟨_, _, rfl⟩ | exact Or.inr (Or.inl ⟨_, _, rfl⟩) | exact Or.inr (Or.inr ⟨_, rfl⟩)
theorem tf_cx_s {x : Nat} (h : x < 3) : Cond.castable (tf_xn x) (tf_xn x) ∈ tf_cx := by
  match x, h with
  | 0, _ => decide +kernel
  | 1, _ => decide +kernel
  | 2, _ => decide +kernel
theorem tf_cx_n {x k : Nat} (h : x < 3) (hk : k < 3) (hne : k ≠ x) : Cond.not (.castable (tf_xn x) (tf_xn k)) ∈ tf_cx := by
  match x, h, k, hk with
  | 0, _, 1, _ => decide +kernel
  | 0, _, 2, _ => decide +kernel
  | 1, _, 0, _ => decide +kernel
  | 1, _, 2, _ => decide +kernel
  | 2, _, 0, _ => decide +kernel
  | 2, _, 1, _ => decide +kernel
  | 0, _, 0, _ => exact absurd rfl hne
  | 1, _, 1, _ => exact absurd rfl hne
  | 2, _, 2, _ => exact absurd rfl hne
def tf_up2 : List String := ["java/lang/RuntimeException", "java/lang/Exception"]
theorem tf_oa97 : ∀ w ∈ Bundle.ownAtoms "TermForge" 97 "java/lang/IllegalArgumentException" tf_up2, w ∈ tf_gt ∨ w ∈ tf_sw ∨ w ∈ tf_cx := by
  have key : ∀ w ∈ Bundle.ownAtoms "TermForge" 97 "java/lang/IllegalArgumentException" tf_up2, (w ∈ tables_1 ∧ goodWord w = true) ∨ w ∈ tf_sw ∨ w ∈ tf_cx := by decide +kernel
  intro w hw
  rcases key w hw with h | h
  · exact Or.inl (List.mem_append_left _ (List.mem_filter.mpr h))
  · exact Or.inr h
theorem tf_oa134 : ∀ w ∈ Bundle.ownAtoms "TermForge" 134 "java/lang/IllegalStateException" tf_up2, w ∈ tf_gt ∨ w ∈ tf_sw ∨ w ∈ tf_cx := by
  have key : ∀ w ∈ Bundle.ownAtoms "TermForge" 134 "java/lang/IllegalStateException" tf_up2, (w ∈ tables_1 ∧ goodWord w = true) ∨ w ∈ tf_sw ∨ w ∈ tf_cx := by decide +kernel
  intro w hw
  rcases key w hw with h | h
  · exact Or.inl (List.mem_append_left _ (List.mem_filter.mpr h))
  · exact Or.inr h
theorem tf_thx_ok {y pc ix ib ic x : Nat} (h : tf_thx y pc = some (ix, ib, ic, x)) : tf_oc y = 0 ∧ x < 3 ∧ tf_tab y pc = some (.new ix) ∧ tf_tab y (pc + 3) = some .dup ∧ tf_tab y (pc + 4) = some (.ldc ib) ∧ tf_tab y (pc + 6) = some (.invokespecial ic) ∧ tf_tab y (pc + 9) = some .athrow ∧
    (∃ tx, Cond.stringRef (tf_cn 0) ib tx ∈ tf_nt) ∧ Cond.classLink (tf_cn 0) ix (tf_xn x) ∈ tf_gt ∧ Cond.instantiable (tf_xn x) 6 ∈ tf_gt ∧ Cond.initialized (tf_xn x) ∈ tf_gt ∧ (x < 2 → ∀ w ∈ Bundle.ownAtoms (tf_cn 0) ic (tf_xn x) tf_up2, w ∈ tf_gt ∨ w ∈ tf_sw ∨ w ∈ tf_cx) ∧ (x = 2 → ic = 199) := by
  have hy : y < 150 := by
    apply Classical.byContradiction
    intro hn
    have : Nat.blt y 150 = false := by
      cases hb : Nat.blt y 150 with
      | false => rfl
      | true => exact absurd (Nat.le_of_ble_eq_true hb) hn
    unfold tf_thx at h
    rw [this] at h
    cases h
  by_cases y1 : y = 1
  · subst y1
    have h : (bif Nat.beq pc 10 then some (93, 95, 97, 0) else (bif Nat.beq pc 29 then some (93, 100, 97, 0) else (none))) = some (ix, ib, ic, x) := h
    by_cases p0 : pc = 10
    · subst p0; cases h; exact ⟨rfl, by decide, rfl, rfl, rfl, rfl, rfl, ⟨_, List.mem_of_getElem? (i := 4) rfl⟩, tf_g 413 (by decide +kernel) rfl, tf_g 414 (by decide +kernel) rfl, tf_g 16 (by decide +kernel) rfl, fun _ => tf_oa97, fun h => absurd h (by decide)⟩
    rw [show Nat.beq pc 10 = false from (by cases hb : Nat.beq pc 10 with | false => rfl | true => exact absurd (Nat.eq_of_beq_eq_true hb) p0), cond_false] at h
    by_cases p1 : pc = 29
    · subst p1; cases h; exact ⟨rfl, by decide, rfl, rfl, rfl, rfl, rfl, ⟨_, List.mem_of_getElem? (i := 5) rfl⟩, tf_g 413 (by decide +kernel) rfl, tf_g 414 (by decide +kernel) rfl, tf_g 16 (by decide +kernel) rfl, fun _ => tf_oa97, fun h => absurd h (by decide)⟩
    rw [show Nat.beq pc 29 = false from (by cases hb : Nat.beq pc 29 with | false => rfl | true => exact absurd (Nat.eq_of_beq_eq_true hb) p1), cond_false] at h
    cases h
  by_cases y4 : y = 4
  · subst y4
    have h : (bif Nat.beq pc 12 then some (130, 132, 134, 1) else (none)) = some (ix, ib, ic, x) := h
    by_cases p0 : pc = 12
    · subst p0; cases h; exact ⟨rfl, by decide, rfl, rfl, rfl, rfl, rfl, ⟨_, List.mem_of_getElem? (i := 8) rfl⟩, tf_g 322 (by decide +kernel) rfl, tf_g 323 (by decide +kernel) rfl, tf_g 15 (by decide +kernel) rfl, fun _ => tf_oa134, fun h => absurd h (by decide)⟩
    rw [show Nat.beq pc 12 = false from (by cases hb : Nat.beq pc 12 with | false => rfl | true => exact absurd (Nat.eq_of_beq_eq_true hb) p0), cond_false] at h
    cases h
  by_cases y5 : y = 5
  · subst y5
    have h : (bif Nat.beq pc 10 then some (130, 140, 134, 1) else (none)) = some (ix, ib, ic, x) := h
    by_cases p0 : pc = 10
    · subst p0; cases h; exact ⟨rfl, by decide, rfl, rfl, rfl, rfl, rfl, ⟨_, List.mem_of_getElem? (i := 9) rfl⟩, tf_g 322 (by decide +kernel) rfl, tf_g 323 (by decide +kernel) rfl, tf_g 15 (by decide +kernel) rfl, fun _ => tf_oa134, fun h => absurd h (by decide)⟩
    rw [show Nat.beq pc 10 = false from (by cases hb : Nat.beq pc 10 with | false => rfl | true => exact absurd (Nat.eq_of_beq_eq_true hb) p0), cond_false] at h
    cases h
  by_cases y14 : y = 14
  · subst y14
    have h : (bif Nat.beq pc 15 then some (93, 182, 97, 0) else (none)) = some (ix, ib, ic, x) := h
    by_cases p0 : pc = 15
    · subst p0; cases h; exact ⟨rfl, by decide, rfl, rfl, rfl, rfl, rfl, ⟨_, List.mem_of_getElem? (i := 14) rfl⟩, tf_g 413 (by decide +kernel) rfl, tf_g 414 (by decide +kernel) rfl, tf_g 16 (by decide +kernel) rfl, fun _ => tf_oa97, fun h => absurd h (by decide)⟩
    rw [show Nat.beq pc 15 = false from (by cases hb : Nat.beq pc 15 with | false => rfl | true => exact absurd (Nat.eq_of_beq_eq_true hb) p0), cond_false] at h
    cases h
  by_cases y16 : y = 16
  · subst y16
    have h : (bif Nat.beq pc 15 then some (195, 197, 199, 2) else (none)) = some (ix, ib, ic, x) := h
    by_cases p0 : pc = 15
    · subst p0; cases h; exact ⟨rfl, by decide, rfl, rfl, rfl, rfl, rfl, ⟨_, List.mem_of_getElem? (i := 18) rfl⟩, tf_g 783 (by decide +kernel) rfl, tf_g 784 (by decide +kernel) rfl, tf_g 20 (by decide +kernel) rfl, fun h => absurd h (by decide), fun _ => rfl⟩
    rw [show Nat.beq pc 15 = false from (by cases hb : Nat.beq pc 15 with | false => rfl | true => exact absurd (Nat.eq_of_beq_eq_true hb) p0), cond_false] at h
    cases h
  by_cases y17 : y = 17
  · subst y17
    have h : (bif Nat.beq pc 73 then some (93, 207, 97, 0) else (none)) = some (ix, ib, ic, x) := h
    by_cases p0 : pc = 73
    · subst p0; cases h; exact ⟨rfl, by decide, rfl, rfl, rfl, rfl, rfl, ⟨_, List.mem_of_getElem? (i := 19) rfl⟩, tf_g 413 (by decide +kernel) rfl, tf_g 414 (by decide +kernel) rfl, tf_g 16 (by decide +kernel) rfl, fun _ => tf_oa97, fun h => absurd h (by decide)⟩
    rw [show Nat.beq pc 73 = false from (by cases hb : Nat.beq pc 73 with | false => rfl | true => exact absurd (Nat.eq_of_beq_eq_true hb) p0), cond_false] at h
    cases h
  by_cases y19 : y = 19
  · subst y19
    have h : (bif Nat.beq pc 13 then some (130, 211, 134, 1) else (none)) = some (ix, ib, ic, x) := h
    by_cases p0 : pc = 13
    · subst p0; cases h; exact ⟨rfl, by decide, rfl, rfl, rfl, rfl, rfl, ⟨_, List.mem_of_getElem? (i := 3) rfl⟩, tf_g 322 (by decide +kernel) rfl, tf_g 323 (by decide +kernel) rfl, tf_g 15 (by decide +kernel) rfl, fun _ => tf_oa134, fun h => absurd h (by decide)⟩
    rw [show Nat.beq pc 13 = false from (by cases hb : Nat.beq pc 13 with | false => rfl | true => exact absurd (Nat.eq_of_beq_eq_true hb) p0), cond_false] at h
    cases h
  by_cases y20 : y = 20
  · subst y20
    have h : (bif Nat.beq pc 15 then some (93, 213, 97, 0) else (none)) = some (ix, ib, ic, x) := h
    by_cases p0 : pc = 15
    · subst p0; cases h; exact ⟨rfl, by decide, rfl, rfl, rfl, rfl, rfl, ⟨_, List.mem_of_getElem? (i := 6) rfl⟩, tf_g 413 (by decide +kernel) rfl, tf_g 414 (by decide +kernel) rfl, tf_g 16 (by decide +kernel) rfl, fun _ => tf_oa97, fun h => absurd h (by decide)⟩
    rw [show Nat.beq pc 15 = false from (by cases hb : Nat.beq pc 15 with | false => rfl | true => exact absurd (Nat.eq_of_beq_eq_true hb) p0), cond_false] at h
    cases h
  have key : ∀ y : Fin 150, y.val ≠ 1 → y.val ≠ 4 → y.val ≠ 5 → y.val ≠ 14 → y.val ≠ 16 → y.val ≠ 17 → y.val ≠ 19 → y.val ≠ 20 → ∀ pc, tf_thx y.val pc = none := by
    intro y
    match y with
    | ⟨y, hy⟩ =>
    intro q1 q4 q5 q14 q16 q17 q19 q20 pc
    by_cases h0_150 : y < 75
    · skip
      by_cases h0_75 : y < 37
      · skip
        by_cases h0_37 : y < 18
        · skip
          by_cases h0_18 : y < 9
          · skip
            by_cases h0_9 : y < 4
            · skip
              by_cases h0_4 : y < 2
              · skip
                by_cases h0_2 : y < 1
                · skip
                  have e : y = 0 := by omega
                  subst e
                  exact rfl
                · skip
                  have e : y = 1 := by omega
                  subst e
                  exact absurd rfl q1
              · skip
                by_cases h2_4 : y < 3
                · skip
                  have e : y = 2 := by omega
                  subst e
                  exact rfl
                · skip
                  have e : y = 3 := by omega
                  subst e
                  exact rfl
            · skip
              by_cases h4_9 : y < 6
              · skip
                by_cases h4_6 : y < 5
                · skip
                  have e : y = 4 := by omega
                  subst e
                  exact absurd rfl q4
                · skip
                  have e : y = 5 := by omega
                  subst e
                  exact absurd rfl q5
              · skip
                by_cases h6_9 : y < 7
                · skip
                  have e : y = 6 := by omega
                  subst e
                  exact rfl
                · skip
                  by_cases h7_9 : y < 8
                  · skip
                    have e : y = 7 := by omega
                    subst e
                    exact rfl
                  · skip
                    have e : y = 8 := by omega
                    subst e
                    exact rfl
          · skip
            by_cases h9_18 : y < 13
            · skip
              by_cases h9_13 : y < 11
              · skip
                by_cases h9_11 : y < 10
                · skip
                  have e : y = 9 := by omega
                  subst e
                  exact rfl
                · skip
                  have e : y = 10 := by omega
                  subst e
                  exact rfl
              · skip
                by_cases h11_13 : y < 12
                · skip
                  have e : y = 11 := by omega
                  subst e
                  exact rfl
                · skip
                  have e : y = 12 := by omega
                  subst e
                  exact rfl
            · skip
              by_cases h13_18 : y < 15
              · skip
                by_cases h13_15 : y < 14
                · skip
                  have e : y = 13 := by omega
                  subst e
                  exact rfl
                · skip
                  have e : y = 14 := by omega
                  subst e
                  exact absurd rfl q14
              · skip
                by_cases h15_18 : y < 16
                · skip
                  have e : y = 15 := by omega
                  subst e
                  exact rfl
                · skip
                  by_cases h16_18 : y < 17
                  · skip
                    have e : y = 16 := by omega
                    subst e
                    exact absurd rfl q16
                  · skip
                    have e : y = 17 := by omega
                    subst e
                    exact absurd rfl q17
        · skip
          by_cases h18_37 : y < 27
          · skip
            by_cases h18_27 : y < 22
            · skip
              by_cases h18_22 : y < 20
              · skip
                by_cases h18_20 : y < 19
                · skip
                  have e : y = 18 := by omega
                  subst e
                  exact rfl
                · skip
                  have e : y = 19 := by omega
                  subst e
                  exact absurd rfl q19
              · skip
                by_cases h20_22 : y < 21
                · skip
                  have e : y = 20 := by omega
                  subst e
                  exact absurd rfl q20
                · skip
                  have e : y = 21 := by omega
                  subst e
                  exact rfl
            · skip
              by_cases h22_27 : y < 24
              · skip
                by_cases h22_24 : y < 23
                · skip
                  have e : y = 22 := by omega
                  subst e
                  exact rfl
                · skip
                  have e : y = 23 := by omega
                  subst e
                  exact rfl
              · skip
                by_cases h24_27 : y < 25
                · skip
                  have e : y = 24 := by omega
                  subst e
                  exact rfl
                · skip
                  by_cases h25_27 : y < 26
                  · skip
                    have e : y = 25 := by omega
                    subst e
                    exact rfl
                  · skip
                    have e : y = 26 := by omega
                    subst e
                    exact rfl
          · skip
            by_cases h27_37 : y < 32
            · skip
              by_cases h27_32 : y < 29
              · skip
                by_cases h27_29 : y < 28
                · skip
                  have e : y = 27 := by omega
                  subst e
                  exact rfl
                · skip
                  have e : y = 28 := by omega
                  subst e
                  exact rfl
              · skip
                by_cases h29_32 : y < 30
                · skip
                  have e : y = 29 := by omega
                  subst e
                  exact rfl
                · skip
                  by_cases h30_32 : y < 31
                  · skip
                    have e : y = 30 := by omega
                    subst e
                    exact rfl
                  · skip
                    have e : y = 31 := by omega
                    subst e
                    exact rfl
            · skip
              by_cases h32_37 : y < 34
              · skip
                by_cases h32_34 : y < 33
                · skip
                  have e : y = 32 := by omega
                  subst e
                  exact rfl
                · skip
                  have e : y = 33 := by omega
                  subst e
                  exact rfl
              · skip
                by_cases h34_37 : y < 35
                · skip
                  have e : y = 34 := by omega
                  subst e
                  exact rfl
                · skip
                  by_cases h35_37 : y < 36
                  · skip
                    have e : y = 35 := by omega
                    subst e
                    exact rfl
                  · skip
                    have e : y = 36 := by omega
                    subst e
                    exact rfl
      · skip
        by_cases h37_75 : y < 56
        · skip
          by_cases h37_56 : y < 46
          · skip
            by_cases h37_46 : y < 41
            · skip
              by_cases h37_41 : y < 39
              · skip
                by_cases h37_39 : y < 38
                · skip
                  have e : y = 37 := by omega
                  subst e
                  exact rfl
                · skip
                  have e : y = 38 := by omega
                  subst e
                  exact rfl
              · skip
                by_cases h39_41 : y < 40
                · skip
                  have e : y = 39 := by omega
                  subst e
                  exact rfl
                · skip
                  have e : y = 40 := by omega
                  subst e
                  exact rfl
            · skip
              by_cases h41_46 : y < 43
              · skip
                by_cases h41_43 : y < 42
                · skip
                  have e : y = 41 := by omega
                  subst e
                  exact rfl
                · skip
                  have e : y = 42 := by omega
                  subst e
                  exact rfl
              · skip
                by_cases h43_46 : y < 44
                · skip
                  have e : y = 43 := by omega
                  subst e
                  exact rfl
                · skip
                  by_cases h44_46 : y < 45
                  · skip
                    have e : y = 44 := by omega
                    subst e
                    exact rfl
                  · skip
                    have e : y = 45 := by omega
                    subst e
                    exact rfl
          · skip
            by_cases h46_56 : y < 51
            · skip
              by_cases h46_51 : y < 48
              · skip
                by_cases h46_48 : y < 47
                · skip
                  have e : y = 46 := by omega
                  subst e
                  exact rfl
                · skip
                  have e : y = 47 := by omega
                  subst e
                  exact rfl
              · skip
                by_cases h48_51 : y < 49
                · skip
                  have e : y = 48 := by omega
                  subst e
                  exact rfl
                · skip
                  by_cases h49_51 : y < 50
                  · skip
                    have e : y = 49 := by omega
                    subst e
                    exact rfl
                  · skip
                    have e : y = 50 := by omega
                    subst e
                    exact rfl
            · skip
              by_cases h51_56 : y < 53
              · skip
                by_cases h51_53 : y < 52
                · skip
                  have e : y = 51 := by omega
                  subst e
                  exact rfl
                · skip
                  have e : y = 52 := by omega
                  subst e
                  exact rfl
              · skip
                by_cases h53_56 : y < 54
                · skip
                  have e : y = 53 := by omega
                  subst e
                  exact rfl
                · skip
                  by_cases h54_56 : y < 55
                  · skip
                    have e : y = 54 := by omega
                    subst e
                    exact rfl
                  · skip
                    have e : y = 55 := by omega
                    subst e
                    exact rfl
        · skip
          by_cases h56_75 : y < 65
          · skip
            by_cases h56_65 : y < 60
            · skip
              by_cases h56_60 : y < 58
              · skip
                by_cases h56_58 : y < 57
                · skip
                  have e : y = 56 := by omega
                  subst e
                  exact rfl
                · skip
                  have e : y = 57 := by omega
                  subst e
                  exact rfl
              · skip
                by_cases h58_60 : y < 59
                · skip
                  have e : y = 58 := by omega
                  subst e
                  exact rfl
                · skip
                  have e : y = 59 := by omega
                  subst e
                  exact rfl
            · skip
              by_cases h60_65 : y < 62
              · skip
                by_cases h60_62 : y < 61
                · skip
                  have e : y = 60 := by omega
                  subst e
                  exact rfl
                · skip
                  have e : y = 61 := by omega
                  subst e
                  exact rfl
              · skip
                by_cases h62_65 : y < 63
                · skip
                  have e : y = 62 := by omega
                  subst e
                  exact rfl
                · skip
                  by_cases h63_65 : y < 64
                  · skip
                    have e : y = 63 := by omega
                    subst e
                    exact rfl
                  · skip
                    have e : y = 64 := by omega
                    subst e
                    exact rfl
          · skip
            by_cases h65_75 : y < 70
            · skip
              by_cases h65_70 : y < 67
              · skip
                by_cases h65_67 : y < 66
                · skip
                  have e : y = 65 := by omega
                  subst e
                  exact rfl
                · skip
                  have e : y = 66 := by omega
                  subst e
                  exact rfl
              · skip
                by_cases h67_70 : y < 68
                · skip
                  have e : y = 67 := by omega
                  subst e
                  exact rfl
                · skip
                  by_cases h68_70 : y < 69
                  · skip
                    have e : y = 68 := by omega
                    subst e
                    exact rfl
                  · skip
                    have e : y = 69 := by omega
                    subst e
                    exact rfl
            · skip
              by_cases h70_75 : y < 72
              · skip
                by_cases h70_72 : y < 71
                · skip
                  have e : y = 70 := by omega
                  subst e
                  exact rfl
                · skip
                  have e : y = 71 := by omega
                  subst e
                  exact rfl
              · skip
                by_cases h72_75 : y < 73
                · skip
                  have e : y = 72 := by omega
                  subst e
                  exact rfl
                · skip
                  by_cases h73_75 : y < 74
                  · skip
                    have e : y = 73 := by omega
                    subst e
                    exact rfl
                  · skip
                    have e : y = 74 := by omega
                    subst e
                    exact rfl
    · skip
      by_cases h75_150 : y < 112
      · skip
        by_cases h75_112 : y < 93
        · skip
          by_cases h75_93 : y < 84
          · skip
            by_cases h75_84 : y < 79
            · skip
              by_cases h75_79 : y < 77
              · skip
                by_cases h75_77 : y < 76
                · skip
                  have e : y = 75 := by omega
                  subst e
                  exact rfl
                · skip
                  have e : y = 76 := by omega
                  subst e
                  exact rfl
              · skip
                by_cases h77_79 : y < 78
                · skip
                  have e : y = 77 := by omega
                  subst e
                  exact rfl
                · skip
                  have e : y = 78 := by omega
                  subst e
                  exact rfl
            · skip
              by_cases h79_84 : y < 81
              · skip
                by_cases h79_81 : y < 80
                · skip
                  have e : y = 79 := by omega
                  subst e
                  exact rfl
                · skip
                  have e : y = 80 := by omega
                  subst e
                  exact rfl
              · skip
                by_cases h81_84 : y < 82
                · skip
                  have e : y = 81 := by omega
                  subst e
                  exact rfl
                · skip
                  by_cases h82_84 : y < 83
                  · skip
                    have e : y = 82 := by omega
                    subst e
                    exact rfl
                  · skip
                    have e : y = 83 := by omega
                    subst e
                    exact rfl
          · skip
            by_cases h84_93 : y < 88
            · skip
              by_cases h84_88 : y < 86
              · skip
                by_cases h84_86 : y < 85
                · skip
                  have e : y = 84 := by omega
                  subst e
                  exact rfl
                · skip
                  have e : y = 85 := by omega
                  subst e
                  exact rfl
              · skip
                by_cases h86_88 : y < 87
                · skip
                  have e : y = 86 := by omega
                  subst e
                  exact rfl
                · skip
                  have e : y = 87 := by omega
                  subst e
                  exact rfl
            · skip
              by_cases h88_93 : y < 90
              · skip
                by_cases h88_90 : y < 89
                · skip
                  have e : y = 88 := by omega
                  subst e
                  exact rfl
                · skip
                  have e : y = 89 := by omega
                  subst e
                  exact rfl
              · skip
                by_cases h90_93 : y < 91
                · skip
                  have e : y = 90 := by omega
                  subst e
                  exact rfl
                · skip
                  by_cases h91_93 : y < 92
                  · skip
                    have e : y = 91 := by omega
                    subst e
                    exact rfl
                  · skip
                    have e : y = 92 := by omega
                    subst e
                    exact rfl
        · skip
          by_cases h93_112 : y < 102
          · skip
            by_cases h93_102 : y < 97
            · skip
              by_cases h93_97 : y < 95
              · skip
                by_cases h93_95 : y < 94
                · skip
                  have e : y = 93 := by omega
                  subst e
                  exact rfl
                · skip
                  have e : y = 94 := by omega
                  subst e
                  exact rfl
              · skip
                by_cases h95_97 : y < 96
                · skip
                  have e : y = 95 := by omega
                  subst e
                  exact rfl
                · skip
                  have e : y = 96 := by omega
                  subst e
                  exact rfl
            · skip
              by_cases h97_102 : y < 99
              · skip
                by_cases h97_99 : y < 98
                · skip
                  have e : y = 97 := by omega
                  subst e
                  exact rfl
                · skip
                  have e : y = 98 := by omega
                  subst e
                  exact rfl
              · skip
                by_cases h99_102 : y < 100
                · skip
                  have e : y = 99 := by omega
                  subst e
                  exact rfl
                · skip
                  by_cases h100_102 : y < 101
                  · skip
                    have e : y = 100 := by omega
                    subst e
                    exact rfl
                  · skip
                    have e : y = 101 := by omega
                    subst e
                    exact rfl
          · skip
            by_cases h102_112 : y < 107
            · skip
              by_cases h102_107 : y < 104
              · skip
                by_cases h102_104 : y < 103
                · skip
                  have e : y = 102 := by omega
                  subst e
                  exact rfl
                · skip
                  have e : y = 103 := by omega
                  subst e
                  exact rfl
              · skip
                by_cases h104_107 : y < 105
                · skip
                  have e : y = 104 := by omega
                  subst e
                  exact rfl
                · skip
                  by_cases h105_107 : y < 106
                  · skip
                    have e : y = 105 := by omega
                    subst e
                    exact rfl
                  · skip
                    have e : y = 106 := by omega
                    subst e
                    exact rfl
            · skip
              by_cases h107_112 : y < 109
              · skip
                by_cases h107_109 : y < 108
                · skip
                  have e : y = 107 := by omega
                  subst e
                  exact rfl
                · skip
                  have e : y = 108 := by omega
                  subst e
                  exact rfl
              · skip
                by_cases h109_112 : y < 110
                · skip
                  have e : y = 109 := by omega
                  subst e
                  exact rfl
                · skip
                  by_cases h110_112 : y < 111
                  · skip
                    have e : y = 110 := by omega
                    subst e
                    exact rfl
                  · skip
                    have e : y = 111 := by omega
                    subst e
                    exact rfl
      · skip
        by_cases h112_150 : y < 131
        · skip
          by_cases h112_131 : y < 121
          · skip
            by_cases h112_121 : y < 116
            · skip
              by_cases h112_116 : y < 114
              · skip
                by_cases h112_114 : y < 113
                · skip
                  have e : y = 112 := by omega
                  subst e
                  exact rfl
                · skip
                  have e : y = 113 := by omega
                  subst e
                  exact rfl
              · skip
                by_cases h114_116 : y < 115
                · skip
                  have e : y = 114 := by omega
                  subst e
                  exact rfl
                · skip
                  have e : y = 115 := by omega
                  subst e
                  exact rfl
            · skip
              by_cases h116_121 : y < 118
              · skip
                by_cases h116_118 : y < 117
                · skip
                  have e : y = 116 := by omega
                  subst e
                  exact rfl
                · skip
                  have e : y = 117 := by omega
                  subst e
                  exact rfl
              · skip
                by_cases h118_121 : y < 119
                · skip
                  have e : y = 118 := by omega
                  subst e
                  exact rfl
                · skip
                  by_cases h119_121 : y < 120
                  · skip
                    have e : y = 119 := by omega
                    subst e
                    exact rfl
                  · skip
                    have e : y = 120 := by omega
                    subst e
                    exact rfl
          · skip
            by_cases h121_131 : y < 126
            · skip
              by_cases h121_126 : y < 123
              · skip
                by_cases h121_123 : y < 122
                · skip
                  have e : y = 121 := by omega
                  subst e
                  exact rfl
                · skip
                  have e : y = 122 := by omega
                  subst e
                  exact rfl
              · skip
                by_cases h123_126 : y < 124
                · skip
                  have e : y = 123 := by omega
                  subst e
                  exact rfl
                · skip
                  by_cases h124_126 : y < 125
                  · skip
                    have e : y = 124 := by omega
                    subst e
                    exact rfl
                  · skip
                    have e : y = 125 := by omega
                    subst e
                    exact rfl
            · skip
              by_cases h126_131 : y < 128
              · skip
                by_cases h126_128 : y < 127
                · skip
                  have e : y = 126 := by omega
                  subst e
                  exact rfl
                · skip
                  have e : y = 127 := by omega
                  subst e
                  exact rfl
              · skip
                by_cases h128_131 : y < 129
                · skip
                  have e : y = 128 := by omega
                  subst e
                  exact rfl
                · skip
                  by_cases h129_131 : y < 130
                  · skip
                    have e : y = 129 := by omega
                    subst e
                    exact rfl
                  · skip
                    have e : y = 130 := by omega
                    subst e
                    exact rfl
        · skip
          by_cases h131_150 : y < 140
          · skip
            by_cases h131_140 : y < 135
            · skip
              by_cases h131_135 : y < 133
              · skip
                by_cases h131_133 : y < 132
                · skip
                  have e : y = 131 := by omega
                  subst e
                  exact rfl
                · skip
                  have e : y = 132 := by omega
                  subst e
                  exact rfl
              · skip
                by_cases h133_135 : y < 134
                · skip
                  have e : y = 133 := by omega
                  subst e
                  exact rfl
                · skip
                  have e : y = 134 := by omega
                  subst e
                  exact rfl
            · skip
              by_cases h135_140 : y < 137
              · skip
                by_cases h135_137 : y < 136
                · skip
                  have e : y = 135 := by omega
                  subst e
                  exact rfl
                · skip
                  have e : y = 136 := by omega
                  subst e
                  exact rfl
              · skip
                by_cases h137_140 : y < 138
                · skip
                  have e : y = 137 := by omega
                  subst e
                  exact rfl
                · skip
                  by_cases h138_140 : y < 139
                  · skip
                    have e : y = 138 := by omega
                    subst e
                    exact rfl
                  · skip
                    have e : y = 139 := by omega
                    subst e
                    exact rfl
          · skip
            by_cases h140_150 : y < 145
            · skip
              by_cases h140_145 : y < 142
              · skip
                by_cases h140_142 : y < 141
                · skip
                  have e : y = 140 := by omega
                  subst e
                  exact rfl
                · skip
                  have e : y = 141 := by omega
                  subst e
                  exact rfl
              · skip
                by_cases h142_145 : y < 143
                · skip
                  have e : y = 142 := by omega
                  subst e
                  exact rfl
                · skip
                  by_cases h143_145 : y < 144
                  · skip
                    have e : y = 143 := by omega
                    subst e
                    exact rfl
                  · skip
                    have e : y = 144 := by omega
                    subst e
                    exact rfl
            · skip
              by_cases h145_150 : y < 147
              · skip
                by_cases h145_147 : y < 146
                · skip
                  have e : y = 145 := by omega
                  subst e
                  exact rfl
                · skip
                  have e : y = 146 := by omega
                  subst e
                  exact rfl
              · skip
                by_cases h147_150 : y < 148
                · skip
                  have e : y = 147 := by omega
                  subst e
                  exact rfl
                · skip
                  by_cases h148_150 : y < 149
                  · skip
                    have e : y = 148 := by omega
                    subst e
                    exact rfl
                  · skip
                    have e : y = 149 := by omega
                    subst e
                    exact rfl
  have := key ⟨y, hy⟩ y1 y4 y5 y14 y16 y17 y19 y20 pc
  rw [show tf_thx y pc = none from this] at h
  cases h
theorem tf_i900 {oc ix : Nat} (h : tf_inv oc ix = some 900) : Cond.methodLink (tf_cn oc) ix Lib.Math.max.name ∈ tf_gt ∧ Cond.static Lib.Math.max.name ∈ tf_gt ∧ Cond.initialized "java/lang/Math" ∈ tf_gt ∧ Cond.code Lib.Math.max.name Lib.Math.max.code 2 (some .int) ∈ tf_gt := by
  obtain ⟨k, hk⟩ := tf_invM h
  have key : ∀ e ∈ tf_invL, e.2.2.1 = 900 → e.1 = 4 ∧ e.2.1 = 57 := by decide +kernel
  obtain ⟨h1, h2⟩ := key _ hk rfl
  have h1 : oc = 4 := h1
  have h2 : ix = 57 := h2
  subst h1; subst h2
  exact ⟨tf_g 598 (by decide +kernel) rfl, tf_g 599 (by decide +kernel) rfl, tf_g 18 (by decide +kernel) rfl, tf_g 600 (by decide +kernel) rfl⟩
theorem tf_i901 {oc ix : Nat} (h : tf_inv oc ix = some 901) : Cond.methodLink (tf_cn oc) ix Lib.MathLoose.min_long.x ∈ tf_gt ∧ Cond.static Lib.MathLoose.min_long.x ∈ tf_gt ∧ Cond.initialized "java/lang/Math" ∈ tf_gt ∧ Cond.code Lib.MathLoose.min_long.x Lib.MathLoose.min_long.code 4 (some .long) ∈ tf_gt := by
  obtain ⟨k, hk⟩ := tf_invM h
  have key : ∀ e ∈ tf_invL, e.2.2.1 = 901 → e.1 = 4 ∧ e.2.1 = 64 := by decide +kernel
  obtain ⟨h1, h2⟩ := key _ hk rfl
  have h1 : oc = 4 := h1
  have h2 : ix = 64 := h2
  subst h1; subst h2
  exact ⟨tf_g 602 (by decide +kernel) rfl, tf_g 603 (by decide +kernel) rfl, tf_g 18 (by decide +kernel) rfl, tf_g 604 (by decide +kernel) rfl⟩
theorem tf_i902 {oc ix : Nat} (h : tf_inv oc ix = some 902) : Cond.methodLink (tf_cn oc) ix arraycopyName ∈ tf_gt ∧ Cond.native arraycopyName ∈ tf_gt ∧ Cond.static arraycopyName ∈ tf_gt ∧ Cond.initialized "java/lang/System" ∈ tf_gt := by
  obtain ⟨k, hk⟩ := tf_invM h
  have key : ∀ e ∈ tf_invL, e.2.2.1 = 902 → e.1 = 9 ∧ e.2.1 = 43 := by decide +kernel
  obtain ⟨h1, h2⟩ := key _ hk rfl
  have h1 : oc = 9 := h1
  have h2 : ix = 43 := h2
  subst h1; subst h2
  exact ⟨tf_g 772 (by decide +kernel) rfl, tf_g 774 (by decide +kernel) rfl, tf_g 773 (by decide +kernel) rfl, tf_g 19 (by decide +kernel) rfl⟩
