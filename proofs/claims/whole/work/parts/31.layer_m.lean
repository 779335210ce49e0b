-- LAYER M: the throw; the JDK's three; the calls
section
variable {l : Launch} {y : Nat} {sc : Option (Nat × (Int → Int))} {Post : tf_Out → tf_Sto → Prop} {pc : Nat} {lo : tf_Lo} {st : List tf_Av} {cs : Option (Nat × Nat)} {G : tf_Sto} {go : Nat → tf_Lo → List tf_Av → Option (Nat × Nat) → tf_Sto → Prop}
set_option maxHeartbeats 2000000 in
theorem tf_s_new {ix0 : Nat} (hi : tf_tab y pc = some (.new ix0)) (h : tf_step l y sc Post (.new ix0) pc lo st cs G go) : tf_AW l y sc Post pc lo st cs G := by
  have h : (match tf_thx y pc with
      | some q => bif (tf_hs y).isEmpty && Nat.ble 6 (tf_rk y) && Nat.ble (tf_cats st + 82) (tf_lc y) then (((tf_cs cs).1 + 1 ≤ tf_mc y ∧ (tf_cs cs).2 + 6 ≤ tf_ms y) ∧ Post (.inr q.2.2.2) G) else False
      | none => False) := h
  cases hq : tf_thx y pc with
  | none => rw [hq] at h; exact h.elim
  | some q =>
    obtain ⟨ix, ib, ic, x⟩ := q
    rw [hq] at h
    obtain ⟨h0, hcl, hpost⟩ := tf_bif h
    simp only [Bool.and_eq_true] at h0
    obtain ⟨⟨he, hrk⟩, hlc⟩ := h0
    have he := List.isEmpty_iff.mp he
    have hrk := Nat.le_of_ble_eq_true hrk
    have hlc := Nat.le_of_ble_eq_true hlc
    obtain ⟨t1, hx3, t2, t3, t4, t5, t6, ⟨tx, t7⟩, t8, t9, t10, t11, t12⟩ := tf_thx_ok hq
    obtain ⟨n0, d0, e0⟩ := tf_tab_ok t2
    have e0 : n0 = 3 := tf_ln (k := 2) e0 rfl
    subst e0
    obtain ⟨n3, d3, e3⟩ := tf_tab_ok t3
    have e3 : n3 = 1 := tf_ln (k := 0) e3 rfl
    subst e3
    obtain ⟨n4, d4, e4⟩ := tf_tab_ok t4
    have e4 : n4 = 2 := tf_ln (k := 1) e4 rfl
    subst e4
    obtain ⟨n6, d6, e6⟩ := tf_tab_ok t5
    have e6 : n6 = 3 := tf_ln (k := 2) e6 rfl
    subst e6
    obtain ⟨n9, d9, e9⟩ := tf_tab_ok t6
    have e9 : n9 = 1 := tf_ln (k := 0) e9 rfl
    subst e9
    intro hG hlo hst p e s m args below meth c H locs ls D cA ad A C hP hD hS hl
    obtain ⟨hx, hb, hr, hml, hown, hts, hnw, hlk, hK, hA, hA0, hex, hfl, hsc, hsw⟩ := id C
    have hown : s.vm.findClass (tf_cn 0) = some m.cls := by rw [← t1]; exact hown
    intro T hT X
    have htr : e.platform.stackTraces = false := Launch.traces_off hfl X.admits
    obtain ⟨vm₁, cX, kX, hfX, hkX, -, -, X₁, st1⟩ := X.newCold hx (own := tf_cn 0) (C := tf_xn x) (index := ix) (n := 6) hown (hts _ t8) (hts _ t9) (hts _ t10)
      (g := F0 m pc ls (st.map (tf_cv ad))) rfl (by rw [hb]; exact d0) hcl.1 hcl.2
    generalize hTe : (T.setVm vm₁).pushCell { cls := cX, slots := kX.instanceTypes.map defaultValue, vm := .none } = T1 at X₁ st1
    have hcellA : T1.heap[T.heap.size]? = some (freshCell cX kX) := by rw [← hTe]; exact State.heap_pushCell_size _ _
    have hconst : (Cond.stringRef (tf_cn 0) ib tx).before args s = true := hnw _ t7
    obtain ⟨-, -, -, sa, -, -, -, -, -, hev⟩ := Cond.stringRef_spec hown hconst
    have hout : ∀ z ∈ c.exceptionTable.toList, covers z (pc + 6 + 3) = false := by
      intro z hz
      rw [he] at hex
      have : c.exceptionTable.toList = [] := List.map_eq_nil_iff.mp hex
      rw [this] at hz
      cases hz
    have hnew : s.heap.size ≤ T.heap.size := by rw [hT]; exact hS.1
    have hlocs : ∀ x ∈ locs, ∀ cell, s.heap[x.base]? = some cell → cell.vm.isStatics = false := fun q hq cell hc => hA0 _ (hS.2.2 q hq) cell hc
    obtain ⟨U, hsteps, hrun, hend, hW, hsame, ce, hce, hcv, hcc⟩ : ∃ U : State, Steps p.tables e below (T1.setTop (F0 m (pc + 6) ls (.ref sa :: .ref T.heap.size :: .ref T.heap.size :: st.map (tf_cv ad)))) U ∧ U.status = .running ∧ Ended U below (.threw T.heap.size) ∧ s.WarmedH U.vm ∧ s.sameButNew ({ U with vm := s.vm } : State) locs ((tf_cs cs).1 + 1) ((tf_cs cs).2 + 6) ∧
        ∃ ce, U.heap[T.heap.size]? = some ce ∧ ce.vm = .none ∧ s.vm.findClass (tf_xn x) = some ce.cls := by
      by_cases hx2 : x = 2
      · sorry
      · have hat := t11 (by omega)
        obtain ⟨U, q1, q2, q3, q4, q5, ce, q6, K⟩ := X₁.ctorThrowS hx htr (own := tf_cn 0) (cls := tf_xn x) (names := tf_up2) (ic := ic) hown (by match x, hx3 with | 0, _ => decide +kernel | 1, _ => decide +kernel | 2, _ => decide +kernel) (by decide +kernel)
          (fun w hw => by
            rcases hat w hw with h | h | h
            · exact hts w h
            · have h1 := hsw.1 w h
              simp only [tf_sw, List.mem_cons, List.not_mem_nil, or_false] at h
              rcases h with rfl | rfl | rfl | rfl <;> exact h1
            · have h1 := hsw.2 w h
              rcases tf_cx_ok w h with ⟨a, b, rfl⟩ | ⟨a, b, rfl⟩ | ⟨z, rfl⟩
              · exact h1
              · exact h1
              · exact va_tabs rfl rfl h1) hlocs hfX hkX hcellA hnew (msg := .ref sa) rfl
          (g := F0 m (pc + 6) ls (.ref sa :: .ref T.heap.size :: .ref T.heap.size :: st.map (tf_cv ad))) rfl (hl.1.trans hml.symm) rfl rfl (rest := st.map (tf_cv ad)) rfl
          (by rw [hb]; exact d6) (by rw [hb]; exact d9) hout (show 2 + 3 < tf_rk y by omega) (by show 2 * 0 + (1 + ((st.map (tf_cv ad)).map fun v => v.category).sum) + (13 * (2 + 1) + 42) ≤ tf_lc y; rw [tf_cats_ok]; omega) hlk
        exact ⟨U, q1, q2, q3, q4, q5, ce, q6, K.vm, K.cls⟩
    have hheap : ∀ q : Nat, q < s.heap.size → ¬ A q → U.heap[q]? = s.heap[q]? := by
      intro q h1 h2
      obtain ⟨cell, hc⟩ : ∃ cell, s.heap[q]? = some cell := ⟨s.heap[q], Array.getElem?_eq_getElem h1⟩
      sorry
    refine ⟨U, ?_, .threw T.heap.size, hrun, hend, ⟨locs, hW, hsame.mono hcl.1 hcl.2, hS.2.2⟩, ⟨?_, hheap⟩, .inr x, G, hpost, hG.1, ⟨hx3, _, ce, rfl, hce, hcv, hcc⟩, ?_⟩
    · refine st1 _ ?_
      show Steps p.tables e below (T1.setTop (F0 m (pc + 3) ls (.ref T.heap.size :: st.map (tf_cv ad)))) _
      jvm_step X₁.here [X₁.here.top, hx, hb, d3, Value.category]
      exact X₁.ldcString hx (own := tf_cn 0) (text := tx) (index := ib) (a := sa) hown hconst hev (g := F0 m (pc + 4) ls (.ref T.heap.size :: .ref T.heap.size :: st.map (tf_cv ad))) rfl (by rw [hb]; exact d4) _ hsteps
    · sorry
    · sorry
end
