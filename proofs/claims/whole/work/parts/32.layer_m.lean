-- LAYER M: the throw; the JDK's three; the calls
section
variable {l : Launch} {y : Nat} {sc : Option (Nat × (Int → Int))} {Post : tf_Out → tf_Sto → Prop} {pc : Nat} {lo : tf_Lo} {st : List tf_Av} {cs : tf_Cs} {G : tf_Sto} {go : Nat → tf_Lo → List tf_Av → tf_Cs → tf_Sto → Prop}
set_option maxHeartbeats 2000000 in
theorem tf_s_new {ix0 : Nat} (hi : tf_tab y pc = some (.new ix0)) (h : tf_step l y sc Post (.new ix0) pc lo st cs G go) : tf_AW l y sc Post pc lo st cs G := by
  have h : (match tf_thx y pc with
      | some q => bif (tf_hs y).isEmpty && Nat.ble 6 (tf_rk y) && Nat.ble (tf_cats st + 82) (tf_lc y) && cs.2 && tf_cz0 y then (((tf_cs cs).1 + 1 ≤ tf_mc y ∧ (tf_cs cs).2 + 6 ≤ tf_ms y) ∧ Post (.inr q.2.2.2) G) else False
      | none => False) := h
  cases hq : tf_thx y pc with
  | none => rw [hq] at h; exact h.elim
  | some q =>
    obtain ⟨ix, ib, ic, x⟩ := q
    rw [hq] at h
    obtain ⟨h0, hcl, hpost⟩ := tf_bif h
    simp only [Bool.and_eq_true] at h0
    obtain ⟨⟨⟨⟨he, hrk⟩, hlc⟩, hpu0⟩, hcz⟩ := h0
    have he := List.isEmpty_iff.mp he
    have hrk := Nat.le_of_ble_eq_true hrk
    have hlc := Nat.le_of_ble_eq_true hlc
    obtain ⟨t1, hx3, t2, t3, t4, t5, t6, ⟨tx, t7⟩, t8, t9, t10, t11, t12⟩ := tf_thx_ok hq
    obtain ⟨n0, d0, e0⟩ := tf_tab_ok t2
    have e0 : n0 = 3 := tf_ln (k := 2) e0 rfl
    subst e0
    obtain ⟨n3, d3, e3⟩ := tf_tab_ok t3
    have e3 : n3 = 1 := tf_ln (k := 0) e3 rfl
    subst e3
    obtain ⟨n4, d4, e4⟩ := tf_tab_ok t4
    have e4 : n4 = 2 := tf_ln (k := 1) e4 rfl
    subst e4
    obtain ⟨n6, d6, e6⟩ := tf_tab_ok t5
    have e6 : n6 = 3 := tf_ln (k := 2) e6 rfl
    subst e6
    obtain ⟨n9, d9, e9⟩ := tf_tab_ok t6
    have e9 : n9 = 1 := tf_ln (k := 0) e9 rfl
    subst e9
    intro hG hlo hst p e s m args below meth c H locs ls D cA ad A C hP hD hS hl
    obtain ⟨hx, hb, hr, hml, hown, hts, hnw, hlk, hK, hA, hA0, hlt, hex, hfl, hsc, hsw⟩ := id C
    have hown : s.vm.findClass (tf_cn 0) = some m.cls := by rw [← t1]; exact hown
    have hl0 : locs = [] := hS.2 hpu0
    subst hl0
    intro T hT X
    have htr : e.platform.stackTraces = false := Launch.traces_off hfl X.admits
    obtain ⟨vm₁, cX, kX, hfX, hkX, -, -, X₁, st1⟩ := X.newCold hx (own := tf_cn 0) (C := tf_xn x) (index := ix) (n := 6) hown (hts _ t8) (hts _ t9) (hts _ t10)
      (g := F0 m pc ls (st.map (tf_cv ad))) rfl (by rw [hb]; exact d0) hcl.1 hcl.2
    generalize hTe : (T.setVm vm₁).pushCell { cls := cX, slots := kX.instanceTypes.map defaultValue, vm := .none } = T1 at X₁ st1
    have hcellA : T1.heap[T.heap.size]? = some (freshCell cX kX) := by rw [← hTe]; exact State.heap_pushCell_size _ _
    have hconst : (Cond.stringRef (tf_cn 0) ib tx).before args s = true := hnw _ t7
    obtain ⟨-, -, -, sa, -, -, -, -, -, hev⟩ := Cond.stringRef_spec hown hconst
    have hout : ∀ z ∈ c.exceptionTable.toList, covers z (pc + 6 + 3) = false := by
      intro z hz
      rw [he] at hex
      have : c.exceptionTable.toList = [] := List.map_eq_nil_iff.mp hex
      rw [this] at hz
      cases hz
    have hnew : s.heap.size ≤ T.heap.size := by rw [hT]; exact hS.1.1
    have hlocs : ∀ x ∈ ([] : List Loc), ∀ cell, s.heap[x.base]? = some cell → cell.vm.isStatics = false := fun q hq => by cases hq
    have hwd : ∀ w, w ∈ tf_gt ∨ w ∈ tf_sw ∨ w ∈ tf_cx → w.before args s = true := by
      intro w hw
      rcases hw with h | h | h
      · exact hts w h
      · have h1 := hsw.1 w h
        simp only [tf_sw, List.mem_cons, List.not_mem_nil, or_false] at h
        rcases h with rfl | rfl | rfl | rfl <;> exact h1
      · have h1 := hsw.2 w h
        rcases tf_cx_ok w h with ⟨a, b, rfl⟩ | ⟨a, b, rfl⟩ | ⟨z, rfl⟩
        · exact h1
        · exact h1
        · exact va_tabs rfl rfl h1
    obtain ⟨U, hsteps, hrun, hend, hW, hsame, ce, hce, hcv, hcc⟩ : ∃ U : State, Steps p.tables e below (T1.setTop (F0 m (pc + 6) ls (.ref sa :: .ref T.heap.size :: .ref T.heap.size :: st.map (tf_cv ad)))) U ∧ U.status = .running ∧ Ended U below (.threw T.heap.size) ∧ s.WarmedH U.vm ∧ s.sameButNew ({ U with vm := s.vm } : State) [] ((tf_cs cs).1 + 1) ((tf_cs cs).2 + 6) ∧
        ∃ ce, U.heap[T.heap.size]? = some ce ∧ ce.vm = .none ∧ s.vm.findClass (tf_xn x) = some ce.cls := by
      by_cases hx2 : x = 2
      · have hic := t12 hx2
        subst hx2
        subst hic
        have hpl : e.platform.magicAccessors = ({} : Platform).magicAccessors := by rw [X₁.admits.platform]
        have hall : ∀ w ∈ tf_xAll "TermForge" 199 "java/util/NoSuchElementException" ++ (Bundle.passSAtoms "java/util/NoSuchElementException" "java/lang/RuntimeException" 13 prog_23_method_4_code ++ Bundle.chainSAtoms "java/lang/RuntimeException" ["java/lang/Exception"]), w.before args s = true := fun w hw => hwd w (tf_nsee w hw)
        exact tf_ctorX X₁ hx htr (own := "TermForge") (cls := "java/util/NoSuchElementException") (n := 2) (ic := 199) hown (by decide +kernel) (fun w hw => hall w (List.mem_append_left _ hw)) (bytes := prog_23_method_4_code) (hall _ (List.mem_append_right _ (List.mem_append_left _ (by simp [Bundle.passSAtoms])))) (tf_nsee_ch hpl (fun w hw => hall w (List.mem_append_right _ hw))) hlocs hfX hkX hcellA hnew (msg := .ref sa) rfl
          (g := F0 m (pc + 6) ls (.ref sa :: .ref T.heap.size :: .ref T.heap.size :: st.map (tf_cv ad))) rfl (hl.1.trans hml.symm) rfl rfl (rest := st.map (tf_cv ad)) rfl
          (by rw [hb]; exact d6) (by rw [hb]; exact d9) hout (show 2 + 3 < tf_rk y by omega) (by show 2 * 0 + (1 + ((st.map (tf_cv ad)).map fun v => v.category).sum) + (13 * (2 + 1) + 42) ≤ tf_lc y; rw [tf_cats_ok]; omega) hlk
      · have hat := t11 (by omega)
        obtain ⟨U, q1, q2, q3, q4, q5, ce, q6, K⟩ := X₁.ctorThrowS hx htr (own := tf_cn 0) (cls := tf_xn x) (names := tf_up2) (ic := ic) hown (by match x, hx3 with | 0, _ => decide +kernel | 1, _ => decide +kernel | 2, _ => decide +kernel) (by decide +kernel)
          (fun w hw => hwd w (hat w hw)) hlocs hfX hkX hcellA hnew (msg := .ref sa) rfl
          (g := F0 m (pc + 6) ls (.ref sa :: .ref T.heap.size :: .ref T.heap.size :: st.map (tf_cv ad))) rfl (hl.1.trans hml.symm) rfl rfl (rest := st.map (tf_cv ad)) rfl
          (by rw [hb]; exact d6) (by rw [hb]; exact d9) hout (show 2 + 3 < tf_rk y by omega) (by show 2 * 0 + (1 + ((st.map (tf_cv ad)).map fun v => v.category).sum) + (13 * (2 + 1) + 42) ≤ tf_lc y; rw [tf_cats_ok]; omega) hlk
        exact ⟨U, q1, q2, q3, q4, q5, ce, q6, K.vm, K.cls⟩
    have hold : ∀ {S : State} {a b : Nat}, s.sameButNew ({ S with vm := s.vm } : State) [] a b → ∀ q : Nat, q < s.heap.size → S.heap[q]? = s.heap[q]? := by
      intro S a b hs q h1
      have hc : s.heap[q]? = some s.heap[q] := Array.getElem?_eq_getElem h1
      obtain ⟨c', h2, h3, h4, h5⟩ := hs.2.2.2.2.2 q _ hc
      have h2 : S.heap[q]? = some c' := h2
      rw [h2, hc, h3]
      congr 1
      have h6 : c'.slots = s.heap[q].slots := by
        apply Array.ext_getElem?
        intro i
        exact h5 i (by simp)
      rw [h6]
    have hUs := hold hsame
    have hTs := hold X.same
    refine ⟨U, ?_, .threw T.heap.size, hrun, hend, ⟨[], hW, hsame.mono hcl.1 hcl.2, (fun q hq => by cases hq), fun _ => rfl⟩, ⟨hsame.2.1, fun q h1 _ => hUs q h1⟩, .inr x, G, hpost, hG.1, ⟨hx3, _, ce, rfl, hce, hcv, hcc⟩, ?_⟩
    · refine st1 _ ?_
      show Steps p.tables e below (T1.setTop (F0 m (pc + 3) ls (.ref T.heap.size :: st.map (tf_cv ad)))) _
      jvm_step X₁.here [X₁.here.top, hx, hb, d3, Value.category]
      exact X₁.ldcString hx (own := tf_cn 0) (text := tx) (index := ib) (a := sa) hown hconst hev (g := F0 m (pc + 4) ls (.ref T.heap.size :: .ref T.heap.size :: st.map (tf_cv ad))) rfl (by rw [hb]; exact d4) _ hsteps
    · intro k q hk
      obtain ⟨hkl, hqa⟩ := tf_wld_adr hk
      have hlt1 : q.1 < s.heap.size := by rw [hqa]; exact hlt hcz k hkl
      refine (hP k q hk).kept ?_
      rw [hUs _ hlt1, ← hT, hTs _ hlt1]
theorem tf_s_invokevirtual {ix : Nat} (hi : tf_tab y pc = some (.invokevirtual ix)) (hgo : ∀ pc lo st cs G, go pc lo st cs G → tf_AW l y sc Post pc lo st cs G) (h : tf_step l y sc Post (.invokevirtual ix) pc lo st cs G go) : tf_AW l y sc Post pc lo st cs G := by
  obtain ⟨n, hd, hn⟩ := tf_tab_ok hi
  have hn : n = 3 := tf_ln (k := 2) hn rfl
  subst hn
  have h : (match tf_inv (tf_oc y) ix with
      | some y' => bif tf_vi y' then tf_call1 l y y' true pc lo st cs G (fun x cs G => tf_thr y Post pc lo go x cs G) go else False
      | none => False) := h
  cases hy : tf_inv (tf_oc y) ix with
  | none => rw [hy] at h; exact h.elim
  | some y' =>
    rw [hy] at h
    obtain ⟨hvi, h⟩ := tf_bif h
    refine tf_s_call hd ?_ ?_ hgo h
    · intro hok p e s m args below meth c H locs cells slots ls D cA ad A as r C hP hv hlen
      rcases hv with hv | hv
      · cases hv
      · exact tf_lkV hy hd hok hvi C hP hv hlen
    · intro x cs G hx3 ht p e s m args below meth c locs ls D cA ad A T' a cell stk C hG hlo h1 h2 h3 X hP hD hS hl
      exact tf_thr_ok hx3 hgo ht p e s m args below meth c locs ls D cA ad A T' a cell stk C hG hlo h1 h2 h3 X hP hD hS hl
theorem tf_s_static1 {ix y' : Nat} (hd : decode (tf_by y) pc = .ok (.invokestatic ix, 3)) (hy : tf_inv (tf_oc y) ix = some y') (hgo : ∀ pc lo st cs G, go pc lo st cs G → tf_AW l y sc Post pc lo st cs G) (h : bif tf_vi y' then False else tf_call1 l y y' false pc lo st cs G (fun x cs G => tf_thr y Post pc lo go x cs G) go) : tf_AW l y sc Post pc lo st cs G := by
  cases hvi : tf_vi y' with
  | true => rw [hvi] at h; exact h.elim
  | false =>
    rw [hvi, cond_false] at h
    refine tf_s_call hd ?_ ?_ hgo h
    · intro hok p e s m args below meth c H locs cells slots ls D cA ad A as r C hP hv hlen
      exact tf_lkS hy hd hok hvi C hlen
    · intro x cs G hx3 ht p e s m args below meth c locs ls D cA ad A T' a cell stk C hG hlo h1 h2 h3 X hP hD hS hl
      exact tf_thr_ok hx3 hgo ht p e s m args below meth c locs ls D cA ad A T' a cell stk C hG hlo h1 h2 h3 X hP hD hS hl
end
