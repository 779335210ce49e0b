-- LAYER H: calls
theorem tf_cw_ok {y : Nat} {a : Array Value} {U : State} {mk : MethodId} (h : (tf_cw y).before a U = true) (hn : U.methodNamed? (tf_nm y) = some mk) :
    ∃ meth c, U.vm.method? mk = some meth ∧ meth.code = some c ∧ c.code = tf_by y ∧ c.maxLocals = tf_nl y ∧ meth.sig.returnType = tf_rt y ∧ meth.locks = false ∧
      c.exceptionTable.toList.map (fun h => (h.startPc, h.endPc, h.handlerPc, h.catchType)) = tf_hs y ∧ parseMethodDescriptor (tf_nm y).desc = some meth.sig := by
  unfold tf_cw at h
  cases hh : (tf_hs y).isEmpty with
  | true =>
    rw [hh, cond_true] at h
    obtain ⟨meth, c, h1, h2, h3, h4, h5, h6, h7, h8⟩ := Cond.code_spec hn h
    refine ⟨meth, c, h1, h2, h3, h4, h5, h6, ?_, h8⟩
    have e1 : tf_hs y = [] := List.isEmpty_iff.mp hh
    have e2 : c.exceptionTable = #[] := Array.isEmpty_iff.mp h7
    rw [e1, e2]
    rfl
  | false =>
    rw [hh, cond_false] at h
    obtain ⟨m', meth, c, h0, h1, h2, h3, h4, h5, h6, h7, h8⟩ := Cond.codeWith_spec h
    cases hn.symm.trans h0
    exact ⟨meth, c, h1, h2, h3, h4, h6, h7, h5, h8⟩
theorem tf_cw_named {y : Nat} {a : Array Value} {U : State} (h : (tf_cw y).before a U = true) : ∃ mk, U.methodNamed? (tf_nm y) = some mk := by
  unfold tf_cw at h
  cases hh : (tf_hs y).isEmpty with
  | true =>
    rw [hh, cond_true] at h
    exact Cond.code_named h
  | false =>
    rw [hh, cond_false] at h
    obtain ⟨m', meth, c, h0, -⟩ := Cond.codeWith_spec h
    exact ⟨m', h0⟩
theorem tf_nt_same {u U : State} (hv : u.vm = U.vm) (h : ∀ w ∈ tf_nt, va_Nw w u) : ∀ w ∈ tf_nt, va_Nw w U := by
  intro w hw
  have h1 := h w hw
  rcases tf_nt_ok w hw with ⟨a, i, x, h0, rfl⟩ | ⟨a, i, x, rfl⟩
  · exact va_Nw.same rfl hv h1
  · simp only [va_Nw, Cond.before, Cond.holds, Cond.value, State.names, State.poolOf?, State.resolvedAt?, hv] at h1 ⊢
    exact h1
theorem tf_nt_moved {s U : State} (hW : s.WarmedH U.vm) (h : ∀ w ∈ tf_nt, va_Nw w s) : ∀ w ∈ tf_nt, va_Nw w U := by
  refine tf_nt_same (u := s.setVm U.vm) rfl ?_
  intro w hw
  have h1 := h w hw
  rcases tf_nt_ok w hw with ⟨a, i, x, h0, rfl⟩ | ⟨a, i, x, rfl⟩
  · exact Cond.methodLinkNest_warmed (args := #[]) hW h1
  · exact Cond.stringRef_warmed (args := #[]) hW h1
theorem tf_ats {y : Nat} {a a' : Array Value} {s U : State} (hy : tf_cw y ∈ tf_gt) (hW : s.WarmedH U.vm) (hts : ∀ w ∈ tf_gt, w.before a s = true) : (allAtoms (tf_cw y :: tf_gt)).before a' U = true := by
  apply atoms_intro
  intro w hw
  have hw : w ∈ tf_gt := by
    rcases List.mem_cons.mp hw with h | h
    · rw [h]; exact hy
    · exact h
  exact word_at hW (tf_gt_ok w hw) (hts w hw)
section
variable {l : Launch} {y : Nat} {sc : Option (Nat × (Int → Int))} {p : Program} {e : Env} {s : State} {m : MethodId} {args : Array Value} {below : List Frame} {meth : Method} {c : Code} {H : Heap} {locs : List Loc} {ls : Array Slot} {D : va_G} {cA : Nat → ClassId} {ad : Nat → Nat} {A : Nat → Prop} {cells slots : Nat} {Q : State → Prop} {G : tf_Sto}
set_option maxHeartbeats 4000000 in
/-- behind the linking: the callee's contract, either end -/
theorem tf_cal {y' : Nat} {as : List tf_Av} {K : tf_Out → tf_Sto → Prop} {U : State} {mk : MethodId} {g0 : JFrame} {ig : Instr}
    (hR : tf_RUN l y' as G K) (hy : tf_ok y' = true) (C : tf_Cx l y sc p s m args meth c D cA ad A) (hG : tf_okG G) (has : ∀ v ∈ as, tf_okv v)
    (hP : va_P D tf_cls (tf_wld ad cA G) H) (hD : va_D A (tf_wld ad cA G)) (hS : va_S A s.heap H locs)
    (X : Stand p l e (tf_room y) s m args below meth c U locs cells slots) (hU : U.heap = H) (hn : U.methodNamed? (tf_nm y') = some mk)
    (hg : g0.method = m) (hsize : g0.locals.size = c.maxLocals) (hdg : decode c.code g0.pc = .ok (ig, 3)) (hW : 2 * g0.monitorRoom + (g0.stack.map fun v => v.category).sum ≤ 8)
    (hrk : tf_rk y' + 1 ≤ tf_rk y ∧ 19 + tf_nl y' + tf_lc y' ≤ tf_lc y) (hcl : cells + tf_mc y' ≤ tf_mc y ∧ slots + tf_ms y' ≤ tf_ms y)
    (kret : ∀ (v : Option tf_Av) (G' : tf_Sto) (H1 : Heap) (locs1 : List Loc), (tf_pu y' = true → locs1 = locs) → K (.inl v) G' → tf_okG G' → (∀ w, v = some w → tf_okv w) → va_P D tf_cls (tf_wld ad cA G') H1 → va_D A (tf_wld ad cA G') → va_S A s.heap H1 locs1 →
      W p l e (tf_room y) s m args below meth c H1 locs1 (cells + tf_mc y') (slots + tf_ms y') Q { g0 with pc := g0.pc + 3, stack := (v.map (tf_cv ad)).toList ++ g0.stack })
    (kthr : ∀ (x : Nat) (a : Addr) (cell : Cell) (G' : tf_Sto) (T' : State) (locs1 : List Loc), (tf_pu y' = true → locs1 = locs) → x < 3 → K (.inr x) G' → tf_okG G' → T'.heap[a]? = some cell → cell.vm = .none → s.vm.findClass (tf_xn x) = some cell.cls →
      Stand p l e (tf_room y) s m args below meth c T' locs1 (cells + tf_mc y') (slots + tf_ms y') → va_P D tf_cls (tf_wld ad cA G') T'.heap → va_D A (tf_wld ad cA G') → va_S A s.heap T'.heap locs1 →
      ∃ t, Steps p.tables e below ((T'.setTop g0).pushFrame (.throwing a)) t ∧ Q t) :
    ∃ t, Steps p.tables e below (doInvoke e (U.setTop g0) [] mk (as.map (tf_cv ad)).toArray).1 t ∧ Q t := by
  obtain ⟨hx, hb, hr, hml, hown, hts, hnw, hlk, hK, hA, hA0, hlt, hex, hfl, hsc, hsw⟩ := id C
  obtain ⟨y1, y2, y3, y4, y5⟩ := tf_y_ok hy
  have hM := hR hfl hG has D cA ad
  have hcw : (tf_cw y').before (as.map (tf_cv ad)).toArray U = true := word_at X.warmed (tf_gt_ok _ y1) (hts _ y1)
  obtain ⟨methY, cY, z1, z2, z3, z4, -⟩ := tf_cw_ok hcw hn
  have hini : (Cond.initialized (tf_nm y').cls).before (as.map (tf_cv ad)).toArray U = true := word_at X.warmed (tf_gt_ok _ y2) (hts _ y2)
  obtain ⟨o, t, T', L, hq, hE, X', e1, e2, k1, k2⟩ := tf_call (E := fun t o L => (∀ q ∈ L, va_A (tf_wld ad cA G) U.heap.size q.base) ∧ (tf_pu y' = true → L = [])) (maxL := tf_nl y') hM X
    (show tf_rk y' + 1 ≤ tf_rk y from hrk.1) (show 8 + (tf_nl y' + 11) + tf_lc y' ≤ tf_lc y by have := hrk.2; omega) hcl.1 hcl.2
    (tf_ats y1 X.warmed hts) hn z1 z2 z4 hini hg hsize hdg hW
    ⟨rfl, va_K.moved (u := U) (U := U.calling g0 mk (as.map (tf_cv ad)).toArray) (Vm.Alike.refl U.vm) (va_K.moved X.warmed.alike hK), by show va_P _ _ _ U.heap; rw [hU]; exact hP, hD.weaken (fun _ _ _ _ => trivial), tf_nt_same (u := U) rfl (tf_nt_moved X.warmed hnw), tf_SW_moved (u := U) (U := U.calling g0 mk (as.map (tf_cv ad)).toArray) (A := fun _ => False) (Vm.Alike.refl U.vm) (fun q _ _ => rfl) (fun q hq => hq.elim) (tf_SW_moved (A := A) X.warmed.alike (fun q h1 h2 => by rw [hU]; exact hS.2.1 q h1 h2) hA0 hsw)⟩
    (fun o t hf => by
      obtain ⟨⟨L, f1, f2, f3, f4⟩, -⟩ := hf
      exact ⟨L, f1, f2, f3, f4⟩)
  obtain ⟨-, hF, out, G', hpost, hG', ho, hP'⟩ := hq
  have hF1 : U.heap.size ≤ t.heap.size := hF.1
  have hF2 : ∀ q : Nat, q < U.heap.size → ¬ va_A (tf_wld ad cA G) U.heap.size q → t.heap[q]? = U.heap[q]? := hF.2
  rw [hU] at hF1 hF2 hE
  have hAA : ∀ q, va_A (tf_wld ad cA G) H.size q → A q := by
    intro q hq
    rcases hq with ⟨k, e0, hq⟩ | hq
    · exact hD.2 k (q, e0) hq
    · exact hA q (Nat.le_trans hS.1 hq)
  have hS1 : va_S A s.heap T'.heap (locs ++ L) := by
    refine ⟨by rw [e1]; exact Nat.le_trans hS.1 hF1, fun q h1 h2 => ?_, fun q hq => ?_⟩
    · rw [e1, hF2 q (Nat.lt_of_lt_of_le h1 hS.1) (fun z => h2 (hAA q z))]
      exact hS.2.1 q h1 h2
    · rcases List.mem_append.mp hq with h | h
      · exact hS.2.2 q h
      · exact hAA _ (hE.1 q h)
  have hpl : tf_pu y' = true → locs ++ L = locs := fun q => by rw [hE.2 q, List.append_nil]
  have hP1 : va_P D tf_cls (tf_wld ad cA G') T'.heap := by rw [e1]; exact hP'
  have hD1 : va_D A (tf_wld ad cA G') := tf_wld_D hD
  match out, hpost, ho with
  | .inl none, hpost, ho =>
    have ho : o = .returned none := ho
    obtain ⟨t2, a1, b1⟩ := kret none G' T'.heap (locs ++ L) hpl hpost hG' (fun w h => by cases h) hP1 hD1 hS1 T' rfl X'
    exact ⟨t2, (k1 none ho).trans a1, b1⟩
  | .inl (some (.inl z)), hpost, ho =>
    obtain ⟨ho, hv⟩ := ho
    obtain ⟨t2, a1, b1⟩ := kret (some (.inl z)) G' T'.heap (locs ++ L) hpl hpost hG' (fun w h => by cases h; exact hv) hP1 hD1 hS1 T' rfl X'
    exact ⟨t2, (k1 (some (tf_cv ad (.inl z))) ho).trans a1, b1⟩
  | .inl (some (.inr (.inl z))), hpost, ho =>
    obtain ⟨ho, hv⟩ := ho
    obtain ⟨t2, a1, b1⟩ := kret (some (.inr (.inl z))) G' T'.heap (locs ++ L) hpl hpost hG' (fun w h => by cases h; exact hv) hP1 hD1 hS1 T' rfl X'
    exact ⟨t2, (k1 (some (tf_cv ad (.inr (.inl z)))) ho).trans a1, b1⟩
  | .inl (some (.inr (.inr _))), hpost, ho => exact ho.elim
  | .inr x, hpost, ho =>
    obtain ⟨hx3, a, cell, ho, h1, h2, h3⟩ := ho
    have h3 : U.vm.findClass (tf_xn x) = some cell.cls := h3
    obtain ⟨t2, a1, b1⟩ := kthr x a cell G' T' (locs ++ L) hpl hx3 hpost hG' (by rw [e1]; exact h1) h2 (by rw [← X.warmed.alike.findClass]; exact h3) X' hP1 hD1 hS1
    exact ⟨t2, (k2 a ho).trans a1, b1⟩
set_option maxHeartbeats 1000000 in
/-- an exception leaves the method: no handler is there -/
theorem tf_out {Post : tf_Out → tf_Sto → Prop} {x : Nat} {a : Addr} {cell : Cell} {T' : State} {cs : tf_Cs} {g0 : JFrame} (hx3 : x < 3) (C : tf_Cx l y sc p s m args meth c D cA ad A) (hh : tf_hs y = []) (hG : tf_okA y cs G) (hpost : Post (.inr x) G)
    (h1 : T'.heap[a]? = some cell) (h2 : cell.vm = .none) (h3 : s.vm.findClass (tf_xn x) = some cell.cls) (X : Stand p l e (tf_room y) s m args below meth c T' locs (tf_cs cs).1 (tf_cs cs).2) (hP : va_P D tf_cls (tf_wld ad cA G) T'.heap) (hS : va_S A s.heap T'.heap locs) (hpu : tf_pu y = true → locs = [])
    (hg : g0.method = m) (hlo : g0.locked = none) (hen : g0.entered = []) : ∃ t, Steps p.tables e below ((T'.setTop g0).pushFrame (.throwing a)) t ∧ tf_End y Post D cA ad A below s t := by
  obtain ⟨hx, hb, hr, hml, hown, hts, hnw, hlk, hK, hA, hA0, hlt, hex, hfl, hsc, hsw⟩ := id C
  have hout : ∀ z ∈ c.exceptionTable.toList, covers z g0.pc = false := by
    intro z hz
    rw [hh] at hex
    have : c.exceptionTable.toList = [] := List.map_eq_nil_iff.mp hex
    rw [this] at hz
    cases hz
  obtain ⟨q1, q2, q3, q4, q5⟩ := X.leaveThrown a (g := g0) hg hlo hen hout hlk
  exact ⟨_, q1, .threw a, q2, q3, ⟨locs, q4, q5.mono hG.2.1 hG.2.2, hS.2.2, hpu⟩, hS.F rfl, .inr x, G, hpost, hG.1, ⟨hx3, a, cell, rfl, h1, h2, h3⟩, hP⟩
end
