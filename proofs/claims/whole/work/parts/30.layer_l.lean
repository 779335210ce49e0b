-- LAYER L: an exception is caught; an exception is made and thrown; the JDK's three
theorem tf_xinst {x : Nat} (h : x < 3) : Cond.instantiable (tf_xn x) 6 ∈ tf_gt := by
  match x, h with
  | 0, _ => exact tf_g 425 (by decide +kernel) rfl
  | 1, _ => exact tf_g 334 (by decide +kernel) rfl
  | 2, _ => exact tf_g 808 (by decide +kernel) rfl
/-- a row of the handlers that covers the place: its class is found, and takes the object or doesn't -/
theorem tf_row {e : Env} {d : Bool} {acts : List Action} {S : State} {f : JFrame} {a : Addr} {Q : Handler → Pre} {E : CtlPost} {x : ExceptionTableEntry} {t : List ExceptionTableEntry} {c : ClassId} {cell : Cell} {b : Bool} (hx : covers x f.pc = true) (h0 : x.catchType ≠ 0)
    (hl : S.vm.ClassLinks e.platform f.method.cls x.catchType c) (hcell : S.heap[a]? = some cell) (hobj : ∀ k, cell.vm ≠ .statics k) (hk : ∃ k, S.vm.classes[cell.cls]? = some k) (hc : ∃ k, S.vm.classes[c]? = some k) (hb : S.vm.assignable cell.cls c = b) :
    wp (findHandler.go f a (x :: t)) Q E e d acts S ↔ (if b = true then Q (.found x.handlerPc) d acts (S.setVm (S.vm.noted f.method.cls x.catchType (.cls c))) else wp (findHandler.go f a t) Q E e d acts (S.setVm (S.vm.noted f.method.cls x.catchType (.cls c)))) := by
  have hal : S.vm.Alike (S.vm.noted f.method.cls x.catchType (.cls c)) := (Vm.Alike.refl S.vm).noted _ _ _
  obtain ⟨ha, ht⟩ := (resolveClass_links e.toSetting hl).op (op := VmOp.resolveClass f.method.cls x.catchType) rfl
  obtain ⟨k1, hk1⟩ := hk
  obtain ⟨k2, hk2⟩ := hc
  obtain ⟨m1, hm1, -⟩ := hal.2.2 _ _ hk1
  obtain ⟨m2, hm2, -⟩ := hal.2.2 _ _ hk2
  have hb' : (S.vm.noted f.method.cls x.catchType (.cls c)).assignable cell.cls c = b := by rw [hal.assignable]; exact hb
  simp only [covers] at hx
  cases b <;> simp [findHandler.go, hx, h0, ha, ht, hcell, hobj, hm1, hm2, hb', VmOp.dirties, VmOp.acts]
/-- which handler the rows come to -/
def tf_sel (s : State) (pl : Platform) (d : ClassId) (pc : Nat) (th : ClassId) (rows : List ExceptionTableEntry) (h : Nat) : Prop := match rows with
  | [] => False
  | y :: r => (covers y pc = false ∧ tf_sel s pl d pc th r h) ∨ (covers y pc = true ∧ y.catchType ≠ 0 ∧ ∃ c, s.vm.ClassLinks pl d y.catchType c ∧ ((s.vm.assignable th c = true ∧ h = y.handlerPc) ∨ (s.vm.assignable th c = false ∧ tf_sel s pl d pc th r h)))
theorem tf_find {e : Env} {s : State} {f : JFrame} {a : Addr} {cell : Cell} {h : Nat} (hobj : ∀ k, cell.vm ≠ .statics k) (hk0 : ∃ k, s.vm.classes[cell.cls]? = some k) :
    ∀ (rows : List ExceptionTableEntry) (S : State), s.WarmedH S.vm → S.heap[a]? = some cell → tf_sel s e.platform f.method.cls f.pc cell.cls rows h →
      ∃ vm', s.WarmedH vm' ∧ ∀ (Q : Handler → Pre) (E : CtlPost) (d : Bool) (acts : List Action), wp (findHandler.go f a rows) Q E e d acts S ↔ Q (.found h) d acts (S.setVm vm') := by
  obtain ⟨k0, hk0⟩ := hk0
  intro rows
  induction rows with
  | nil => intro S _ _ q; exact q.elim
  | cons y r ih =>
    intro S hW hcell hs
    rcases hs with ⟨hc, hs⟩ | ⟨hc, h0, c, hl, hs⟩
    · obtain ⟨vm', w1, w2⟩ := ih S hW hcell hs
      exact ⟨vm', w1, fun Q E d acts => by rw [W.findHandler_go_skip hc]; exact w2 Q E d acts⟩
    · obtain ⟨dk, _, _, kt, hd, _, _, _, _, hkt, _, hopen⟩ := hl.here
      obtain ⟨kt', hkt', -⟩ := hW.alike.2.2 _ _ hkt
      obtain ⟨k0', hk0', -⟩ := hW.alike.2.2 _ _ hk0
      have hn := hW.noted hd hopen (State.rightAt_cls hl)
      rcases hs with ⟨hf, rfl⟩ | ⟨hf, hs⟩
      · refine ⟨_, hn, fun Q E d acts => ?_⟩
        rw [tf_row (b := true) hc h0 (hW.classLinks hl) hcell hobj ⟨k0', hk0'⟩ ⟨kt', hkt'⟩ (by rw [hW.alike.assignable]; exact hf), if_pos rfl]
      · obtain ⟨vm', w1, w2⟩ := ih (S.setVm (S.vm.noted f.method.cls y.catchType (.cls c))) hn hcell hs
        refine ⟨vm', w1, fun Q E d acts => ?_⟩
        rw [tf_row (b := false) hc h0 (hW.classLinks hl) hcell hobj ⟨k0', hk0'⟩ ⟨kt', hkt'⟩ (by rw [hW.alike.assignable]; exact hf), if_neg (by decide)]
        exact w2 Q E d acts
/-- the search ends in a handler of the frame's own: the walk goes on there -/
theorem tf_caught {tb : Tables} {e : Env} {u target : State} {g : JFrame} {c : Code} {below : List Frame} {a : Addr} (h : At u g.method c below) {pc : Nat} {vm' : Vm}
    (hf : ∀ (Q : Handler → Pre) (E : CtlPost) (d : Bool) (acts : List Action), wp (findHandler g a) Q E e d acts ((u.setTop g).pushFrame (.throwing a)) ↔ Q (.found pc) d acts (((u.setTop g).pushFrame (.throwing a)).setVm vm'))
    (hrest : Steps tb e below ((u.setVm vm').setTop { g with pc := pc, stack := [.ref a] }) target) : Steps tb e below ((u.setTop g).pushFrame (.throwing a)) target := by
  obtain ⟨g₀, hg⟩ := Option.isSome_iff_exists.mp h.top
  obtain ⟨r, hr⟩ := State.topJava?_eq_some.mp hg
  have hr' : (u.setVm vm').frames = .java g₀ :: r := hr
  have hst : (stepThrowing e ((u.setTop g).pushFrame (.throwing a)) a (.java g :: r)).1 = (((u.setTop g).pushFrame (.throwing a)).setVm vm').setFrames (.java { g with pc := pc, stack := [.ref a] } :: r) := by
    simp only [stepThrowing, searchFrame, vmDo]
    generalize hq : Sem.go _ e false [] ((u.setTop g).pushFrame (.throwing a)) = res
    obtain ⟨as, rfl, ha⟩ := Sem.eq_ok_of hq (a := Handler.found pc) (s' := ((u.setTop g).pushFrame (.throwing a)).setVm vm') (acts' := []) (by simp [hf _ _ _ _])
    rfl
  obtain ⟨hgo, hw⟩ := h.throwing a
  refine Steps.head hgo hw ?_
  rw [stepThread_throwing (frames_entered h.top _), hr, List.tail_cons, hst]
  rw [State.setTop_of_frames _ hr'] at hrest
  have e1 : (((u.setTop g).pushFrame (.throwing a)).setVm vm').setFrames (.java { g with pc := pc, stack := [.ref a] } :: r) = (u.setVm vm').setFrames (.java { g with pc := pc, stack := [.ref a] } :: r) := by
    have e2 : ∀ F : List Frame, (u.setFrames F).setVm vm' = (u.setVm vm').setFrames F := fun F => rfl
    rw [State.pushFrame, State.setTop_of_frames _ hr, State.setFrames_setFrames, e2, State.setFrames_setFrames]
  rw [e1]
  exact hrest
section
variable {l : Launch} {y : Nat} {sc : Option (Nat × (Int → Int))} {Post : tf_Out → tf_Sto → Prop} {pc : Nat} {lo : tf_Lo} {st : List tf_Av} {cs : tf_Cs} {G : tf_Sto} {go : Nat → tf_Lo → List tf_Av → tf_Cs → tf_Sto → Prop}
/-- the address of the exception at its token: nothing else moves -/
theorem tf_ex_cv {ad : Nat → Nat} {a : Nat} {k : Nat} (h : k ≠ 9998) : (fun i => if i = 9998 then a else ad i) k = ad k := if_neg h
theorem tf_ex_wld {ad : Nat → Nat} {cA : Nat → ClassId} {G : tf_Sto} {a : Nat} : tf_wld (fun i => if i = 9998 then a else ad i) cA G = tf_wld ad cA G := by
  apply List.ext_getElem?
  intro k
  cases he : tf_LAY[k]? with
  | none => simp [tf_wld, List.getElem?_mapIdx, he]
  | some e =>
    rw [tf_wld_get he, tf_wld_get he]
    have hk : k < 70 := (List.getElem?_eq_some_iff.mp he).1
    have key : ∀ e ∈ tf_LAY, (match e with
      | .inl o => o.2.all (fun f => match f with
        | some (some r) => !(Nat.beq r 9998)
        | _ => true)
      | .inr _ => true) = true := by decide +kernel
    have h1 := key e (List.mem_of_getElem? he)
    have hk1 : (if k = 9998 then a else ad k) = ad k := if_neg (by omega)
    obtain ⟨ci, fs⟩ | ⟨t, n⟩ := e
    · simp only [tf_cell, hk1]
      refine congrArg (fun z => some (ad k, Sum.inr (ci, z))) ?_
      apply List.ext_getElem?
      intro j
      rw [List.getElem?_mapIdx, List.getElem?_mapIdx]
      cases hf : fs[j]? with
      | none => rfl
      | some f =>
        have h2 := List.all_eq_true.mp h1 f (List.mem_of_getElem? hf)
        cases f with
        | none => rfl
        | some r =>
          cases r with
          | none => rfl
          | some r =>
            have h3 : r ≠ 9998 := by
              intro q
              subst q
              simp at h2
            simp only [Option.map_some, tf_fv, if_neg h3]
    · simp only [tf_cell, hk1]
theorem tf_ex_lo {ad : Nat → Nat} {a : Nat} : ∀ {lo : tf_Lo}, tf_nox lo = true → lo.map (tf_cp (fun i => if i = 9998 then a else ad i)) = lo.map (tf_cp ad) := by
  intro lo
  induction lo with
  | nil => intro _; rfl
  | cons q r ih =>
    intro h
    obtain ⟨i, z | z | k⟩ := q
    · have h : tf_nox r = true := h
      rw [List.map_cons, List.map_cons, ih h]; rfl
    · have h : tf_nox r = true := h
      rw [List.map_cons, List.map_cons, ih h]; rfl
    · have h : (!(Nat.beq k 9998) && tf_nox r) = true := h
      rw [Bool.and_eq_true] at h
      have hk : k ≠ 9998 := by
        intro q
        subst q
        exact absurd h.1 (by decide)
      rw [List.map_cons, List.map_cons, ih h.2]
      congr 1
      show (i, Value.ref (if k = 9998 then a else ad k)) = (i, Value.ref (ad k))
      rw [if_neg hk]
set_option maxHeartbeats 1000000 in
/-- the rows of the tables are the rows of the method -/
theorem tf_sel_ok {s : State} {pl : Platform} (hpl : pl.magicAccessors = ({} : Platform).magicAccessors) {args : Array Value} {oc : Nat} {d : ClassId} (hown : s.vm.findClass (tf_cn oc) = some d) (hts : ∀ w ∈ tf_gt, w.before args s = true) (hcx : ∀ w ∈ tf_cx, w.before #[] s = true) {x pc h : Nat} {th : ClassId} (hth : s.vm.findClass (tf_xn x) = some th) (hx3 : x < 3) :
    ∀ (rows : List ExceptionTableEntry) (hs : List (Nat × Nat × Nat × Nat)), rows.map (fun h => (h.startPc, h.endPc, h.handlerPc, h.catchType)) = hs → tf_hdl oc pc x hs = some h → tf_sel s pl d pc th rows h := by
  intro rows
  induction rows with
  | nil => intro hs e q; subst e; cases q
  | cons y r ih =>
    intro hs e q
    subst e
    have q : (bif Nat.ble y.startPc pc && Nat.blt pc y.endPc then (match tf_xk oc y.catchType with
      | some k => bif Nat.beq k x then some y.handlerPc else tf_hdl oc pc x (r.map (fun h => (h.startPc, h.endPc, h.handlerPc, h.catchType)))
      | none => none) else tf_hdl oc pc x (r.map (fun h => (h.startPc, h.endPc, h.handlerPc, h.catchType)))) = some h := q
    cases hc : (Nat.ble y.startPc pc && Nat.blt pc y.endPc) with
    | false =>
      rw [hc, cond_false] at q
      left
      refine ⟨?_, ih _ rfl q⟩
      cases hcv : covers y pc with
      | false => rfl
      | true =>
        exfalso
        unfold covers at hcv
        simp only [Bool.and_eq_true, decide_eq_true_eq] at hcv
        have : (Nat.ble y.startPc pc && Nat.blt pc y.endPc) = true := by
          rw [Bool.and_eq_true]
          exact ⟨Nat.ble_eq_true_of_le hcv.1, Nat.ble_eq_true_of_le hcv.2⟩
        rw [hc] at this
        cases this
    | true =>
      rw [hc, cond_true] at q
      rw [Bool.and_eq_true] at hc
      have hcv : covers y pc = true := by
        unfold covers
        simp only [Bool.and_eq_true, decide_eq_true_eq]
        exact ⟨Nat.le_of_ble_eq_true hc.1, Nat.le_of_ble_eq_true hc.2⟩
      cases hk : tf_xk oc y.catchType with
      | none => rw [hk] at q; cases q
      | some k =>
        rw [hk] at q
        have q2 : (bif Nat.beq k x then some y.handlerPc else tf_hdl oc pc x (r.map (fun h => (h.startPc, h.endPc, h.handlerPc, h.catchType)))) = some h := q
        clear q
        obtain ⟨-, k1, k2, k3⟩ := tf_xk_ok hk
        obtain ⟨c, hc', hcl⟩ := Cond.classLink_spec hown (hts _ k3) pl hpl
        right
        refine ⟨hcv, k1, c, hcl, ?_⟩
        cases hb : Nat.beq k x with
        | true =>
          rw [hb, cond_true] at q2
          have hkx := Nat.eq_of_beq_eq_true hb
          subst hkx
          left
          refine ⟨?_, (Option.some.inj q2).symm⟩
          obtain ⟨c1, c2, e1, e2, e3⟩ := Cond.castable_spec (hcx _ (tf_cx_s k2))
          cases e1.symm.trans hth
          cases e2.symm.trans hc'
          exact e3
        | false =>
          rw [hb, cond_false] at q2
          right
          refine ⟨?_, ih _ rfl q2⟩
          have hne : k ≠ x := by
            intro z
            subst z
            rw [Nat.beq_refl] at hb
            cases hb
          have hv := Cond.holds_not_iff.mp (hcx _ (tf_cx_n hx3 k2 hne))
          simp only [Cond.value, hth, hc'] at hv
          exact Option.some.inj hv
set_option maxHeartbeats 2000000 in
theorem tf_thr_ok {x : Nat} (hx3 : x < 3) (hgo : ∀ pc lo st cs G, go pc lo st cs G → tf_AW l y sc Post pc lo st cs G) (h : tf_thr y Post pc lo go x cs G) :
    ∀ (p : Program) (e : Env) (s : State) (m : MethodId) (args : Array Value) (below : List Frame) (meth : Method) (c : Code) (locs : List Loc) (ls : Array Slot) (D : va_G) (cA : Nat → ClassId) (ad : Nat → Nat) (A : Nat → Prop) (T' : State) (a : Addr) (cell : Cell) (stk : List Value),
        tf_Cx l y sc p s m args meth c D cA ad A → tf_okA y cs G → (∀ q ∈ lo, tf_okv q.2) → T'.heap[a]? = some cell → cell.vm = .none → s.vm.findClass (tf_xn x) = some cell.cls → Stand p l e (tf_room y) s m args below meth c T' locs (tf_cs cs).1 (tf_cs cs).2 →
        va_P D tf_cls (tf_wld ad cA G) T'.heap → va_D A (tf_wld ad cA G) → tf_S A s.heap T'.heap locs cs → lv_has ls (tf_nl y) (lo.map (tf_cp ad)) → ∃ t, Steps p.tables e below ((T'.setTop (F0 m pc ls stk)).pushFrame (.throwing a)) t ∧ tf_End y Post D cA ad A below s t := by
  intro p e s m args below meth c locs ls D cA ad A T' a cell stk C hG hlo h1 h2 h3 X hP hD hS hl
  obtain ⟨hx, hb, hr, hml, hown, hts, hnw, hlk, hK, hA, hA0, hlt, hex, hfl, hsc, hsw⟩ := id C
  unfold tf_thr at h
  cases hh : tf_hdl (tf_oc y) pc x (tf_hs y) with
  | none =>
    rw [hh] at h
    obtain ⟨he, h⟩ := tf_bif h
    rw [Bool.and_eq_true] at he
    have hpu : tf_pu y = true → locs = [] := fun q => by
      have h9 := he.2
      rw [q] at h9
      exact hS.2 (by simpa using h9)
    exact tf_out hx3 C (List.isEmpty_iff.mp he.1) hG h h1 h2 h3 X hP hS.1 hpu rfl rfl rfl
  | some h0 =>
    rw [hh] at h
    obtain ⟨hno, h⟩ := tf_bif h
    have hpl : e.platform.magicAccessors = ({} : Platform).magicAccessors := by rw [X.admits.platform]
    have hsel := tf_sel_ok (pl := e.platform) hpl hown hts hsw.2 h3 hx3 _ _ hex hh
    have hobj : ∀ k, cell.vm ≠ .statics k := fun k q => by rw [h2] at q; cases q
    obtain ⟨ck, hck⟩ : ∃ k, s.vm.classes[cell.cls]? = some k := by
      obtain ⟨cC, kC, hfc, hk, -⟩ := Cond.instantiable_spec (hts _ (tf_xinst hx3))
      cases hfc.symm.trans h3
      exact ⟨kC, hk⟩
    obtain ⟨vm', w1, w2⟩ := tf_find (e := e) (s := s) (f := F0 m pc ls stk) (a := a) hobj ⟨ck, hck⟩ c.exceptionTable.toList ((T'.setTop (F0 m pc ls stk)).pushFrame (.throwing a)) (by rw [Stand.throwing_vm]; exact X.warmed) (by rw [Stand.throwing_heap]; exact h1) hsel
    have X' := X.noted w1
    have hw := hgo _ _ _ _ _ h hG hlo (fun v hv => by
      have : v = .inr (.inr 9998) := by simpa using hv
      rw [this]; trivial) p e s m args below meth c T'.heap locs ls D cA (fun i => if i = 9998 then a else ad i) A
      ⟨hx, hb, hr, hml, hown, hts, hnw, hlk, hK, hA, hA0, fun q k hk => by
        show (if k = 9998 then a else ad k) < _
        rw [if_neg (by omega)]
        exact hlt q k hk, hex, hfl, fun L xs hs => hsc L xs hs, hsw⟩ (by rw [tf_ex_wld]; exact hP) (by rw [tf_ex_wld]; exact hD) hS (by rw [tf_ex_lo hno]; exact hl)
    obtain ⟨t, a1, b1⟩ := hw (T'.setVm vm') rfl X'
    refine ⟨t, tf_caught (g := F0 m pc ls stk) X.here (fun Q E d acts => ?_) a1, ?_⟩
    · rw [W.findHandler_eq (meth := meth) (by rw [Stand.throwing_vm]; exact X.method') X.code]
      exact w2 Q E d acts
    · obtain ⟨o, q1, q2, q3, q4, out, G', q5, q6, q7, q8⟩ := b1
      refine ⟨o, q1, q2, q3, q4, out, G', q5, q6, ?_, by rw [← tf_ex_wld (a := a)]; exact q8⟩
      match out, q7 with
      | .inl none, q7 => exact q7
      | .inl (some (.inl z)), q7 => exact q7
      | .inl (some (.inr (.inl z))), q7 => exact q7
      | .inl (some (.inr (.inr k))), q7 => exact q7
      | .inr x, q7 => exact q7
end
