-- LAYER C: the judgements
abbrev tf_Cs : Type := Option (Nat × Nat) × Bool
def tf_fv (ad : Nat → Nat) (G : tf_Sto) (k : Nat) (j : Nat) (f : Option (Option Nat)) : Value := match f with
  | none => .int (Int32.ofInt (G k (j : Int)))
  | some r => va_rf (r.map ad)
def tf_ar (t : Nat) (g : Int → Int) : (Nat → Int32) ⊕ (Nat → Int64) ⊕ (Nat → UInt32) ⊕ (Nat → UInt64) ⊕ (Nat → Option Nat) :=
  if t = 3 then .inr (.inl (fun j => Int64.ofInt (g (j : Int)))) else .inl (fun j => Int32.ofInt (g (j : Int)))
def tf_cell (ad : Nat → Nat) (cA : Nat → ClassId) (G : tf_Sto) (k : Nat) (e : tf_Ent) : Nat × va_E := (ad k, match e with
  | .inl (ci, fs) => .inr (ci, fs.mapIdx (fun j f => tf_fv ad G k j f))
  | .inr (t, n) => .inl (cA t, n, tf_ar t (G k)))
def tf_wld (ad : Nat → Nat) (cA : Nat → ClassId) (G : tf_Sto) : va_W := tf_LAY.mapIdx (fun k e => tf_cell ad cA G k e)
def tf_tys (cA : Nat → ClassId) : List (ClassId × FieldType) := [(cA 0, .int), (cA 1, .byte), (cA 2, .boolean), (cA 3, .long)]
def tf_okG (G : tf_Sto) : Prop := ∀ (k : Nat) (e : tf_Ent), tf_LAY[k]? = some e → match e with
  | .inl _ => ∀ j, tf_inI (G k j)
  | .inr (t, _) => ∀ j, tf_okE t (G k j)
def tf_cp (ad : Nat → Nat) (q : Nat × tf_Av) : Nat × Value := (q.1, tf_cv ad q.2)
def tf_room (y : Nat) : Room := { frames := tf_rk y, cells := tf_mc y, slots := tf_ms y, locals := tf_lc y }
/-- what an end is: a value, nothing, or an exception of a kind -/
def tf_oR (ad : Nat → Nat) (s t : State) (out : tf_Out) (o : Outcome) : Prop := match out with
  | .inl none => o = .returned none
  | .inl (some (.inl z)) => o = .returned (some (.int (Int32.ofInt z))) ∧ tf_inI z
  | .inl (some (.inr (.inl z))) => o = .returned (some (.long (Int64.ofInt z))) ∧ tf_inL z
  | .inl (some (.inr (.inr _))) => False
  | .inr x => x < 3 ∧ ∃ (a : Addr) (cell : Cell), o = .threw a ∧ t.heap[a]? = some cell ∧ cell.vm = .none ∧ s.vm.findClass (tf_xn x) = some cell.cls
def tf_fin (y : Nat) (Post : tf_Out → tf_Sto → Prop) (D : va_G) (cA : Nat → ClassId) (ad : Nat → Nat) (A : Nat → Prop) (s : State) (o : Outcome) (t : State) : Prop :=
  (∃ L, s.WarmedH t.vm ∧ s.sameButNew ({ t with vm := s.vm } : State) L (tf_mc y) (tf_ms y) ∧ (∀ q ∈ L, A q.base) ∧ (tf_pu y = true → L = [])) ∧ va_F A s t ∧
    ∃ (out : tf_Out) (G' : tf_Sto), Post out G' ∧ tf_okG G' ∧ tf_oR ad s t out o ∧ va_P D tf_cls (tf_wld ad cA G') t.heap
def tf_End (y : Nat) (Post : tf_Out → tf_Sto → Prop) (D : va_G) (cA : Nat → ClassId) (ad : Nat → Nat) (A : Nat → Prop) (below : List Frame) (s : State) : State → Prop := fun t =>
  ∃ o, t.status = .running ∧ Ended t below o ∧ tf_fin y Post D cA ad A s o t
/-- the two statics of Throwable that its constructor reads -/
def tf_SW (U : State) : Prop := (∀ w ∈ tf_sw, w.before #[] U = true) ∧ ∀ w ∈ tf_cx, w.before #[] U = true
theorem tf_ls_moved {u U : State} {A : Nat → Prop} (hvm : u.vm.Alike U.vm) (hh : ∀ q : Nat, q < u.heap.size → ¬ A q → U.heap[q]? = u.heap[q]?) (hA : ∀ q, A q → ∀ cell, u.heap[q]? = some cell → cell.vm.isStatics = false) {C n d : String} (h : (Cond.laysStatic C n d).before #[] u = true) : (Cond.laysStatic C n d).before #[] U = true := by
  obtain ⟨c, k, i, f, a, cell, h1, h2, h3, h4, h5, h6, h7, h8, h9⟩ := Cond.laysStatic_spec h
  obtain ⟨k', hi', he⟩ := State.fieldFound?_setVm hvm h2
  have hi' : U.fieldFound? C n d = some (c, k', i, f) := hi'
  have hna : ¬ A a := fun q => by
    have := hA a q cell h5
    rw [h6] at this
    cases this
  have h5' : U.heap[a]? = some cell := (hh a (Array.getElem?_eq_some_iff.mp h5).1 hna).trans h5
  have h4' : k'.statics = some a := by rw [he]; exact h4
  have h9' : k'.staticTypes[f.slot]? = some f.type := by rw [he]; exact h9
  have h1' : U.vm.findClass C = some c := by rw [hvm.findClass]; exact h1
  simp [Cond.before, Cond.holds, Cond.value, h1', hi', h4', h5', h3, h6, h7, h8, h9']
theorem tf_ir_moved {u U : State} {A : Nat → Prop} (hvm : u.vm.Alike U.vm) (hh : ∀ q : Nat, q < u.heap.size → ¬ A q → U.heap[q]? = u.heap[q]?) (hA : ∀ q, A q → ∀ cell, u.heap[q]? = some cell → cell.vm.isStatics = false) {C n d : String} (hl : (Cond.laysStatic C n d).before #[] u = true) (h : (Cond.isRef (.static C n d)).before #[] u = true) : (Cond.isRef (.static C n d)).before #[] U = true := by
  obtain ⟨c, k, i, f, a, cell, h1, h2, h3, h4, h5, h6, h7, h8, h9⟩ := Cond.laysStatic_spec hl
  obtain ⟨k', hi', he⟩ := State.fieldFound?_setVm hvm h2
  have hi' : U.fieldFound? C n d = some (c, k', i, f) := hi'
  have hna : ¬ A a := fun q => by
    have := hA a q cell h5
    rw [h6] at this
    cases this
  have h5' : U.heap[a]? = some cell := (hh a (Array.getElem?_eq_some_iff.mp h5).1 hna).trans h5
  have h4' : k'.statics = some a := by rw [he]; exact h4
  obtain ⟨v, hv, hr⟩ := Cond.isRef_spec h
  obtain ⟨-, a', cell', ha', hc', -, hs'⟩ := Term.static_spec h2 hv
  cases h4.symm.trans ha'
  cases h5.symm.trans hc'
  have hev : (Term.static C n d).eval #[] U none [] U = some v := by
    simp [Term.eval, State.fieldNamed?, hi', h3, h4', h5', h6, hs']
  clear h hl hv hs'
  simp only [Cond.before, Cond.holds, Cond.value, hev]
  cases v with
  | null => rfl
  | ref a => rfl
  | _ => cases hr
theorem tf_ca_moved {u U : State} (hvm : u.vm.Alike U.vm) {w : Cond} (hw : w ∈ tf_cx) (h : w.before #[] u = true) : w.before #[] U = true := by
  rcases tf_cx_ok w hw with ⟨a, b, rfl⟩ | ⟨a, b, rfl⟩ | ⟨x, rfl⟩
  · simp only [Cond.before, Cond.holds, Cond.value] at h ⊢
    rw [hvm.findClass, hvm.findClass]
    cases ha : u.vm.findClass a with
    | none => simp [ha] at h
    | some x =>
      cases hb : u.vm.findClass b with
      | none => simp [ha, hb] at h
      | some z =>
        simp only [ha, hb] at h ⊢
        rw [hvm.assignable]
        exact h
  · simp only [Cond.before, Cond.holds, Cond.value] at h ⊢
    rw [hvm.findClass, hvm.findClass]
    cases ha : u.vm.findClass a with
    | none => simp [ha] at h
    | some x =>
      cases hb : u.vm.findClass b with
      | none => simp [ha, hb] at h
      | some z =>
        simp only [ha, hb] at h ⊢
        rw [hvm.assignable]
        exact h
  · have h1 : (Cond.declares x).before #[] (u.setVm U.vm) = true := by
      rw [Cond.declares_setVm hvm]
      exact h
    exact va_tabs rfl (rfl : (u.setVm U.vm).vm = U.vm) h1
theorem tf_SW_moved {u U : State} {A : Nat → Prop} (hvm : u.vm.Alike U.vm) (hh : ∀ q : Nat, q < u.heap.size → ¬ A q → U.heap[q]? = u.heap[q]?) (hA : ∀ q, A q → ∀ cell, u.heap[q]? = some cell → cell.vm.isStatics = false) (h : tf_SW u) : tf_SW U := by
  refine ⟨fun w hw => ?_, fun w hw => tf_ca_moved hvm hw (h.2 w hw)⟩
  have h1 := h.1 _ (List.mem_of_getElem? (i := 0) rfl)
  have h2 := h.1 _ (List.mem_of_getElem? (i := 1) rfl)
  have h3 := h.1 _ (List.mem_of_getElem? (i := 2) rfl)
  have h4 := h.1 _ (List.mem_of_getElem? (i := 3) rfl)
  simp only [tf_sw, List.mem_cons, List.not_mem_nil, or_false] at hw
  rcases hw with rfl | rfl | rfl | rfl
  · exact tf_ls_moved hvm hh hA h1
  · exact tf_ls_moved hvm hh hA h2
  · exact tf_ir_moved hvm hh hA h1 h3
  · exact tf_ir_moved hvm hh hA h2 h4
/-- the script, where a method has it: at the token 9999 -/
def tf_sc (sc : Option (Nat × (Int → Int))) (ad : Nat → Nat) (A : Nat → Prop) (s : State) : Prop := ∀ L xs, sc = some (L, xs) →
  L < 2147483648 ∧ (∀ i, tf_inI (xs i)) ∧ va_X (ad 9999) L (fun j => Int32.ofInt (xs (j : Int))) s s.heap ∧ ad 9999 < s.heap.size ∧ ¬ A (ad 9999)
/-- what is known at every point of a walk of the method y -/
def tf_Cx (l : Launch) (y : Nat) (sc : Option (Nat × (Int → Int))) (p : Program) (s : State) (m : MethodId) (args : Array Value) (meth : Method) (c : Code) (D : va_G) (cA : Nat → ClassId) (ad : Nat → Nat) (A : Nat → Prop) : Prop :=
  p.tables.exec = Jvm.exec ∧ c.code = tf_by y ∧ meth.sig.returnType = tf_rt y ∧ c.maxLocals = tf_nl y ∧ s.vm.findClass (tf_cn (tf_oc y)) = some m.cls ∧ (∀ w ∈ tf_gt, w.before args s = true) ∧ (∀ w ∈ tf_nt, va_Nw w s) ∧ meth.locks = false ∧
    va_K D tf_cls (tf_tys cA) s ∧ (∀ q, s.heap.size ≤ q → A q) ∧ (∀ q, A q → ∀ cell, s.heap[q]? = some cell → cell.vm.isStatics = false) ∧ (tf_cz0 y = true → ∀ k : Nat, k < 70 → ad k < s.heap.size) ∧
    c.exceptionTable.toList.map (fun h => (h.startPc, h.endPc, h.handlerPc, h.catchType)) = tf_hs y ∧ l.flags = pinnedFlags ++ [noTraceFlag] ∧ tf_sc sc ad A s ∧ tf_SW s
def tf_cs (cs : tf_Cs) : Nat × Nat := cs.1.getD (0, 0)
/-- what was written since the start; nothing, where the mark says so -/
def tf_S (A : Nat → Prop) (H0 H : Heap) (locs : List Loc) (cs : tf_Cs) : Prop := va_S A H0 H locs ∧ (cs.2 = true → locs = [])
def tf_okA (y : Nat) (cs : tf_Cs) (G : tf_Sto) : Prop := tf_okG G ∧ (tf_cs cs).1 ≤ tf_mc y ∧ (tf_cs cs).2 ≤ tf_ms y
/-- the method y, at pc with such locals and such a stack over such a store, comes to an end with Post -/
def tf_AW (l : Launch) (y : Nat) (sc : Option (Nat × (Int → Int))) (Post : tf_Out → tf_Sto → Prop) (pc : Nat) (lo : tf_Lo) (st : List tf_Av) (cs : tf_Cs) (G : tf_Sto) : Prop :=
  tf_okA y cs G → (∀ q ∈ lo, tf_okv q.2) → (∀ v ∈ st, tf_okv v) →
  ∀ (p : Program) (e : Env) (s : State) (m : MethodId) (args : Array Value) (below : List Frame) (meth : Method) (c : Code) (H : Heap) (locs : List Loc) (ls : Array Slot) (D : va_G) (cA : Nat → ClassId) (ad : Nat → Nat) (A : Nat → Prop),
    tf_Cx l y sc p s m args meth c D cA ad A → va_P D tf_cls (tf_wld ad cA G) H → va_D A (tf_wld ad cA G) → tf_S A s.heap H locs cs → lv_has ls (tf_nl y) (lo.map (tf_cp ad)) →
    W p l e (tf_room y) s m args below meth c H locs (tf_cs cs).1 (tf_cs cs).2 (tf_End y Post D cA ad A below s) (F0 m pc ls (st.map (tf_cv ad)))
/-- a call of y with such arguments over such a store -/
def tf_Pc (as : List tf_Av) (G : tf_Sto) (D : va_G) (cA : Nat → ClassId) (ad : Nat → Nat) : Array Value → State → Prop := fun v U =>
  v = (as.map (tf_cv ad)).toArray ∧ va_K D tf_cls (tf_tys cA) U ∧ va_P D tf_cls (tf_wld ad cA G) U.heap ∧ va_D (fun _ => True) (tf_wld ad cA G) ∧ (∀ w ∈ tf_nt, va_Nw w U) ∧ tf_SW U
def tf_RUN (l : Launch) (y : Nat) (as : List tf_Av) (G : tf_Sto) (Post : tf_Out → tf_Sto → Prop) : Prop :=
  l.flags = pinnedFlags ++ [noTraceFlag] → tf_okG G → (∀ v ∈ as, tf_okv v) → ∀ (D : va_G) (cA : Nat → ClassId) (ad : Nat → Nat),
    MetFree l (tf_nm y) (headSpec (tf_cw y :: tf_gt) (tf_room y)) (tf_Pc as G D cA ad) (fun _ _ _ _ _ => True) (fun _ s o t => tf_fin y Post D cA ad (va_A (tf_wld ad cA G) s.heap.size) s o t)
theorem tf_fin.mono {y : Nat} {Post Post' : tf_Out → tf_Sto → Prop} {D : va_G} {cA : Nat → ClassId} {ad : Nat → Nat} {A : Nat → Prop} {s t : State} {o : Outcome} (h : ∀ o G, Post o G → Post' o G) (hf : tf_fin y Post D cA ad A s o t) : tf_fin y Post' D cA ad A s o t := by
  obtain ⟨h1, h2, out, G', h3, h4⟩ := hf
  exact ⟨h1, h2, out, G', h _ _ h3, h4⟩
theorem tf_RUN.mono {l : Launch} {y : Nat} {as : List tf_Av} {G : tf_Sto} {Post Post' : tf_Out → tf_Sto → Prop} (h : tf_RUN l y as G Post) (hp : ∀ o G, Post o G → Post' o G) : tf_RUN l y as G Post' := by
  intro hfl hG ha D cA ad p e h1 h2 h3 s m args below h4 h5 h6 h7
  obtain ⟨n, o, a1, a2, a3, a4⟩ := h hfl hG ha D cA ad p e h1 h2 h3 s m args below h4 h5 h6 h7
  exact ⟨n, o, a1, a2, a3, a4.mono hp⟩
theorem tf_W.mono {p : Program} {l : Launch} {e : Env} {R : Room} {s : State} {m : MethodId} {args : Array Value} {below : List Frame} {meth : Method} {c : Code} {H : Heap} {locs : List Loc} {cells slots : Nat} {Q Q' : State → Prop} {g : JFrame} (h : W p l e R s m args below meth c H locs cells slots Q g) (hq : ∀ t, Q t → Q' t) : W p l e R s m args below meth c H locs cells slots Q' g := by
  intro T hT X
  obtain ⟨t, a, b⟩ := h T hT X
  exact ⟨t, a, hq t b⟩
theorem tf_AWok {l : Launch} {y : Nat} {sc : Option (Nat × (Int → Int))} {Post : tf_Out → tf_Sto → Prop} {pc : Nat} {lo : tf_Lo} {st : List tf_Av} {cs : tf_Cs} {G : tf_Sto} (h : (∀ q ∈ lo, tf_okv q.2) → tf_AW l y sc Post pc lo st cs G) : tf_AW l y sc Post pc lo st cs G := by
  intro hG hlo hst
  exact h hlo hG hlo hst
theorem tf_AW.mono {l : Launch} {y : Nat} {sc : Option (Nat × (Int → Int))} {Post Post' : tf_Out → tf_Sto → Prop} {pc : Nat} {lo : tf_Lo} {st : List tf_Av} {cs : tf_Cs} {G : tf_Sto} (h : tf_AW l y sc Post pc lo st cs G) (hp : ∀ o G, Post o G → Post' o G) : tf_AW l y sc Post' pc lo st cs G := by
  intro h1 h2 h3 p e s m args below meth c H locs ls D cA ad A h4 h5 h6 h7 h8
  refine tf_W.mono (h h1 h2 h3 p e s m args below meth c H locs ls D cA ad A h4 h5 h6 h7 h8) ?_
  intro t ht
  obtain ⟨o, a1, a2, a3⟩ := ht
  exact ⟨o, a1, a2, a3.mono hp⟩
-- the world: reading and writing
theorem tf_wld_get {ad : Nat → Nat} {cA : Nat → ClassId} {G : tf_Sto} {k : Nat} {e : tf_Ent} (h : tf_LAY[k]? = some e) : (tf_wld ad cA G)[k]? = some (tf_cell ad cA G k e) := by
  simp [tf_wld, List.getElem?_mapIdx, h]
theorem tf_wld_len {ad : Nat → Nat} {cA : Nat → ClassId} {G : tf_Sto} : (tf_wld ad cA G).length = tf_LAY.length := by simp [tf_wld]
theorem tf_wld_set {ad : Nat → Nat} {cA : Nat → ClassId} {G G' : tf_Sto} {k : Nat} {e : tf_Ent} (h : tf_LAY[k]? = some e) (hG : ∀ k', k' ≠ k → G' k' = G k') : (tf_wld ad cA G).set k (tf_cell ad cA G' k e) = tf_wld ad cA G' := by
  apply List.ext_getElem?
  intro j
  by_cases hj : j = k
  · subst hj
    have hl : j < (tf_wld ad cA G).length := by rw [tf_wld_len]; exact (List.getElem?_eq_some_iff.mp h).1
    rw [List.getElem?_set_self hl, tf_wld_get h]
  · rw [List.getElem?_set_ne (Ne.symm hj)]
    cases he : tf_LAY[j]? with
    | none => simp [tf_wld, List.getElem?_mapIdx, he]
    | some e' =>
      rw [tf_wld_get he, tf_wld_get he]
      obtain ⟨ci, fs⟩ | ⟨t, n⟩ := e'
      · simp only [tf_cell, tf_fv, hG j hj]
      · simp only [tf_cell, hG j hj]
theorem tf_wld_adr {ad : Nat → Nat} {cA : Nat → ClassId} {G : tf_Sto} {k : Nat} {q : Nat × va_E} (h : (tf_wld ad cA G)[k]? = some q) : k < tf_LAY.length ∧ q.1 = ad k := by
  have hl : k < tf_LAY.length := by
    have := (List.getElem?_eq_some_iff.mp h).1
    rwa [tf_wld_len] at this
  have he : tf_LAY[k]? = some tf_LAY[k] := List.getElem?_eq_getElem hl
  rw [tf_wld_get he] at h
  cases h
  exact ⟨hl, rfl⟩
theorem tf_wld_D {ad : Nat → Nat} {cA : Nat → ClassId} {G G' : tf_Sto} {A : Nat → Prop} (h : va_D A (tf_wld ad cA G)) : va_D A (tf_wld ad cA G') := by
  have key : ∀ (k : Nat) (q : Nat × va_E), (tf_wld ad cA G')[k]? = some q → ∃ q0, (tf_wld ad cA G)[k]? = some q0 ∧ q0.1 = q.1 := by
    intro k q hk
    obtain ⟨hl, hq⟩ := tf_wld_adr hk
    have he : tf_LAY[k]? = some tf_LAY[k] := List.getElem?_eq_getElem hl
    exact ⟨_, tf_wld_get he, hq.symm⟩
  refine ⟨fun i j x z hi hj hxy => ?_, fun k q hk => ?_⟩
  · obtain ⟨x0, h1, h2⟩ := key i x hi
    obtain ⟨y0, h3, h4⟩ := key j z hj
    exact h.1 i j x0 y0 h1 h3 (h2.trans (hxy.trans h4.symm))
  · obtain ⟨q0, h1, h2⟩ := key k q hk
    rw [← h2]
    exact h.2 k q0 h1
theorem tf_wld_A {ad : Nat → Nat} {cA : Nat → ClassId} {G G' : tf_Sto} {n q : Nat} (h : va_A (tf_wld ad cA G) n q) : va_A (tf_wld ad cA G') n q := by
  rcases h with ⟨k, e, h⟩ | h
  · obtain ⟨hl, hq⟩ := tf_wld_adr h
    have he : tf_LAY[k]? = some tf_LAY[k] := List.getElem?_eq_getElem hl
    have h2 := tf_wld_get (ad := ad) (cA := cA) (G := G') he
    have hq : q = ad k := hq
    subst hq
    exact Or.inl ⟨k, (tf_cell ad cA G' k tf_LAY[k]).2, h2⟩
  · exact Or.inr h
/-- a cell of the world is no class's statics -/
theorem tf_wld_st {ad : Nat → Nat} {cA : Nat → ClassId} {G : tf_Sto} {D : va_G} {H : Heap} (hP : va_P D tf_cls (tf_wld ad cA G) H) {q : Nat} (h : va_A (tf_wld ad cA G) H.size q) {cell : Cell} (hc : H[q]? = some cell) : cell.vm.isStatics = false := by
  rcases h with ⟨k, e, h⟩ | h
  · have h1 := hP k (q, e) h
    cases e with
    | inl a =>
      have h2 : H[q]? = some (vp_cell a.1 a.2) := h1
      rw [hc] at h2
      cases h2
      obtain ⟨c0, n, f | f | f | f | f⟩ := a <;> rfl
    | inr o =>
      obtain ⟨r, -, cell', h3, -, h4, -⟩ := h1
      have h5 : H[q]? = some cell' := h3
      rw [hc] at h5
      cases h5
      rw [h4]
      rfl
  · have := (Array.getElem?_eq_some_iff.mp hc).1
    omega
