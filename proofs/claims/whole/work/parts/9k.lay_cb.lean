def c_Qc (D : va_G) (cA : Nat → ClassId) (A : Nat → Prop) (ad0 : Nat → Nat) (n0 : Nat) (LAY' : List tf_Ent) : Array Value → State → Outcome → State → Prop :=
  va_Qv (fun _ : Unit => True) (fun _ t => ∃ ad : Nat → Nat, (∀ i, (i < n0 ∨ 9000 ≤ i) → ad i = ad0 i) ∧ va_P D tf_cls (cw_w ad cA LAY') t.heap ∧ va_D A (cw_w ad cA LAY')) A
/-- a constructor's contract: from one world to another -/
def cMet (l : Launch) (y : MethodName) (cb : ByteArray) (nL : Nat) (rm : Room) (as : List tf_Av) (LAY LAY' : List tf_Ent) (mc ms : Nat) : Prop := ∀ (D : va_G) (cA : Nat → ClassId) (ad0 : Nat → Nat) (sz : Nat),
  Met l y (Cond.code y cb nL none :: tf_gt) rm (va_Pc (as.map (tf_cv ad0)) (fun U => U.heap.size = sz ∧ va_P D tf_cls (cw_w ad0 cA LAY) U.heap ∧ va_D (fun _ => True) (cw_w ad0 cA LAY) ∧ va_K D tf_cls (tf_tys cA) U ∧ ∀ w ∈ tf_nt, va_Nw w U))
    (c_Qc D cA (va_A (cw_w ad0 cA LAY) sz) ad0 LAY.length LAY') mc ms (va_A (cw_w ad0 cA LAY) sz)
theorem c_start {l : Launch} {y : MethodName} {cb : ByteArray} {nL oc : Nat} {rm : Room} {as : List tf_Av} {LAY LAY' : List tf_Ent} {mc ms : Nat} (hy : plainName y.cls = true) (hcn : y.cls = tf_cn oc) (hyi : y.name = "<init>") (hnl : Nat.ble (tf_cats as) nL = true)
    (h : ∀ (p : Program) (e : Env) (s : State) (m : MethodId) (args : Array Value) (below : List Frame) (meth : Method) (c : Code) (D : va_G) (cA : Nat → ClassId) (A : Nat → Prop) (ad0 : Nat → Nat), c_X p s m args c D cA A cb oc nL → meth.name = "<init>" → meth.sig.returnType = none → meth.locks = false →
      c_AW p l e rm s m args below meth c (MQ below (c_Qc D cA A ad0 LAY.length LAY') args s mc ms A) D cA A ad0 LAY.length nL 0 (tf_args 0 as) [] LAY 0 0) : cMet l y cb nL rm as LAY LAY' mc ms := by
  intro D cA ad0 sz
  refine Met.ofW (cc := cb) (maxL := nL) (ret := none) hy rfl ?_
  intro p e s m args below meth c s₁ B hml hv
  obtain ⟨rfl, hsz, hP, hD0, hK, hnw⟩ := hv
  have hts := atoms_spec (ws := Cond.code y cb nL none :: tf_gt) B.pre
  have hown : s.vm.findClass y.cls = some m.cls := findClass_of_methodNamed B.named
  have hin : meth.name = "<init>" := by rw [← hyi]; exact (name_of_methodNamed B.named B.method).1
  subst hsz
  have hD := hD0.self (sz := s.heap.size)
  have hl := lv_entry (as.map (tf_cv ad0)) (n := nL) (by rw [tf_sl_len]; exact Nat.le_of_ble_eq_true hnl)
  rw [lg_entry_eq]
  rw [tf_args_ok] at hl
  exact h p e s m _ below meth c D cA _ ad0 ⟨B.exec, B.bytes, hml, by rw [← hcn]; exact hown, fun w hw => hts w (List.mem_cons_of_mem _ hw), hK, fun q hq => Or.inr hq, hnw⟩ hin B.returns B.notSynchronized s.heap [] _ ad0 (fun _ _ => rfl) hP hD va_S.rf hl
section
variable {l : Launch} {p : Program} {e : Env} {R : Room} {s : State} {m : MethodId} {args : Array Value} {below : List Frame} {meth : Method} {c : Code} {Q : State → Prop} {D : va_G} {cA : Nat → ClassId} {A : Nat → Prop} {ad0 : Nat → Nat} {n0 : Nat} {cc : ByteArray} {oc nL : Nat} {pc : Nat} {lo : tf_Lo} {st : List tf_Av} {LAY LAY' : List tf_Ent} {cells slots : Nat}
theorem c_ret (X : c_X p s m args c D cA A cc oc nL) (hr : meth.sig.returnType = none) (hlk : meth.locks = false) (hd : decode cc pc = .ok (.return_, 1)) : c_AW p l e R s m args below meth c (MQ below (c_Qc D cA A ad0 n0 LAY) args s cells slots A) D cA A ad0 n0 nL pc lo [] LAY cells slots := by
  intro H locs ls ad h0 hP hD hS hl
  exact W.vret X.1 X.2.1 hr (fun t ht hW => ⟨⟨(), rfl, trivial, ad, h0, by rw [ht]; exact hP, hD⟩, hS.F ht⟩) hS.2.2 hd hlk
theorem c_good {w : Cond} (h : w ∈ tf_gt) : GoodIn tf_gt (w :: tf_gt) := by
  intro x hx
  rcases List.mem_cons.mp hx with q | q
  · rw [q]; exact ⟨h, tf_gt_ok w h⟩
  · exact ⟨q, tf_gt_ok x q⟩
theorem c_blind {l : Launch} {as : List tf_Av} {ad : Nat → Nat} {n : Nat} : FrameBlind (va_Pc (as.map (tf_cv ad)) (fun U => U.heap.size = n ∧ va_P D tf_cls (cw_w ad cA LAY) U.heap ∧ va_D (fun _ => True) (cw_w ad cA LAY) ∧ va_K D tf_cls (tf_tys cA) U ∧ ∀ w ∈ tf_nt, va_Nw w U)) := by
  intro a U g mk q
  obtain ⟨q0, q1, qP, qD, qK, qN⟩ := q
  exact ⟨q0, q1, qP, qD, va_K.moved (u := U) (U := U.calling g mk a) (Vm.Alike.refl U.vm) qK, tf_nt_same (u := U) (U := U.calling g mk a) rfl qN⟩
theorem c_after {ad : Nat → Nat} {H : Heap} {locs : List Loc} {ls : Array Slot} {r : List tf_Av} {mc ms : Nat} (hn : n0 ≤ LAY.length) (hlo : lo.all (fun q => c_vin LAY.length q.2) = true) (hst : r.all (c_vin LAY.length) = true)
    (hA : ∀ q, s.heap.size ≤ q → A q) (h0 : ∀ i, (i < n0 ∨ 9000 ≤ i) → ad i = ad0 i) (hD : va_D A (cw_w ad cA LAY)) (hS : va_S A s.heap H locs) (hl : lv_has ls nL (lo.map (tf_cp ad))) (h : c_AW p l e R s m args below meth c Q D cA A ad0 n0 nL (pc + 3) lo r LAY' (cells + mc) (slots + ms)) {g : JFrame} {rest : List Value} (hrest : rest = r.map (tf_cv ad)) {a : Array Value} {st0 : List Value}
    (hr : va_Run p l e R s m args below meth c H locs cells slots mc ms (F0 m pc ls st0) rest (c_Qc D cA (va_A (cw_w ad cA LAY) H.size) ad LAY.length LAY' a) (va_A (cw_w ad cA LAY) H.size)) : W p l e R s m args below meth c H locs cells slots Q (F0 m pc ls st0) := by
  have hf : ∀ q, va_A (cw_w ad cA LAY) H.size q → A q := by
    intro q hq
    rcases hq with ⟨k, x, hk⟩ | hq
    · exact hD.2 k _ hk
    · exact hA q (Nat.le_trans hS.1 hq)
  refine va_callv hr hS (fun q _ h => hf q h) hf (fun u t H1 locs1 ht hvm hw hB hz1 hk1 hS1 => ?_)
  obtain ⟨ad1, b1, b2, b3⟩ := hB
  rw [ht] at b2
  have key := h H1 locs1 ls ad1 (fun i hi => by rw [b1 i (by omega)]; exact h0 i hi) b2 ⟨b3.1, fun k q hq => hf q.1 (b3.2 k q hq)⟩ hS1 (by rw [c_lo b1 hlo]; exact hl)
  rw [c_st b1 hst] at key
  rw [hrest]
  exact key
theorem c_call (X : c_X p s m args c D cA A cc oc nL) {y : MethodName} {cb : ByteArray} {nL' b mc ms ix : Nat} {rm : Room} {as r : List tf_Av} (hM : cMet l y cb nL' rm (tf_r b :: as) LAY LAY' mc ms) (hcode : Cond.code y cb nL' none ∈ tf_gt) (hini : Cond.initialized y.cls ∈ tf_gt) (hinst : Cond.instanceMethod y ∈ tf_gt) (hname : y.name = "<init>")
    (hdsc : y.cls ≠ "java/lang/invoke/MethodHandle" ∧ y.cls ≠ "java/lang/invoke/VarHandle" ∧ (parseMethodDescriptor y.desc).map (fun d => d.parameters.length) = some as.length) (hlk : Cond.methodLink (tf_cn oc) ix y ∈ tf_gt) (hR : rm.frames + 1 ≤ R.frames ∧ 8 + (nL' + 11) + rm.locals ≤ R.locals) (hrc : rm.cells = mc) (hrs : rm.slots = ms)
    (hcells : cells + mc ≤ R.cells ∧ slots + ms ≤ R.slots) (hcat : ∀ ad : Nat → Nat, ((r.map (tf_cv ad)).map fun v => v.category).sum ≤ 8) (hd : decode cc pc = .ok (.invokespecial ix, 3)) (hn : n0 ≤ LAY.length) (hlo : lo.all (fun q => c_vin LAY.length q.2) = true) (hst : r.all (c_vin LAY.length) = true)
    (h : c_AW p l e R s m args below meth c Q D cA A ad0 n0 nL (pc + 3) lo r LAY' (cells + mc) (slots + ms)) : c_AW p l e R s m args below meth c Q D cA A ad0 n0 nL pc lo (as.reverse ++ tf_r b :: r) LAY cells slots := by
  intro H locs ls ad h0 hP hD hS hl
  have hs := X.2.2.2.2.1
  refine c_after (g := F0 m pc ls []) hn hlo hst X.2.2.2.2.2.2.1 h0 hD hS hl h rfl (va_runI (As := as.map (tf_cv ad)) (rest := r.map (tf_cv ad)) ⟨X.1, X.2.1, X.2.2.1, X.2.2.2.1, hs⟩ (hM D cA ad H.size) (cwI as.length hs (c_good hcode) rfl hrc hrs (hs _ hini) (hs _ hlk) (hs _ hinst) hname hdsc hR)
    ⟨c_blind (l := l), fun U hU hW => ⟨rfl, by rw [hU], by rw [hU]; exact hP, ⟨hD.1, fun _ _ _ => trivial⟩, va_K.moved hW.alike X.2.2.2.2.2.1, tf_nt_moved hW X.2.2.2.2.2.2.2⟩⟩ rfl (by simp) hl.1 (by show _ = _; simp [F0, tf_cv]) (lv_room (hcat ad)) hd hcells)
theorem c_callN (X : c_X p s m args c D cA A cc oc nL) {y : MethodName} {cb : ByteArray} {nL' b mc ms ix : Nat} {host : String} {rm : Room} {as r : List tf_Av} (hM : cMet l y cb nL' rm (tf_r b :: as) LAY LAY' mc ms) (hcode : Cond.code y cb nL' none ∈ tf_gt) (hini : Cond.initialized y.cls ∈ tf_gt) (hinst : Cond.instanceMethod y ∈ tf_gt) (hname : y.name = "<init>")
    (hdsc : y.cls ≠ "java/lang/invoke/MethodHandle" ∧ y.cls ≠ "java/lang/invoke/VarHandle" ∧ (parseMethodDescriptor y.desc).map (fun d => d.parameters.length) = some as.length) (hlk : Cond.methodLinkNest (tf_cn oc) ix y host ∈ tf_nt) (hR : rm.frames + 1 ≤ R.frames ∧ 8 + (nL' + 11) + rm.locals ≤ R.locals) (hrc : rm.cells = mc) (hrs : rm.slots = ms)
    (hcells : cells + mc ≤ R.cells ∧ slots + ms ≤ R.slots) (hcat : ∀ ad : Nat → Nat, ((r.map (tf_cv ad)).map fun v => v.category).sum ≤ 8) (hd : decode cc pc = .ok (.invokespecial ix, 3)) (hn : n0 ≤ LAY.length) (hlo : lo.all (fun q => c_vin LAY.length q.2) = true) (hst : r.all (c_vin LAY.length) = true)
    (h : c_AW p l e R s m args below meth c Q D cA A ad0 n0 nL (pc + 3) lo r LAY' (cells + mc) (slots + ms)) : c_AW p l e R s m args below meth c Q D cA A ad0 n0 nL pc lo (as.reverse ++ tf_r b :: r) LAY cells slots := by
  intro H locs ls ad h0 hP hD hS hl
  have hs := X.2.2.2.2.1
  refine c_after (g := F0 m pc ls []) hn hlo hst X.2.2.2.2.2.2.1 h0 hD hS hl h rfl (va_runIN (As := as.map (tf_cv ad)) (rest := r.map (tf_cv ad)) ⟨X.1, X.2.1, X.2.2.1, X.2.2.2.1, hs⟩ (hM D cA ad H.size) ⟨va_cnB as.length hs (c_good hcode) rfl hrc hrs (X.2.2.2.2.2.2.2 _ hlk) (hs _ hini) hdsc hR, hname, hs _ hinst⟩
    ⟨c_blind (l := l), fun U hU hW => ⟨rfl, by rw [hU], by rw [hU]; exact hP, ⟨hD.1, fun _ _ _ => trivial⟩, va_K.moved hW.alike X.2.2.2.2.2.1, tf_nt_moved hW X.2.2.2.2.2.2.2⟩⟩ rfl (by simp) hl.1 (by show _ = _; simp [F0, tf_cv]) (lv_room (hcat ad)) hd hcells)
end
