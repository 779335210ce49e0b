-- CONSTRUCTORS: a world that grows, all of it zero
def cw_w (ad : Nat → Nat) (cA : Nat → ClassId) (LAY : List tf_Ent) : va_W := LAY.mapIdx (fun k e => tf_cell ad cA (fun _ _ => 0) k e)
def c_fin (n : Nat) (f : Option (Option Nat)) : Bool := match f with
  | some (some k) => Nat.blt k n
  | _ => true
def c_ein (n : Nat) (e : tf_Ent) : Bool := match e with
  | .inl q => q.2.all (c_fin n)
  | .inr _ => true
def c_vin (n : Nat) (v : tf_Av) : Bool := match v with
  | .inr (.inr k) => Nat.blt k n || Nat.ble 9000 k
  | _ => true
theorem c_fv {ad ad' : Nat → Nat} {n k j : Nat} {f : Option (Option Nat)} (h : ∀ i, i < n → ad' i = ad i) (hf : c_fin n f = true) : tf_fv ad' (fun _ _ => 0) k j f = tf_fv ad (fun _ _ => 0) k j f := by
  match f, hf with
  | none, _ => rfl
  | some none, _ => rfl
  | some (some q), hf =>
    have hq : q < n := Nat.le_of_ble_eq_true hf
    show va_rf (some (ad' q)) = va_rf (some (ad q))
    rw [h q hq]
theorem c_cell {ad ad' : Nat → Nat} {cA : Nat → ClassId} {n k : Nat} {e : tf_Ent} (h : ∀ i, i < n → ad' i = ad i) (hk : ad' k = ad k) (he : c_ein n e = true) : tf_cell ad' cA (fun _ _ => 0) k e = tf_cell ad cA (fun _ _ => 0) k e := by
  unfold tf_cell
  rw [hk]
  congr 1
  match e, he with
  | .inr q, _ => rfl
  | .inl (ci, fs), he =>
    have he : fs.all (c_fin n) = true := he
    show Sum.inr (ci, fs.mapIdx (fun j f => tf_fv ad' (fun _ _ => 0) k j f)) = Sum.inr (ci, fs.mapIdx (fun j f => tf_fv ad (fun _ _ => 0) k j f))
    congr 2
    apply List.ext_getElem?
    intro i
    rw [List.getElem?_mapIdx, List.getElem?_mapIdx]
    cases hf : fs[i]? with
    | none => rfl
    | some f =>
      exact congrArg some (c_fv h (List.all_eq_true.mp he f (List.mem_of_getElem? hf)))
theorem cw_congr {ad ad' : Nat → Nat} {cA : Nat → ClassId} {LAY : List tf_Ent} (h : ∀ i, i < LAY.length → ad' i = ad i) (hc : LAY.all (c_ein LAY.length) = true) : cw_w ad' cA LAY = cw_w ad cA LAY := by
  unfold cw_w
  apply List.ext_getElem?
  intro i
  rw [List.getElem?_mapIdx, List.getElem?_mapIdx]
  cases hf : LAY[i]? with
  | none => rfl
  | some e =>
    exact congrArg some (c_cell h (h i (List.getElem?_eq_some_iff.mp hf).1) (List.all_eq_true.mp hc e (List.mem_of_getElem? hf)))
theorem cw_get {ad : Nat → Nat} {cA : Nat → ClassId} {LAY : List tf_Ent} {k : Nat} {e : tf_Ent} (h : LAY[k]? = some e) : (cw_w ad cA LAY)[k]? = some (tf_cell ad cA (fun _ _ => 0) k e) := by
  unfold cw_w
  rw [List.getElem?_mapIdx, h]
  rfl
theorem cw_len {ad : Nat → Nat} {cA : Nat → ClassId} {LAY : List tf_Ent} : (cw_w ad cA LAY).length = LAY.length := by
  unfold cw_w
  simp
theorem cw_push {ad : Nat → Nat} {cA : Nat → ClassId} {LAY : List tf_Ent} {e : tf_Ent} : cw_w ad cA (LAY ++ [e]) = cw_w ad cA LAY ++ [tf_cell ad cA (fun _ _ => 0) LAY.length e] := by
  unfold cw_w
  rw [List.mapIdx_append]
  simp
theorem cw_set {ad : Nat → Nat} {cA : Nat → ClassId} {LAY : List tf_Ent} {k ci j kv : Nat} {fs : List (Option (Option Nat))} (h : LAY[k]? = some (.inl (ci, fs))) :
    (cw_w ad cA LAY).set k (ad k, .inr (ci, (fs.mapIdx (fun j f => tf_fv ad (fun _ _ => 0) k j f)).set j (.ref (ad kv)))) = cw_w ad cA (LAY.set k (.inl (ci, fs.set j (some (some kv))))) := by
  unfold cw_w
  apply List.ext_getElem?
  intro i
  have hk := (List.getElem?_eq_some_iff.mp h).1
  by_cases q : i = k
  · subst q
    rw [List.getElem?_set_self (by simpa using hk), List.getElem?_mapIdx, List.getElem?_set_self hk]
    show some _ = some _
    congr 1
    unfold tf_cell
    show (ad i, Sum.inr (ci, _)) = (ad i, Sum.inr (ci, _))
    congr 3
    apply List.ext_getElem?
    intro a
    by_cases qa : a = j
    · subst qa
      by_cases hl : a < fs.length
      · rw [List.getElem?_set_self (by simpa using hl), List.getElem?_mapIdx, List.getElem?_set_self hl]
        rfl
      · rw [List.getElem?_eq_none (by simp; omega), List.getElem?_eq_none (by simp; omega)]
    · rw [List.getElem?_set_ne (Ne.symm qa), List.getElem?_mapIdx, List.getElem?_mapIdx, List.getElem?_set_ne (Ne.symm qa)]
  · rw [List.getElem?_set_ne (Ne.symm q), List.getElem?_mapIdx, List.getElem?_mapIdx, List.getElem?_set_ne (Ne.symm q)]
theorem cw_set0 {ad : Nat → Nat} {cA : Nat → ClassId} {LAY : List tf_Ent} {k ci j : Nat} {fs : List (Option (Option Nat))} (h : LAY[k]? = some (.inl (ci, fs))) (hj : fs[j]? = some none) :
    (cw_w ad cA LAY).set k (ad k, .inr (ci, (fs.mapIdx (fun j f => tf_fv ad (fun _ _ => 0) k j f)).set j (.int (Int32.ofInt 0)))) = cw_w ad cA LAY := by
  have e1 : (fs.mapIdx (fun j f => tf_fv ad (fun _ _ => 0) k j f)).set j (.int (Int32.ofInt 0)) = fs.mapIdx (fun j f => tf_fv ad (fun _ _ => 0) k j f) := by
    apply List.ext_getElem?
    intro a
    by_cases qa : a = j
    · subst qa
      rw [List.getElem?_set_self (by simpa using (List.getElem?_eq_some_iff.mp hj).1), List.getElem?_mapIdx, hj]
      rfl
    · rw [List.getElem?_set_ne (Ne.symm qa)]
  rw [e1]
  apply List.ext_getElem?
  intro i
  by_cases q : i = k
  · subst q
    rw [List.getElem?_set_self (by rw [cw_len]; exact (List.getElem?_eq_some_iff.mp h).1), cw_get h]
    rfl
  · rw [List.getElem?_set_ne (Ne.symm q)]
/-- what is known all through -/
def c_X (p : Program) (s : State) (m : MethodId) (args : Array Value) (c : Code) (D : va_G) (cA : Nat → ClassId) (A : Nat → Prop) (cc : ByteArray) (oc nL : Nat) : Prop :=
  p.tables.exec = Jvm.exec ∧ c.code = cc ∧ c.maxLocals = nL ∧ s.vm.findClass (tf_cn oc) = some m.cls ∧ (∀ w ∈ tf_gt, w.before args s = true) ∧ va_K D tf_cls (tf_tys cA) s ∧ (∀ q, s.heap.size ≤ q → A q) ∧ ∀ w ∈ tf_nt, va_Nw w s
def c_AW (p : Program) (l : Launch) (e : Env) (R : Room) (s : State) (m : MethodId) (args : Array Value) (below : List Frame) (meth : Method) (c : Code) (Q : State → Prop) (D : va_G) (cA : Nat → ClassId) (A : Nat → Prop) (ad0 : Nat → Nat) (n0 nL : Nat) (pc : Nat) (lo : tf_Lo) (st : List tf_Av) (LAY : List tf_Ent) (cells slots : Nat) : Prop :=
  ∀ (H : Heap) (locs : List Loc) (ls : Array Slot) (ad : Nat → Nat), (∀ i, (i < n0 ∨ 9000 ≤ i) → ad i = ad0 i) → va_P D tf_cls (cw_w ad cA LAY) H → va_D A (cw_w ad cA LAY) → va_S A s.heap H locs → lv_has ls nL (lo.map (tf_cp ad)) →
    W p l e R s m args below meth c H locs cells slots Q (F0 m pc ls (st.map (tf_cv ad)))
section
variable {l : Launch} {p : Program} {e : Env} {R : Room} {s : State} {m : MethodId} {args : Array Value} {below : List Frame} {meth : Method} {c : Code} {Q : State → Prop} {D : va_G} {cA : Nat → ClassId} {A : Nat → Prop} {ad0 : Nat → Nat} {n0 : Nat} {cc : ByteArray} {oc nL : Nat} {pc : Nat} {lo : tf_Lo} {st : List tf_Av} {LAY LAY' : List tf_Ent} {cells slots : Nat}
theorem c_st {ad ad' : Nat → Nat} {n : Nat} {st : List tf_Av} (h : ∀ i, (i < n ∨ 9000 ≤ i) → ad' i = ad i) (hs : st.all (c_vin n) = true) : st.map (tf_cv ad') = st.map (tf_cv ad) := by
  apply List.map_congr_left
  intro v hv
  have hv := List.all_eq_true.mp hs v hv
  match v, hv with
  | .inl z, _ => rfl
  | .inr (.inl z), _ => rfl
  | .inr (.inr k), hv =>
    have hk : k < n ∨ 9000 ≤ k := by
      rcases Bool.or_eq_true_iff.mp hv with q | q
      · exact Or.inl (Nat.le_of_ble_eq_true q)
      · exact Or.inr (Nat.le_of_ble_eq_true q)
    show Value.ref (ad' k) = Value.ref (ad k)
    rw [h k hk]
theorem c_lo {ad ad' : Nat → Nat} {n : Nat} {lo : tf_Lo} (h : ∀ i, (i < n ∨ 9000 ≤ i) → ad' i = ad i) (hs : lo.all (fun q => c_vin n q.2) = true) : lo.map (tf_cp ad') = lo.map (tf_cp ad) := by
  apply List.map_congr_left
  intro v hv
  have hv := List.all_eq_true.mp hs v hv
  have := c_st (st := [v.2]) h (by simp [hv])
  unfold tf_cp
  simp only [List.map_cons, List.map_nil, List.cons.injEq, and_true] at this
  rw [this]
theorem c_aload_n (X : c_X p s m args c D cA A cc oc nL) {k : Fin 4} {x : Nat} (hd : decode cc pc = .ok (.aload_n k, 1)) (hm : tf_get lo k = some (tf_r x)) (h : c_AW p l e R s m args below meth c Q D cA A ad0 n0 nL (pc + 1) lo (tf_r x :: st) LAY cells slots) : c_AW p l e R s m args below meth c Q D cA A ad0 n0 nL pc lo st LAY cells slots :=
  fun H locs ls ad h0 hP hD hS hl => lv_aload_n X.1 X.2.1 hd rfl (tf_has hl (tf_get_ok hm)) (h H locs ls ad h0 hP hD hS hl)
theorem c_iconst (X : c_X p s m args c D cA A cc oc nL) {z : Int} (hd : decode cc pc = .ok (.iconst z, 1)) (h : c_AW p l e R s m args below meth c Q D cA A ad0 n0 nL (pc + 1) lo (tf_i z :: st) LAY cells slots) : c_AW p l e R s m args below meth c Q D cA A ad0 n0 nL pc lo st LAY cells slots :=
  fun H locs ls ad h0 hP hD hS hl => lv_iconst X.1 X.2.1 hd rfl (h H locs ls ad h0 hP hD hS hl)
theorem c_bipush (X : c_X p s m args c D cA A cc oc nL) {z : Int} (hd : decode cc pc = .ok (.bipush z, 2)) (hz : (Int8.ofInt z).toInt32 = Int32.ofInt z) (h : c_AW p l e R s m args below meth c Q D cA A ad0 n0 nL (pc + 2) lo (tf_i z :: st) LAY cells slots) : c_AW p l e R s m args below meth c Q D cA A ad0 n0 nL pc lo st LAY cells slots :=
  fun H locs ls ad h0 hP hD hS hl => lv_bipush X.1 X.2.1 hd hz (h H locs ls ad h0 hP hD hS hl)
theorem c_sipush (X : c_X p s m args c D cA A cc oc nL) {z : Int} (hd : decode cc pc = .ok (.sipush z, 3)) (hz : (Int16.ofInt z).toInt32 = Int32.ofInt z) (h : c_AW p l e R s m args below meth c Q D cA A ad0 n0 nL (pc + 3) lo (tf_i z :: st) LAY cells slots) : c_AW p l e R s m args below meth c Q D cA A ad0 n0 nL pc lo st LAY cells slots :=
  fun H locs ls ad h0 hP hD hS hl => lv_sipush X.1 X.2.1 hd hz (h H locs ls ad h0 hP hD hS hl)
theorem c_ldc (X : c_X p s m args c D cA A cc oc nL) {z : Int} {ix : Nat} (hd : decode cc pc = .ok (.ldc ix, 2)) (hz : tf_cst oc ix = some z) (h : c_AW p l e R s m args below meth c Q D cA A ad0 n0 nL (pc + 2) lo (tf_i z :: st) LAY cells slots) : c_AW p l e R s m args below meth c Q D cA A ad0 n0 nL pc lo st LAY cells slots :=
  fun H locs ls ad h0 hP hD hS hl => lv_ldc X.1 X.2.1 X.2.2.2.1 (X.2.2.2.2.1 _ (tf_cst_ok hz)) hd (h H locs ls ad h0 hP hD hS hl)
theorem c_dup (X : c_X p s m args c D cA A cc oc nL) {k : Nat} (hd : decode cc pc = .ok (.dup, 1)) (h : c_AW p l e R s m args below meth c Q D cA A ad0 n0 nL (pc + 1) lo (tf_r k :: tf_r k :: st) LAY cells slots) : c_AW p l e R s m args below meth c Q D cA A ad0 n0 nL pc lo (tf_r k :: st) LAY cells slots :=
  fun H locs ls ad h0 hP hD hS hl => lv_dup X.1 X.2.1 hd rfl (h H locs ls ad h0 hP hD hS hl)
theorem c_astore_n (X : c_X p s m args c D cA A cc oc nL) {k : Fin 4} {x : Nat} (hd : decode cc pc = .ok (.astore_n k, 1)) (hk : Nat.blt k nL = true) (h : c_AW p l e R s m args below meth c Q D cA A ad0 n0 nL (pc + 1) (tf_set1 lo k (tf_r x)) st LAY cells slots) : c_AW p l e R s m args below meth c Q D cA A ad0 n0 nL pc lo (tf_r x :: st) LAY cells slots :=
  fun H locs ls ad h0 hP hD hS hl => lv_astore_n X.1 X.2.1 hd rfl hl (Nat.le_of_ble_eq_true hk) (tf_flt1 ad lo k (.inr (.inr x))) (fun ls hl => h H locs ls ad h0 hP hD hS hl)
theorem c_istore (X : c_X p s m args c D cA A cc oc nL) {k : Nat} {z : Int} (hd : decode cc pc = .ok (.istore k, 2)) (hk : Nat.blt k nL = true) (h : c_AW p l e R s m args below meth c Q D cA A ad0 n0 nL (pc + 2) (tf_set1 lo k (tf_i z)) st LAY cells slots) : c_AW p l e R s m args below meth c Q D cA A ad0 n0 nL pc lo (tf_i z :: st) LAY cells slots :=
  fun H locs ls ad h0 hP hD hS hl => lv_istore X.1 X.2.1 hd hl (Nat.le_of_ble_eq_true hk) (tf_flt1 ad lo k (.inl z)) (fun ls hl => h H locs ls ad h0 hP hD hS hl)
/-- one cell more -/
theorem c_grow {ad : Nat → Nat} {q : Nat} {H : Heap} {locs : List Loc} {ls : Array Slot} {ent : tf_Ent} {cl : va_E} (hn : n0 ≤ LAY.length ∧ LAY.length < 9000) (hc : LAY.all (c_ein LAY.length) = true) (hlo : lo.all (fun q => c_vin LAY.length q.2) = true) (hst : st.all (c_vin LAY.length) = true)
    (h0 : ∀ i, (i < n0 ∨ 9000 ≤ i) → ad i = ad0 i) (he : ∀ ad' : Nat → Nat, ad' LAY.length = q → tf_cell ad' cA (fun _ _ => 0) LAY.length ent = (q, cl)) (hP : va_P D tf_cls (cw_w ad cA LAY ++ [(q, cl)]) H) (hD : va_D A (cw_w ad cA LAY ++ [(q, cl)])) (hS : va_S A s.heap H locs) (hl : lv_has ls nL (lo.map (tf_cp ad)))
    (h : c_AW p l e R s m args below meth c Q D cA A ad0 n0 nL pc lo (tf_r LAY.length :: st) (LAY ++ [ent]) cells slots) : W p l e R s m args below meth c H locs cells slots Q (F0 m pc ls (.ref q :: st.map (tf_cv ad))) := by
  have ha : ∀ i, (i < LAY.length ∨ 9000 ≤ i) → (fun i => if i = LAY.length then q else ad i) i = ad i := by
    intro i hi
    show (if i = LAY.length then q else ad i) = ad i
    rw [if_neg (by omega)]
  have hq : (fun i => if i = LAY.length then q else ad i) LAY.length = q := by
    show (if LAY.length = LAY.length then q else ad LAY.length) = q
    rw [if_pos rfl]
  have e1 := cw_congr (cA := cA) (LAY := LAY) (fun i hi => ha i (Or.inl hi)) hc
  have e2 := he (fun i => if i = LAY.length then q else ad i) hq
  generalize hg : (fun i => if i = LAY.length then q else ad i) = ad' at ha hq e1 e2
  have ew : cw_w ad' cA (LAY ++ [ent]) = cw_w ad cA LAY ++ [(q, cl)] := by rw [cw_push, e1, e2]
  have key := h H locs ls ad' (fun i hi => by rw [ha i (by omega)]; exact h0 i hi) (by rw [ew]; exact hP) (by rw [ew]; exact hD) hS (by rw [c_lo ha hlo]; exact hl)
  have es : (tf_r LAY.length :: st).map (tf_cv ad') = .ref q :: st.map (tf_cv ad) := by
    rw [List.map_cons, c_st ha hst]
    show Value.ref (ad' LAY.length) :: _ = _
    rw [hq]
  rw [es] at key
  exact key
def c_aty (t : Nat) : Option (ArrayType × FieldType) := bif Nat.beq t 0 then some (.int, .int) else (bif Nat.beq t 1 then some (.byte, .byte) else (bif Nat.beq t 2 then some (.boolean, .boolean) else (bif Nat.beq t 3 then some (.long, .long) else none)))
theorem c_newa (X : c_X p s m args c D cA A cc oc nL) {t N : Nat} {at0 : ArrayType} {ty : FieldType} {z : Int} (ht : c_aty t = some (at0, ty)) (harr : Cond.arrayClass ty ∈ tf_gt) (hd : decode cc pc = .ok (.newarray at0, 2)) (hz : ¬ Int32.ofInt z < 0) (hN : (Int32.ofInt z).toNatClampNeg = N) (hb : N * 8 ≤ 536870912)
    (hn : n0 ≤ LAY.length ∧ LAY.length < 9000) (hc : LAY.all (c_ein LAY.length) = true) (hlo : lo.all (fun q => c_vin LAY.length q.2) = true) (hst : st.all (c_vin LAY.length) = true) (hcells : cells + 1 ≤ R.cells) (hslots : slots + N ≤ R.slots)
    (h : c_AW p l e R s m args below meth c Q D cA A ad0 n0 nL (pc + 2) lo (tf_r LAY.length :: st) (LAY ++ [.inr (t, N)]) (cells + 1) (slots + N)) : c_AW p l e R s m args below meth c Q D cA A ad0 n0 nL pc lo (tf_i z :: st) LAY cells slots := by
  intro H locs ls ad h0 hP hD hS hl
  have hK := X.2.2.2.2.2.1
  have main : newarray.typeOf at0 = ty ∧ componentBytes ty ≤ 8 ∧ (∀ cB : ClassId, vp_cell cB (N, tf_ar t (fun _ => 0)) = arrV cB N (fun _ => defaultValue ty)) ∧ ∀ cB : ClassId, va_RA s cB ty → cB = cA t := by
    have k0 := (hK.2 0 (cA 0, .int) rfl).2
    have k1 := (hK.2 1 (cA 1, .byte) rfl).2
    have k2 := (hK.2 2 (cA 2, .boolean) rfl).2
    have k3 := (hK.2 3 (cA 3, .long) rfl).2
    match t, ht with
    | 0, ht =>
      cases ht
      exact ⟨rfl, by decide, fun _ => rfl, fun cB hB => Option.some.inj (hB.symm.trans k0)⟩
    | 1, ht =>
      cases ht
      exact ⟨rfl, by decide, fun _ => rfl, fun cB hB => Option.some.inj (hB.symm.trans k1)⟩
    | 2, ht =>
      cases ht
      exact ⟨rfl, by decide, fun _ => rfl, fun cB hB => Option.some.inj (hB.symm.trans k2)⟩
    | 3, ht =>
      cases ht
      exact ⟨rfl, by decide, fun _ => rfl, fun cB hB => Option.some.inj (hB.symm.trans k3)⟩
    | (t + 4), ht => cases ht
  obtain ⟨m1, m2, m3, m4⟩ := main
  refine va_newa (n := Int32.ofInt z) (a0 := (N, tf_ar t (fun _ => 0))) X.1 X.2.1 (by rw [m1]; exact X.2.2.2.2.1 _ harr) m1 hK hP hD hS X.2.2.2.2.2.2.1 m3 hz hN (Nat.le_trans (Nat.mul_le_mul_left N m2) hb) hcells hslots hd (fun q cB H1 hK1 hP1 hD1 hS1 => ?_)
  have hB := m4 cB (hK1.2 4 (cB, ty) rfl).2
  subst hB
  exact c_grow hn hc hlo hst h0 (fun ad' e => by show (ad' LAY.length, _) = _; rw [e]) hP1 hD1 hS1 hl h
theorem c_new (X : c_X p s m args c D cA A cc oc nL) {ci N ix : Nat} {C : String} {T : u_T} {fs0 : List (Option (Option Nat))} {fs1 : List Value} (hcl : tf_cls[ci]? = some (C, T, N)) (huw : ∀ w ∈ u_ws C T N, w ∈ tf_gt) (ty : Nat → FieldType) (hty : ∀ k, k < N → parseFieldDescriptor (T k).2.2.1 = some (ty k)) (hlk : Cond.classLink (tf_cn oc) ix C ∈ tf_gt) (hins : Cond.instantiable C N ∈ tf_gt) (hini : Cond.initialized C ∈ tf_gt)
    (hf1 : ∀ (ad : Nat → Nat) (k : Nat), fs0.mapIdx (fun j f => tf_fv ad (fun _ _ => 0) k j f) = fs1) (hfs : ∀ j, j < N → defaultValue (ty j) = vp_V fs1 j) (hd : decode cc pc = .ok (.new ix, 3))
    (hn : n0 ≤ LAY.length ∧ LAY.length < 9000) (hc : LAY.all (c_ein LAY.length) = true) (hlo : lo.all (fun q => c_vin LAY.length q.2) = true) (hst : st.all (c_vin LAY.length) = true) (hcells : cells + 1 ≤ R.cells) (hslots : slots + N ≤ R.slots)
    (h : c_AW p l e R s m args below meth c Q D cA A ad0 n0 nL (pc + 3) lo (tf_r LAY.length :: st) (LAY ++ [.inl (ci, fs0)]) (cells + 1) (slots + N)) : c_AW p l e R s m args below meth c Q D cA A ad0 n0 nL pc lo st LAY cells slots := by
  intro H locs ls ad h0 hP hD hS hl
  refine va_new (ci := ci) (fs := fs1) X.1 X.2.1 X.2.2.2.2.1 huw ty hty X.2.2.2.1 (X.2.2.2.2.1 _ hlk) (X.2.2.2.2.1 _ hins) (X.2.2.2.2.1 _ hini) X.2.2.2.2.2.1 hP hD hS X.2.2.2.2.2.2.1 hcl hfs hcells hslots hd (fun q H1 hP1 hD1 hS1 => ?_)
  exact c_grow hn hc hlo hst h0 (fun ad' e => by show (ad' LAY.length, Sum.inr (ci, fs0.mapIdx _)) = _; rw [e, hf1]) hP1 hD1 hS1 hl h
theorem c_putF (X : c_X p s m args c D cA A cc oc nL) (hi : meth.name = "<init>") {k kv ci j ix N : Nat} {C : String} {T : u_T} {fs : List (Option (Option Nat))} {ty : FieldType} (he : LAY[k]? = some (.inl (ci, fs))) (hf : tf_fld oc ix = some (ci, j)) (hcl : tf_cls[ci]? = some (C, T, N)) (huw : ∀ w ∈ u_ws C T N, w ∈ tf_gt) (ty0 : Nat → FieldType) (hty : ∀ k, k < N → parseFieldDescriptor (T k).2.2.1 = some (ty0 k)) (hnm : ∀ a, a < N → ∀ b, b < N → a ≠ b → (T a).2.1 ≠ (T b).2.1)
    (hfin : (T j).2.2.2 = true) (hdec : (T j).1 = tf_cn oc) (hds : parseFieldDescriptor (T j).2.2.1 = some ty) (hnr : ∀ q, narrow ty (.ref q) = .ref q) (hft : ∀ q, fits ty (.ref q) = true) (hl0 : j < fs.length) (hd : decode cc pc = .ok (.putfield ix, 3))
    (h : c_AW p l e R s m args below meth c Q D cA A ad0 n0 nL (pc + 3) lo st (LAY.set k (.inl (ci, fs.set j (some (some kv))))) cells slots) : c_AW p l e R s m args below meth c Q D cA A ad0 n0 nL pc lo (tf_r kv :: tf_r k :: st) LAY cells slots := by
  intro H locs ls ad h0 hP hD hS hl
  obtain ⟨C', T', N', g1, g2, g3, g4, g5⟩ := tf_fld_ok hf
  have e := Option.some.inj (g1.symm.trans hcl)
  cases e
  refine va_putF (v := .ref (ad kv)) X.1 X.2.1 X.2.2.2.2.1 huw ty0 hty hnm X.2.2.2.1 X.2.2.2.2.2.1 hP hD hS k (cw_get he) hcl j g2 (X.2.2.2.2.1 _ g4) (fun x hx => by rw [g5] at hx; exact hx) hfin hi hdec hds (hnr _) (hft _) (by simpa using hl0) hd (fun H1 locs1 hP1 hD1 hS1 => ?_)
  rw [cw_set he] at hP1 hD1
  exact h H1 locs1 ls ad h0 hP1 hD1 hS1 hl
theorem c_put0 (X : c_X p s m args c D cA A cc oc nL) {k ci j ix : Nat} {fs : List (Option (Option Nat))} {ty : FieldType} (he : LAY[k]? = some (.inl (ci, fs))) (hj : fs[j]? = some none) (hf : tf_fld oc ix = some (ci, j)) (hp : tf_fpt ci j = some ty) (hnr : narrow ty (.int (Int32.ofInt 0)) = .int (Int32.ofInt 0)) (hft : fits ty (.int (Int32.ofInt 0)) = true) (hd : decode cc pc = .ok (.putfield ix, 3))
    (h : c_AW p l e R s m args below meth c Q D cA A ad0 n0 nL (pc + 3) lo st LAY cells slots) : c_AW p l e R s m args below meth c Q D cA A ad0 n0 nL pc lo (tf_i 0 :: tf_r k :: st) LAY cells slots := by
  intro H locs ls ad h0 hP hD hS hl
  obtain ⟨C0, T0, N0, hc1, hc2, hc3, hc4, hc5⟩ := tf_fld_ok hf
  obtain ⟨ty0, q1, q2, q3, q4⟩ := tf_fpt_ok hp hc1
  refine va_put (v := .int (Int32.ofInt 0)) X.1 X.2.1 X.2.2.2.2.1 hc3 ty0 q1 q2 X.2.2.2.1 X.2.2.2.2.2.1 hP hD hS k (cw_get he) hc1 j hc2 (X.2.2.2.2.1 _ hc4) (fun x hx => by rw [hc5] at hx; exact hx) q3 q4 hnr hft (by simpa using (List.getElem?_eq_some_iff.mp hj).1) hd (fun H1 locs1 hP1 hD1 hS1 => ?_)
  rw [cw_set0 he hj] at hP1 hD1
  exact h H1 locs1 ls ad h0 hP1 hD1 hS1 hl
theorem c_getR (X : c_X p s m args c D cA A cc oc nL) {k kv ci j ix : Nat} {fs : List (Option (Option Nat))} (he : LAY[k]? = some (.inl (ci, fs))) (hj : fs[j]? = some (some (some kv))) (hf : tf_fld oc ix = some (ci, j)) (hd : decode cc pc = .ok (.getfield ix, 3))
    (h : c_AW p l e R s m args below meth c Q D cA A ad0 n0 nL (pc + 3) lo (tf_r kv :: st) LAY cells slots) : c_AW p l e R s m args below meth c Q D cA A ad0 n0 nL pc lo (tf_r k :: st) LAY cells slots := by
  intro H locs ls ad h0 hP hD hS hl
  obtain ⟨C0, T0, N0, hc1, hc2, hc3, hc4, hc5⟩ := tf_fld_ok hf
  exact va_get X.1 X.2.1 X.2.2.2.2.1 hc3 X.2.2.2.1 X.2.2.2.2.2.1 hP k (cw_get he) hc1 j hc2 (X.2.2.2.2.1 _ hc4) (fun x hx => by rw [hc5] at hx; exact hx) (tf_fs_get hj) hd (h H locs ls ad h0 hP hD hS hl)
theorem c_obj (X : c_X p s m args c D cA A cc oc nL) {k ix : Nat} (hd : decode cc pc = .ok (.invokespecial ix, 3)) (hlk : Cond.methodLink (tf_cn oc) ix Lib.objectInit ∈ tf_gt) (hin : Cond.instanceMethod Lib.objectInit ∈ tf_gt) (hco : Cond.code Lib.objectInit ⟨#[0xb1]⟩ 1 none ∈ tf_gt) (hR : 1 ≤ R.frames ∧ 12 ≤ R.locals)
    (h : c_AW p l e R s m args below meth c Q D cA A ad0 n0 nL (pc + 3) lo [] LAY cells slots) : c_AW p l e R s m args below meth c Q D cA A ad0 n0 nL pc lo [tf_r k] LAY cells slots := by
  intro H locs ls ad h0 hP hD hS hl
  refine W.objInit X.1 X.2.1 X.2.2.2.1 (X.2.2.2.2.1 _ hlk) (X.2.2.2.2.1 _ hin) (X.2.2.2.2.1 _ hco) rfl (by rw [X.2.2.1]; exact hl.1) rfl hd hR.1 (by show 2 * 0 + 0 + 12 ≤ R.locals; omega) ?_
  exact W.eq (g2 := F0 m (pc + 3) ls []) rfl (h H locs ls ad h0 hP hD hS hl)
end
