-- LAYER I: the calls as instructions
theorem tf_take_ok {n : Nat} : ∀ {st acc : List tf_Av} {k : List tf_Av → List tf_Av → Prop}, tf_take n st acc k → ∃ bs r, st = bs ++ r ∧ bs.length = n ∧ k (bs.reverse ++ acc) r := by
  induction n with
  | zero => intro st acc k h; exact ⟨[], st, rfl, rfl, h⟩
  | succ n ih =>
    intro st acc k h
    match st, h with
    | v :: r, h =>
      obtain ⟨bs, r', e1, e2, e3⟩ := ih (show tf_take n r (v :: acc) k from h)
      exact ⟨v :: bs, r', by rw [e1]; rfl, by simp [e2], by simpa using e3⟩
theorem tf_cats_ok {ad : Nat → Nat} (st : List tf_Av) : ((st.map (tf_cv ad)).map fun v => v.category).sum = tf_cats st := by
  induction st with
  | nil => rfl
  | cons v r ih =>
    simp only [List.map_cons, List.sum_cons, ih, tf_cats]
    congr 1
    obtain z | z | k := v <;> rfl
/-- what an end of a call gives, whatever it is -/
theorem tf_ret_ok {thr : Bool} {rt : Option FieldType} {kr : List tf_Av → tf_Sto → Prop} {kt : Nat → tf_Sto → Prop} {o : tf_Out} {G : tf_Sto} (h : tf_ret thr rt kr kt o G) :
    (∀ v, o = .inl v → kr v.toList G) ∧ (∀ x, o = .inr x → kt x G) := by
  unfold tf_ret at h
  split at h
  · obtain ⟨rfl, h⟩ := h
    exact ⟨fun v hv => by cases hv; exact h, fun x hx => by cases hx⟩
  · obtain ⟨r, rfl, h⟩ := h
    exact ⟨fun v hv => by cases hv; exact h, fun x hx => by cases hx⟩
  · obtain ⟨r, rfl, h⟩ := h
    exact ⟨fun v hv => by cases hv; exact h, fun x hx => by cases hx⟩
  · rcases h with ⟨rfl, h⟩ | ⟨rfl, h⟩ | ⟨rfl, h⟩ | ⟨rfl, h⟩
    · exact ⟨fun v hv => by cases hv; exact h, fun x hx => by cases hx⟩
    all_goals exact ⟨fun v hv => (by cases hv), fun x hx => (by cases hx; exact h)⟩
  · rcases h with ⟨r, rfl, h⟩ | ⟨rfl, h⟩ | ⟨rfl, h⟩ | ⟨rfl, h⟩
    · exact ⟨fun v hv => by cases hv; exact h, fun x hx => by cases hx⟩
    all_goals exact ⟨fun v hv => (by cases hv), fun x hx => (by cases hx; exact h)⟩
  · rcases h with ⟨r, rfl, h⟩ | ⟨rfl, h⟩ | ⟨rfl, h⟩ | ⟨rfl, h⟩
    · exact ⟨fun v hv => by cases hv; exact h, fun x hx => by cases hx⟩
    all_goals exact ⟨fun v hv => (by cases hv), fun x hx => (by cases hx; exact h)⟩
/-- what the linking of a call instruction gives -/
def tf_Lk (ad : Nat → Nat) (y' : Nat) (p : Program) (l : Launch) (e : Env) (R : Room) (s : State) (m : MethodId) (args : Array Value) (below : List Frame) (meth : Method) (c : Code) (H : Heap) (locs : List Loc) (cells slots : Nat) (g : JFrame) (as : List tf_Av) (rest : List Value) : Prop :=
  ∀ T : State, T.heap = H → Stand p l e R s m args below meth c T locs cells slots → ∃ (vm₁ : Vm) (mk : MethodId), Stand p l e R s m args below meth c (T.setVm vm₁) locs cells slots ∧ (T.setVm vm₁).methodNamed? (tf_nm y') = some mk ∧
    ∀ target, Steps p.tables e below (doInvoke e ((T.setVm vm₁).setTop { g with stack := rest }) [] mk (as.map (tf_cv ad)).toArray).1 target → Steps p.tables e below (T.setTop g) target
section
variable {l : Launch} {y : Nat} {sc : Option (Nat × (Int → Int))} {Post : tf_Out → tf_Sto → Prop} {pc : Nat} {lo : tf_Lo} {st : List tf_Av} {cs : tf_Cs} {G : tf_Sto} {go : Nat → tf_Lo → List tf_Av → tf_Cs → tf_Sto → Prop}
set_option maxHeartbeats 4000000 in
theorem tf_s_call {y' : Nat} {virt : Bool} {ig : Instr} (hd : decode (tf_by y) pc = .ok (ig, 3))
    (hlk : tf_ok y' = true → ∀ (p : Program) (e : Env) (s : State) (m : MethodId) (args : Array Value) (below : List Frame) (meth : Method) (c : Code) (H : Heap) (locs : List Loc) (cells slots : Nat) (ls : Array Slot) (D : va_G) (cA : Nat → ClassId) (ad : Nat → Nat) (A : Nat → Prop) (as r : List tf_Av),
      tf_Cx l y sc p s m args meth c D cA ad A → va_P D tf_cls (tf_wld ad cA G) H → (virt = false ∨ tf_isr as (tf_oc y') = true) → as.length = tf_na y' →
      tf_Lk ad y' p l e (tf_room y) s m args below meth c H locs cells slots (F0 m pc ls ((as.reverse ++ r).map (tf_cv ad))) as (r.map (tf_cv ad)))
    (hthr : ∀ (x : Nat) (cs : tf_Cs) (G : tf_Sto), x < 3 → tf_thr y Post pc lo go x cs G →
      ∀ (p : Program) (e : Env) (s : State) (m : MethodId) (args : Array Value) (below : List Frame) (meth : Method) (c : Code) (locs : List Loc) (ls : Array Slot) (D : va_G) (cA : Nat → ClassId) (ad : Nat → Nat) (A : Nat → Prop) (T' : State) (a : Addr) (cell : Cell) (stk : List Value),
        tf_Cx l y sc p s m args meth c D cA ad A → tf_okA y cs G → (∀ q ∈ lo, tf_okv q.2) → T'.heap[a]? = some cell → cell.vm = .none → s.vm.findClass (tf_xn x) = some cell.cls → Stand p l e (tf_room y) s m args below meth c T' locs (tf_cs cs).1 (tf_cs cs).2 →
        va_P D tf_cls (tf_wld ad cA G) T'.heap → va_D A (tf_wld ad cA G) → tf_S A s.heap T'.heap locs cs → lv_has ls (tf_nl y) (lo.map (tf_cp ad)) → ∃ t, Steps p.tables e below ((T'.setTop (F0 m pc ls stk)).pushFrame (.throwing a)) t ∧ tf_End y Post D cA ad A below s t)
    (hgo : ∀ pc lo st cs G, go pc lo st cs G → tf_AW l y sc Post pc lo st cs G) (h : tf_call1 l y y' virt pc lo st cs G (fun x cs G => tf_thr y Post pc lo go x cs G) go) : tf_AW l y sc Post pc lo st cs G := by
  unfold tf_call1 at h
  obtain ⟨h0, h⟩ := tf_bif h
  rw [Bool.and_eq_true, Bool.and_eq_true] at h0
  have hr1 := Nat.le_of_ble_eq_true h0.1.1
  have hr2 := Nat.le_of_ble_eq_true h0.1.2
  have hy := h0.2
  obtain ⟨bs, r, rfl, hlen, h⟩ := tf_take_ok h
  obtain ⟨h0, h⟩ := tf_bif h
  rw [Bool.and_eq_true] at h0
  have hr3 := Nat.le_of_ble_eq_true h0.1
  have hv : virt = false ∨ tf_isr (bs.reverse ++ []) (tf_oc y') = true := by
    cases virt with
    | false => exact Or.inl rfl
    | true => exact Or.inr (by simpa using h0.2)
  rw [List.append_nil] at h hv
  -- the room
  have hroom : ∃ cs' : tf_Cs, (cs'.2 = (cs.2 && tf_pu y')) ∧ (tf_cs cs').1 = (tf_cs cs).1 + tf_mc y' ∧ (tf_cs cs').2 = (tf_cs cs).2 + tf_ms y' ∧ (((tf_cs cs).1 + tf_mc y' ≤ tf_mc y ∧ (tf_cs cs).2 + tf_ms y' ≤ tf_ms y) ∨ (tf_mc y' = 0 ∧ tf_ms y' = 0)) ∧
      tf_RUN l y' bs.reverse G (tf_ret (tf_th y') (tf_rt y') (fun v G' => go (pc + 3) lo (v ++ r) cs' G') (fun x G' => tf_thr y Post pc lo go x cs' G')) := by
    cases hz : (Nat.beq (tf_mc y') 0 && Nat.beq (tf_ms y') 0) with
    | true =>
      rw [hz, cond_true] at h
      rw [Bool.and_eq_true] at hz
      have z1 := Nat.eq_of_beq_eq_true hz.1
      have z2 := Nat.eq_of_beq_eq_true hz.2
      exact ⟨(cs.1, cs.2 && tf_pu y'), rfl, by rw [z1]; rfl, by rw [z2]; rfl, Or.inr ⟨z1, z2⟩, h⟩
    | false =>
      rw [hz, cond_false] at h
      exact ⟨(some ((tf_cs cs).1 + tf_mc y', (tf_cs cs).2 + tf_ms y'), cs.2 && tf_pu y'), rfl, rfl, rfl, Or.inl h.1, h.2⟩
  obtain ⟨cs', c0, c1, c2, c3, hR⟩ := hroom
  intro hG hlo hst p e s m args below meth c H locs ls D cA ad A C hP hD hS hl
  obtain ⟨hx, hb, hr, hml, hown, hts, hnw, hlk', hK, hA, hA0, hlt, hex, hfl, hsc, hsw⟩ := id C
  have has : ∀ v ∈ bs.reverse, tf_okv v := fun v hv => hst v (List.mem_append_left _ (List.mem_reverse.mp hv))
  have hrr : ∀ v ∈ r, tf_okv v := fun v hv => hst v (List.mem_append_right _ hv)
  intro T hT X
  have hb1 : bs ++ r = bs.reverse.reverse ++ r := by rw [List.reverse_reverse]
  rw [hb1]
  obtain ⟨vm₁, mk, X₁, hn, st₁⟩ := hlk hy p e s m args below meth c H locs (tf_cs cs).1 (tf_cs cs).2 ls D cA ad A bs.reverse r C hP hv (by rw [List.length_reverse]; exact hlen) T hT X
  -- a call that makes nothing fits whatever was made
  have hfit : (tf_cs cs).1 + tf_mc y' ≤ tf_mc y ∧ (tf_cs cs).2 + tf_ms y' ≤ tf_ms y := by
    rcases c3 with h | ⟨h1, h2⟩
    · exact h
    · rw [h1, h2]
      exact hG.2
  obtain ⟨t, a1, b1⟩ := tf_cal (Q := tf_End y Post D cA ad A below s) (g0 := { F0 m pc ls ((bs.reverse.reverse ++ r).map (tf_cv ad)) with stack := r.map (tf_cv ad) }) hR hy C hG.1 has hP hD hS.1 X₁ (by rw [← hT]; rfl) hn rfl (hl.1.trans hml.symm) (by rw [hb]; exact hd) (by show 2 * 0 + _ ≤ 8; rw [tf_cats_ok]; omega)
    ⟨hr1, hr2⟩ hfit
    (fun v G' H1 locs1 hpl hp hG' hv hP1 hD1 hS1 => by
      have hcln : cs'.2 = true → locs1 = [] := fun q => by
        rw [c0, Bool.and_eq_true] at q
        rw [hpl q.2]
        exact hS.2 q.1
      have h1 := (tf_ret_ok hp).1 v rfl
      have h2 := hgo _ _ _ _ _ h1 ⟨hG', by rw [c1, c2]; exact hfit⟩ hlo (fun w hw => by
        rcases List.mem_append.mp hw with h | h
        · exact hv w (Option.mem_toList.mp h)
        · exact hrr w h) p e s m args below meth c H1 locs1 ls D cA ad A C hP1 hD1 ⟨hS1, hcln⟩ hl
      rw [c1, c2] at h2
      have e1 : (v.toList ++ r).map (tf_cv ad) = (v.map (tf_cv ad)).toList ++ r.map (tf_cv ad) := by cases v <;> rfl
      rw [e1] at h2
      exact h2)
    (fun x a cell G' T' locs1 hpl hx3 hp hG' q1 q2 q3 X' hP1 hD1 hS1 => by
      have hcln : cs'.2 = true → locs1 = [] := fun q => by
        rw [c0, Bool.and_eq_true] at q
        rw [hpl q.2]
        exact hS.2 q.1
      have h1 := (tf_ret_ok hp).2 x rfl
      rw [← c1, ← c2] at X'
      exact hthr x cs' G' hx3 h1 p e s m args below meth c locs1 ls D cA ad A T' a cell _ C ⟨hG', by rw [c1, c2]; exact hfit⟩ hlo q1 q2 q3 X' hP1 hD1 ⟨hS1, hcln⟩ hl)
  exact ⟨t, st₁ t a1, b1⟩
end
