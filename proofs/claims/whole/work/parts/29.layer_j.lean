-- LAYER J: linking
section
variable {l : Launch} {y : Nat} {sc : Option (Nat × (Int → Int))} {Post : tf_Out → tf_Sto → Prop} {pc : Nat} {lo : tf_Lo} {st : List tf_Av} {cs : tf_Cs} {G : tf_Sto} {go : Nat → tf_Lo → List tf_Av → tf_Cs → tf_Sto → Prop}
variable {p : Program} {e : Env} {s : State} {m : MethodId} {args : Array Value} {below : List Frame} {meth : Method} {c : Code} {H : Heap} {locs : List Loc} {cells slots : Nat} {ls : Array Slot} {D : va_G} {cA : Nat → ClassId} {ad : Nat → Nat} {A : Nat → Prop}
set_option maxHeartbeats 2000000 in
theorem tf_lkV {y' ix : Nat} {as r : List tf_Av} (hi : tf_inv (tf_oc y) ix = some y') (hd : decode (tf_by y) pc = .ok (.invokevirtual ix, 3)) (hy : tf_ok y' = true) (hvi : tf_vi y' = true)
    (C : tf_Cx l y sc p s m args meth c D cA ad A) (hP : va_P D tf_cls (tf_wld ad cA G) H) (hv : tf_isr as (tf_oc y') = true) (hlen : as.length = tf_na y') :
    tf_Lk ad y' p l e (tf_room y) s m args below meth c H locs cells slots (F0 m pc ls ((as.reverse ++ r).map (tf_cv ad))) as (r.map (tf_cv ad)) := by
  obtain ⟨hx, hb, hr, hml, hown, hts, hnw, hlk, hK, hA, hA0, hlt, hex, hfl, hsc, hsw⟩ := id C
  obtain ⟨y1, y2, y3, y4, y5⟩ := tf_y_ok hy
  obtain ⟨i1, i2, i3⟩ := tf_inv_v hi hvi hy
  -- the receiver
  have hrec : ∃ k as', as = .inr (.inr k) :: as' ∧ ∃ fs, tf_lay k = some (.inl (tf_oc y', fs)) := by
    unfold tf_isr at hv
    split at hv
    · rename_i k as'
      split at hv
      · rename_i o ho
        have := Nat.eq_of_beq_eq_true hv
        exact ⟨k, as', rfl, o.2, by rw [ho, ← this]⟩
      · cases hv
    · cases hv
  obtain ⟨k, as', rfl, fs, hk⟩ := hrec
  obtain ⟨q, hq1, hq2⟩ := tf_lay_cl hk
  obtain ⟨cellB, b1, b2, b3⟩ := va_recv hK hP hq1 (tf_wld_get (ad := ad) (cA := cA) (G := G) (tf_lay_ok hk))
  rw [hq2] at b3
  intro T hT X
  obtain ⟨mk, methM, hnamed, hmethM, hstM, habM⟩ := Cond.instanceMethod_spec (hts _ i2)
  obtain ⟨methM', cM, hmethM', -, -, -, -, -, -, hsigM⟩ := tf_cw_ok (hts _ y1) hnamed
  cases hmethM.symm.trans hmethM'
  obtain ⟨c2, r2, m2, q1, q2, q3, q4, kP, hkP, hkPi⟩ := Cond.selects_spec (hts _ i3)
  cases b3.symm.trans q1
  cases (State.methodFound?_of_named hnamed y3).symm.trans q2
  cases hnamed.symm.trans q3
  have hselP : selectMethod e.platform s.vm cellB.cls mk = .method mk := by rw [Launch.admits_selectMethod X.admits]; exact q4
  have hl : (as'.map (tf_cv ad)).length = methM.sig.parameters.length := by
    have h1 := y4 hvi _ hsigM
    have h2 : as'.length + 1 = tf_na y' := hlen
    rw [List.length_map]
    omega
  have hstk : (F0 m pc ls (((.inr (.inr k) :: as').reverse ++ r).map (tf_cv ad))).stack = (as'.map (tf_cv ad)).reverse ++ .ref (ad k) :: r.map (tf_cv ad) := by
    show ((tf_r k :: as').reverse ++ r).map (tf_cv ad) = _
    rw [List.map_append, List.map_reverse, List.map_cons, List.reverse_cons, List.append_assoc]
    rfl
  rcases i1 with i1 | ⟨host, i1⟩
  · obtain ⟨vm₁, X₁, hstep₁⟩ := X.invokevirtual hx hown (hts _ i1) hnamed hmethM hstM hkP hkPi y3 (a := ad k) (cell := cellB) (by rw [hT]; exact b1)
      (fun z h => by rw [h] at b2; cases b2) hselP hmethM habM hkP hkPi (g := F0 m pc ls (((.inr (.inr k) :: as').reverse ++ r).map (tf_cv ad))) rfl (argsL := as'.map (tf_cv ad)) (rest := r.map (tf_cv ad)) hl hstk (by rw [hb]; exact hd)
    exact ⟨vm₁, mk, X₁, X₁.named hnamed, fun target h => hstep₁ _ fun acts => by rw [doInvoke_state]; exact h⟩
  · obtain ⟨vm₁, X₁, hstep₁⟩ := X.invokevirtualNest hx hown (va_Nw.use rfl (hnw _ i1)) hnamed hmethM hstM hkP hkPi y3 (a := ad k) (cell := cellB) (by rw [hT]; exact b1)
      (fun z h => by rw [h] at b2; cases b2) hselP hmethM habM hkP hkPi (g := F0 m pc ls (((.inr (.inr k) :: as').reverse ++ r).map (tf_cv ad))) rfl (argsL := as'.map (tf_cv ad)) (rest := r.map (tf_cv ad)) hl hstk (by rw [hb]; exact hd)
    exact ⟨vm₁, mk, X₁, X₁.named hnamed, fun target h => hstep₁ _ fun acts => by rw [doInvoke_state]; exact h⟩
set_option maxHeartbeats 2000000 in
theorem tf_lkS {y' ix : Nat} {as r : List tf_Av} (hi : tf_inv (tf_oc y) ix = some y') (hd : decode (tf_by y) pc = .ok (.invokestatic ix, 3)) (hy : tf_ok y' = true) (hvi : tf_vi y' = false)
    (C : tf_Cx l y sc p s m args meth c D cA ad A) (hlen : as.length = tf_na y') :
    tf_Lk ad y' p l e (tf_room y) s m args below meth c H locs cells slots (F0 m pc ls ((as.reverse ++ r).map (tf_cv ad))) as (r.map (tf_cv ad)) := by
  obtain ⟨hx, hb, hr, hml, hown, hts, hnw, hlk, hK, hA, hA0, hlt, hex, hfl, hsc, hsw⟩ := id C
  obtain ⟨y1, y2, y3, y4, y5⟩ := tf_y_ok hy
  obtain ⟨i1, i2⟩ := tf_inv_s hi hvi hy
  intro T hT X
  have hnm : ∃ mk, s.methodNamed? (tf_nm y') = some mk := tf_cw_named (hts _ y1)
  obtain ⟨mk, hnamed⟩ := hnm
  obtain ⟨methM, cM, hmethM, -, -, -, -, -, -, hsigM⟩ := tf_cw_ok (hts _ y1) hnamed
  have hstatic : methM.isStatic = true := Cond.static_spec hnamed hmethM (hts _ i2)
  obtain ⟨kP, hkP, -⟩ := className_of_methodNamed hnamed
  have hinitP : kP.init = .initialized := Cond.initialized_spec (findClass_of_methodNamed hnamed) hkP (hts _ y2)
  have hl : (as.map (tf_cv ad)).length = methM.sig.parameters.length := by
    have h1 := y5 hvi _ hsigM
    rw [List.length_map]
    omega
  have hstk : (F0 m pc ls ((as.reverse ++ r).map (tf_cv ad))).stack = (as.map (tf_cv ad)).reverse ++ r.map (tf_cv ad) := by
    show (as.reverse ++ r).map (tf_cv ad) = _
    rw [List.map_append, List.map_reverse]
  rcases i1 with i1 | ⟨host, i1⟩
  · obtain ⟨vm₁, X₁, hstep₁⟩ := X.invokestatic hx hown (hts _ i1) hnamed hmethM hstatic hkP hinitP y3 (g := F0 m pc ls ((as.reverse ++ r).map (tf_cv ad))) rfl (argsL := as.map (tf_cv ad)) (rest := r.map (tf_cv ad)) hl hstk (by rw [hb]; exact hd)
    exact ⟨vm₁, mk, X₁, X₁.named hnamed, fun target h => hstep₁ _ fun acts => by rw [doInvoke_state]; exact h⟩
  · obtain ⟨vm₁, X₁, hstep₁⟩ := X.invokestaticNest hx hown (va_Nw.use rfl (hnw _ i1)) hnamed hmethM hstatic hkP hinitP y3 (g := F0 m pc ls ((as.reverse ++ r).map (tf_cv ad))) rfl (argsL := as.map (tf_cv ad)) (rest := r.map (tf_cv ad)) hl hstk (by rw [hb]; exact hd)
    exact ⟨vm₁, mk, X₁, X₁.named hnamed, fun target h => hstep₁ _ fun acts => by rw [doInvoke_state]; exact h⟩
end
