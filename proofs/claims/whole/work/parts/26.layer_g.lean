-- LAYER G: the instructions that touch the store; returns
section
variable {l : Launch} {y : Nat} {sc : Option (Nat × (Int → Int))} {Post : tf_Out → tf_Sto → Prop} {pc : Nat} {lo : tf_Lo} {st : List tf_Av} {cs : tf_Cs} {G : tf_Sto} {go : Nat → tf_Lo → List tf_Av → tf_Cs → tf_Sto → Prop}
set_option maxHeartbeats 1000000 in
theorem tf_s_arraylength (hi : tf_tab y pc = some (.arraylength)) (hgo : ∀ pc lo st cs G, go pc lo st cs G → tf_AW l y sc Post pc lo st cs G) (h : tf_step l y sc Post (.arraylength) pc lo st cs G go) : tf_AW l y sc Post pc lo st cs G := by
  obtain ⟨n, hd, hn⟩ := tf_tab_ok hi
  have hn : n = 1 := tf_ln (k := 0) hn rfl
  subst hn
  obtain ⟨k, r, rfl, h1⟩ := tf_pR_ok h
  cases hk : Nat.beq k 9999 with
  | true =>
    rw [hk, cond_true] at h1
    have hk := Nat.eq_of_beq_eq_true hk
    subst hk
    obtain ⟨L, xs, hs, h2⟩ := tf_hS_ok h1
    intro hG hlo hst p e s m args below meth c H locs ls D cA ad A C hP hD hS hl
    obtain ⟨hx, hb, hr, hml, hown, hts, hnw, hlk, hK, hA, hA0, hlt, hex, hfl, hsc, hsw⟩ := id C
    obtain ⟨q1, q2, q3, q4, q5⟩ := hsc L xs hs
    exact va_slen (rest := r.map (tf_cv ad)) hx hb q3 q4 q5 hS.1 hd (hgo _ _ _ _ _ h2 hG hlo (tf_ok_cons (v := .inl (L : Int)) ⟨by omega, by omega⟩ (tf_ok_tl hst)) p e s m args below meth c H locs ls D cA ad A C hP hD hS hl)
  | false =>
    rw [hk, cond_false] at h1
    obtain ⟨t, N, hy, h2⟩ := tf_hA_ok h1
    obtain ⟨hN, h3⟩ := tf_bif h2
    have hN : N < 2147483648 := Nat.le_of_ble_eq_true hN
    intro hG hlo hst p e s m args below meth c H locs ls D cA ad A C hP hD hS hl
    obtain ⟨hx, hb, hr, hml, hown, hts, hnw, hlk, hK, hA, hA0, hlt, hex, hfl, hsc, hsw⟩ := id C
    have ha := tf_wld_get (ad := ad) (cA := cA) (G := G) (tf_lay_ok hy)
    obtain ⟨t0, ty, ht⟩ := tf_lay_ty hy cA
    exact va_alen (x := (N, tf_ar t (G k))) (rest := r.map (tf_cv ad)) (v := Int32.ofInt (N : Int)) hx hb hK hP k t0 ha ht rfl hd (hgo _ _ _ _ _ h3 hG hlo (tf_ok_cons (v := .inl (N : Int)) ⟨by omega, by omega⟩ (tf_ok_tl hst)) p e s m args below meth c H locs ls D cA ad A C hP hD hS hl)
set_option maxHeartbeats 1000000 in
theorem tf_s_iaload (hi : tf_tab y pc = some (.iaload)) (hgo : ∀ pc lo st cs G, go pc lo st cs G → tf_AW l y sc Post pc lo st cs G) (h : tf_step l y sc Post (.iaload) pc lo st cs G go) : tf_AW l y sc Post pc lo st cs G := by
  obtain ⟨n, hd, hn⟩ := tf_tab_ok hi
  have hn : n = 1 := tf_ln (k := 0) hn rfl
  subst hn
  obtain ⟨i, r1, rfl, h1⟩ := tf_pI_ok h
  obtain ⟨k, r, rfl, h2⟩ := tf_pR_ok h1
  cases hk : Nat.beq k 9999 with
  | true =>
    rw [hk, cond_true] at h2
    have hk := Nat.eq_of_beq_eq_true hk
    subst hk
    obtain ⟨L, xs, hs, h3⟩ := tf_hS_ok h2
    exact tf_lds rfl hs h3.1 hd (hgo _ _ _ _ _ h3.2)
  | false =>
    rw [hk, cond_false] at h2
    obtain ⟨t, N, hy, h3⟩ := tf_hA_ok h2
    obtain ⟨ht, h4⟩ := tf_bif h3
    have ht := Nat.eq_of_beq_eq_true ht
    subst ht
    exact tf_ld rfl (tf_lay_ok hy) (by decide) h4.1 (fun hx hb hK hP ha hin kk => va_iald hx hb hK hP _ 0 ha rfl hin hd kk) (hgo _ _ _ _ _ h4.2)
set_option maxHeartbeats 1000000 in
theorem tf_s_baload (hi : tf_tab y pc = some (.baload)) (hgo : ∀ pc lo st cs G, go pc lo st cs G → tf_AW l y sc Post pc lo st cs G) (h : tf_step l y sc Post (.baload) pc lo st cs G go) : tf_AW l y sc Post pc lo st cs G := by
  obtain ⟨n, hd, hn⟩ := tf_tab_ok hi
  have hn : n = 1 := tf_ln (k := 0) hn rfl
  subst hn
  obtain ⟨i, r1, rfl, h1⟩ := tf_pI_ok h
  obtain ⟨k, r, rfl, h2⟩ := tf_pR_ok h1
  obtain ⟨t, N, hy, h3⟩ := tf_hA_ok h2
  obtain ⟨ht, h4⟩ := tf_bif h3
  rw [Bool.or_eq_true] at ht
  rcases ht with ht | ht
  · have ht := Nat.eq_of_beq_eq_true ht
    subst ht
    exact tf_ld rfl (tf_lay_ok hy) (by decide) h4.1 (fun hx hb hK hP ha hin kk => va_bald hx hb hK hP _ 1 ha rfl hin hd kk) (hgo _ _ _ _ _ h4.2)
  · have ht := Nat.eq_of_beq_eq_true ht
    subst ht
    exact tf_ld rfl (tf_lay_ok hy) (by decide) h4.1 (fun hx hb hK hP ha hin kk => va_zald hx hb hK hP _ 2 ha rfl hin hd kk) (hgo _ _ _ _ _ h4.2)
set_option maxHeartbeats 1000000 in
theorem tf_s_laload (hi : tf_tab y pc = some (.laload)) (hgo : ∀ pc lo st cs G, go pc lo st cs G → tf_AW l y sc Post pc lo st cs G) (h : tf_step l y sc Post (.laload) pc lo st cs G go) : tf_AW l y sc Post pc lo st cs G := by
  obtain ⟨n, hd, hn⟩ := tf_tab_ok hi
  have hn : n = 1 := tf_ln (k := 0) hn rfl
  subst hn
  obtain ⟨i, r1, rfl, h1⟩ := tf_pI_ok h
  obtain ⟨k, r, rfl, h2⟩ := tf_pR_ok h1
  obtain ⟨t, N, hy, h3⟩ := tf_hA_ok h2
  obtain ⟨ht, h4⟩ := tf_bif h3
  have ht := Nat.eq_of_beq_eq_true ht
  subst ht
  exact tf_ldl rfl (tf_lay_ok hy) h4.1 hd (hgo _ _ _ _ _ h4.2)
set_option maxHeartbeats 1000000 in
theorem tf_s_iastore (hi : tf_tab y pc = some (.iastore)) (hgo : ∀ pc lo st cs G, go pc lo st cs G → tf_AW l y sc Post pc lo st cs G) (h : tf_step l y sc Post (.iastore) pc lo st cs G go) : tf_AW l y sc Post pc lo st cs G := by
  obtain ⟨n, hd, hn⟩ := tf_tab_ok hi
  have hn : n = 1 := tf_ln (k := 0) hn rfl
  subst hn
  obtain ⟨x, r0, rfl, h0⟩ := tf_pI_ok h
  obtain ⟨i, r1, rfl, h1⟩ := tf_pI_ok h0
  obtain ⟨k, r, rfl, h2⟩ := tf_pR_ok h1
  obtain ⟨t, N, hy, h3⟩ := tf_hA_ok h2
  obtain ⟨ht, h4⟩ := tf_bif h3
  have ht := Nat.eq_of_beq_eq_true ht
  subst ht
  exact tf_stI rfl (tf_lay_ok hy) (by decide) h4.1 (fun q => q) (fun hx hb hK hP hD hS ha hin kk => va_iast hx hb hK hP hD hS _ 0 ha rfl hin hd kk) (hgo _ _ _ _ _ h4.2)
set_option maxHeartbeats 1000000 in
theorem tf_s_bastore (hi : tf_tab y pc = some (.bastore)) (hgo : ∀ pc lo st cs G, go pc lo st cs G → tf_AW l y sc Post pc lo st cs G) (h : tf_step l y sc Post (.bastore) pc lo st cs G go) : tf_AW l y sc Post pc lo st cs G := by
  obtain ⟨n, hd, hn⟩ := tf_tab_ok hi
  have hn : n = 1 := tf_ln (k := 0) hn rfl
  subst hn
  obtain ⟨x, r0, rfl, h0⟩ := tf_pI_ok h
  obtain ⟨i, r1, rfl, h1⟩ := tf_pI_ok h0
  obtain ⟨k, r, rfl, h2⟩ := tf_pR_ok h1
  obtain ⟨t, N, hy, h3⟩ := tf_hA_ok h2
  cases ht : Nat.beq t 1 with
  | true =>
    rw [ht, cond_true] at h3
    have ht := Nat.eq_of_beq_eq_true ht
    subst ht
    obtain ⟨h4, h5, h6⟩ := h3
    refine tf_stI rfl (tf_lay_ok hy) (by decide) h4 (fun _ => h5) (fun hx hb hK hP hD hS ha hin kk => ?_) (hgo _ _ _ _ _ h6)
    refine va_bast hx hb hK hP hD hS _ 1 ha rfl hin hd ?_
    rw [tf_nb h5]
    exact kk
  | false =>
    rw [ht, cond_false] at h3
    obtain ⟨ht, h4, h5, h6⟩ := tf_bif h3
    have ht := Nat.eq_of_beq_eq_true ht
    subst ht
    refine tf_stI rfl (tf_lay_ok hy) (by decide) h4 (fun _ => h5) (fun hx hb hK hP hD hS ha hin kk => ?_) (hgo _ _ _ _ _ h6)
    refine va_zast hx hb hK hP hD hS _ 2 ha rfl hin hd ?_
    rw [tf_nz h5]
    exact kk
set_option maxHeartbeats 1000000 in
theorem tf_s_lastore (hi : tf_tab y pc = some (.lastore)) (hgo : ∀ pc lo st cs G, go pc lo st cs G → tf_AW l y sc Post pc lo st cs G) (h : tf_step l y sc Post (.lastore) pc lo st cs G go) : tf_AW l y sc Post pc lo st cs G := by
  obtain ⟨n, hd, hn⟩ := tf_tab_ok hi
  have hn : n = 1 := tf_ln (k := 0) hn rfl
  subst hn
  obtain ⟨x, r0, rfl, h0⟩ := tf_pL_ok h
  obtain ⟨i, r1, rfl, h1⟩ := tf_pI_ok h0
  obtain ⟨k, r, rfl, h2⟩ := tf_pR_ok h1
  obtain ⟨t, N, hy, h3⟩ := tf_hA_ok h2
  obtain ⟨ht, h4⟩ := tf_bif h3
  have ht := Nat.eq_of_beq_eq_true ht
  subst ht
  exact tf_stL rfl (tf_lay_ok hy) h4.1 hd (hgo _ _ _ _ _ h4.2)
theorem tf_fs_get {ad : Nat → Nat} {G : tf_Sto} {k j : Nat} {fs : List (Option (Option Nat))} {f : Option (Option Nat)} (h : fs[j]? = some f) : (fs.mapIdx (fun j f => tf_fv ad G k j f))[j]? = some (tf_fv ad G k j f) := by
  simp [List.getElem?_mapIdx, h]
theorem tf_fs_set {ad : Nat → Nat} {G : tf_Sto} {k j : Nat} {x : Int} {fs : List (Option (Option Nat))} (h : fs[j]? = some none) : (fs.mapIdx (fun j f => tf_fv ad G k j f)).set j (.int (Int32.ofInt x)) = fs.mapIdx (fun j' f => tf_fv ad (tf_up G k (j : Int) x) k j' f) := by
  apply List.ext_getElem?
  intro i
  by_cases hij : i = j
  · subst hij
    rw [List.getElem?_set_self (by simpa using (List.getElem?_eq_some_iff.mp h).1), List.getElem?_mapIdx, h]
    simp [tf_fv, tf_up_s]
  · rw [List.getElem?_set_ne (Ne.symm hij), List.getElem?_mapIdx, List.getElem?_mapIdx]
    cases hf : fs[i]? with
    | none => rfl
    | some f =>
      cases f with
      | none =>
        simp only [Option.map_some, tf_fv]
        rw [tf_up_i G k x (by omega)]
      | some r => rfl
set_option maxHeartbeats 1000000 in
theorem tf_s_getfield {ix : Nat} (hi : tf_tab y pc = some (.getfield ix)) (hgo : ∀ pc lo st cs G, go pc lo st cs G → tf_AW l y sc Post pc lo st cs G) (h : tf_step l y sc Post (.getfield ix) pc lo st cs G go) : tf_AW l y sc Post pc lo st cs G := by
  obtain ⟨n, hd, hn⟩ := tf_tab_ok hi
  have hn : n = 3 := tf_ln (k := 2) hn rfl
  subst hn
  obtain ⟨k, r, rfl, h1⟩ := tf_pR_ok h
  obtain ⟨ci, j, hf, h2⟩ := tf_hF_ok h1
  obtain ⟨ci', fs, hy, h3⟩ := tf_hO_ok h2
  obtain ⟨hc, h4⟩ := tf_bif h3
  have hc := Nat.eq_of_beq_eq_true hc
  subst hc
  obtain ⟨C0, T0, N0, hc1, hc2, hc3, hc4, hc5⟩ := tf_fld_ok hf
  rcases tf_hJ_ok h4 with ⟨hj, h5⟩ | ⟨k', hj, h5⟩
  · skip
    intro hG hlo hst p e s m args below meth c H locs ls D cA ad A C hP hD hS hl
    obtain ⟨hx, hb, hr, hml, hown, hts, hnw, hlk, hK, hA, hA0, hlt, hex, hfl, hsc, hsw⟩ := id C
    have ha := tf_wld_get (ad := ad) (cA := cA) (G := G) (tf_lay_ok hy)
    have hv : tf_inI (G k (j : Int)) := hG.1 k _ (tf_lay_ok hy) j
    exact va_get (rest := r.map (tf_cv ad)) hx hb hts hc3 hown hK hP k ha hc1 j hc2 (hts _ hc4) (fun x hx => by rw [hc5] at hx; exact hx) (tf_fs_get hj) hd (hgo _ _ _ _ _ h5 hG hlo (tf_ok_cons (v := .inl (G k (j : Int))) hv (tf_ok_tl hst)) p e s m args below meth c H locs ls D cA ad A C hP hD hS hl)
  · skip
    intro hG hlo hst p e s m args below meth c H locs ls D cA ad A C hP hD hS hl
    obtain ⟨hx, hb, hr, hml, hown, hts, hnw, hlk, hK, hA, hA0, hlt, hex, hfl, hsc, hsw⟩ := id C
    have ha := tf_wld_get (ad := ad) (cA := cA) (G := G) (tf_lay_ok hy)
    exact va_get (rest := r.map (tf_cv ad)) hx hb hts hc3 hown hK hP k ha hc1 j hc2 (hts _ hc4) (fun x hx => by rw [hc5] at hx; exact hx) (tf_fs_get hj) hd (hgo _ _ _ _ _ h5 hG hlo (tf_ok_cons (v := .inr (.inr k')) trivial (tf_ok_tl hst)) p e s m args below meth c H locs ls D cA ad A C hP hD hS hl)
set_option maxHeartbeats 1000000 in
theorem tf_put {ix ci j k : Nat} {x : Int} {ty : FieldType} {fs : List (Option (Option Nat))} {r : List tf_Av} (hst0 : st = .inl x :: .inr (.inr k) :: r) (hd : decode (tf_by y) pc = .ok (.putfield ix, 3)) (hf : tf_fld (tf_oc y) ix = some (ci, j)) (hy : tf_LAY[k]? = some (.inl (ci, fs))) (hj : fs[j]? = some none) (hp : tf_fpt ci j = some ty)
    (hn : narrow ty (.int (Int32.ofInt x)) = .int (Int32.ofInt x)) (hfit : fits ty (.int (Int32.ofInt x)) = true) (h : tf_AW l y sc Post (pc + 3) lo r (cs.1, false) (tf_up G k (j : Int) x)) : tf_AW l y sc Post pc lo st cs G := by
  subst hst0
  obtain ⟨C0, T0, N0, hc1, hc2, hc3, hc4, hc5⟩ := tf_fld_ok hf
  obtain ⟨ty0, q1, q2, q3, q4⟩ := tf_fpt_ok hp hc1
  intro hG hlo hst p e s m args below meth c H locs ls D cA ad A C hP hD hS hl
  obtain ⟨hx, hb, hr, hml, hown, hts, hnw, hlk, hK, hA, hA0, hlt, hex, hfl, hsc, hsw⟩ := id C
  have ha := tf_wld_get (ad := ad) (cA := cA) (G := G) hy
  refine va_put (v := .int (Int32.ofInt x)) (rest := r.map (tf_cv ad)) hx hb hts hc3 ty0 q1 q2 hown hK hP hD hS.1 k ha hc1 j hc2 (hts _ hc4) (fun x hx => by rw [hc5] at hx; exact hx) q3 q4 hn hfit (by simpa using (List.getElem?_eq_some_iff.mp hj).1) hd (fun H1 locs1 hP1 hD1 hS1 => ?_)
  have e1 : (tf_wld ad cA G).set k (ad k, .inr (ci, (fs.mapIdx (fun j f => tf_fv ad G k j f)).set j (.int (Int32.ofInt x)))) = tf_wld ad cA (tf_up G k (j : Int) x) := by
    rw [tf_fs_set hj, ← tf_wld_set (G := G) (G' := tf_up G k (j : Int) x) hy tf_up_ne]
    rfl
  rw [e1] at hP1 hD1
  exact h ⟨tf_okG_upf hy hG.1 (tf_ok_hd hst), hG.2⟩ hlo (tf_ok_tl (tf_ok_tl hst)) p e s m args below meth c H1 locs1 ls D cA ad A C hP1 hD1 ⟨hS1, fun q => by cases q⟩ hl
set_option maxHeartbeats 1000000 in
theorem tf_s_putfield {ix : Nat} (hi : tf_tab y pc = some (.putfield ix)) (hgo : ∀ pc lo st cs G, go pc lo st cs G → tf_AW l y sc Post pc lo st cs G) (h : tf_step l y sc Post (.putfield ix) pc lo st cs G go) : tf_AW l y sc Post pc lo st cs G := by
  obtain ⟨n, hd, hn⟩ := tf_tab_ok hi
  have hn : n = 3 := tf_ln (k := 2) hn rfl
  subst hn
  obtain ⟨x, r1, rfl, h0⟩ := tf_pI_ok h
  obtain ⟨k, r, rfl, h1⟩ := tf_pR_ok h0
  obtain ⟨ci, j, hf, h2⟩ := tf_hF_ok h1
  obtain ⟨ci', fs, hy, h3⟩ := tf_hO_ok h2
  obtain ⟨hc, h4⟩ := tf_bif h3
  have hc := Nat.eq_of_beq_eq_true hc
  subst hc
  rcases tf_hJ_ok h4 with ⟨hj, h5⟩ | ⟨k', hj, h5⟩
  · rcases tf_hP_ok h5 with ⟨hp, h6⟩ | ⟨hp, hz, h6⟩
    · exact tf_put rfl hd hf (tf_lay_ok hy) hj hp rfl rfl (hgo _ _ _ _ _ h6)
    · refine tf_put rfl hd hf (tf_lay_ok hy) hj hp ?_ ?_ (hgo _ _ _ _ _ h6)
      · rcases hz with rfl | rfl <;> rfl
      · rcases hz with rfl | rfl <;> rfl
  · exact h5.elim
set_option maxHeartbeats 1000000 in
theorem tf_s_ireturn (hi : tf_tab y pc = some (.ireturn))  (h : tf_step l y sc Post (.ireturn) pc lo st cs G go) : tf_AW l y sc Post pc lo st cs G := by
  obtain ⟨n, hd, hn⟩ := tf_tab_ok hi
  have hn : n = 1 := tf_ln (k := 0) hn rfl
  subst hn
  obtain ⟨x, r, rfl, h0⟩ := tf_pI_ok h
  obtain ⟨hpu, h1⟩ : tf_pu y = false ∧ tf_nil r (tf_rI y (Post (.inl (some (.inl x))) G) ((x = 0 ∨ x = 1) ∧ Post (.inl (some (.inl x))) G)) := by
    cases hp : tf_pu y with
    | true => rw [hp] at h0; exact h0.elim
    | false => rw [hp] at h0; exact ⟨rfl, h0⟩
  obtain ⟨rfl, h2⟩ := tf_nil_ok h1
  rcases tf_rI_ok h2 with ⟨hrt, h3⟩ | ⟨hrt, hz, h3⟩
  · skip
    intro hG hlo hst p e s m args below meth c H locs ls D cA ad A C hP hD hS hl
    obtain ⟨hx, hb, hr, hml, hown, hts, hnw, hlk, hK, hA, hA0, hlt, hex, hfl, hsc, hsw⟩ := id C
    exact tf_end (o := .returned (some (.int (Int32.ofInt x)))) hG h3 hP hS (F := A) (fun _ q => q) (fun q => by rw [hpu] at q; cases q) (fun t => ⟨rfl, tf_ok_hd hst⟩) (W.iret (Qc := fun _ _ o' t => o' = .returned (some (.int (Int32.ofInt x))) ∧ t.heap = H) hx hb (hr.trans hrt) (fun t ht _ => ⟨rfl, ht⟩) hS.1.2.2 hd hlk)
  · skip
    intro hG hlo hst p e s m args below meth c H locs ls D cA ad A C hP hD hS hl
    obtain ⟨hx, hb, hr, hml, hown, hts, hnw, hlk, hK, hA, hA0, hlt, hex, hfl, hsc, hsw⟩ := id C
    exact tf_end (o := .returned (some (.int (Int32.ofInt x)))) hG h3 hP hS (F := A) (fun _ q => q) (fun q => by rw [hpu] at q; cases q) (fun t => ⟨rfl, tf_ok_hd hst⟩) (W.zret (Qc := fun _ _ o' t => o' = .returned (some (.int (Int32.ofInt x))) ∧ t.heap = H) hx hb (hr.trans hrt) (by rcases hz with rfl | rfl <;> rfl) (fun t ht _ => ⟨rfl, ht⟩) hS.1.2.2 hd hlk)
set_option maxHeartbeats 1000000 in
theorem tf_s_lreturn (hi : tf_tab y pc = some (.lreturn))  (h : tf_step l y sc Post (.lreturn) pc lo st cs G go) : tf_AW l y sc Post pc lo st cs G := by
  obtain ⟨n, hd, hn⟩ := tf_tab_ok hi
  have hn : n = 1 := tf_ln (k := 0) hn rfl
  subst hn
  obtain ⟨x, r, rfl, h0⟩ := tf_pL_ok h
  obtain ⟨hpu, h1⟩ : tf_pu y = false ∧ tf_nil r (tf_rL y (Post (.inl (some (.inr (.inl x)))) G)) := by
    cases hp : tf_pu y with
    | true => rw [hp] at h0; exact h0.elim
    | false => rw [hp] at h0; exact ⟨rfl, h0⟩
  obtain ⟨rfl, h2⟩ := tf_nil_ok h1
  obtain ⟨hrt, h3⟩ := tf_rL_ok h2
  intro hG hlo hst p e s m args below meth c H locs ls D cA ad A C hP hD hS hl
  obtain ⟨hx, hb, hr, hml, hown, hts, hnw, hlk, hK, hA, hA0, hlt, hex, hfl, hsc, hsw⟩ := id C
  exact tf_end (o := .returned (some (.long (Int64.ofInt x)))) hG h3 hP hS (F := A) (fun _ q => q) (fun q => by rw [hpu] at q; cases q) (fun t => ⟨rfl, tf_ok_hd hst⟩) (W.lret (Qc := fun _ _ o' t => o' = .returned (some (.long (Int64.ofInt x))) ∧ t.heap = H) hx hb (hr.trans hrt) (fun t ht _ => ⟨rfl, ht⟩) hS.1.2.2 hd hlk)
set_option maxHeartbeats 1000000 in
theorem tf_s_return (hi : tf_tab y pc = some (.return_)) (h : tf_step l y sc Post (.return_) pc lo st cs G go) : tf_AW l y sc Post pc lo st cs G := by
  obtain ⟨n, hd, hn⟩ := tf_tab_ok hi
  have hn : n = 1 := tf_ln (k := 0) hn rfl
  subst hn
  obtain ⟨hpc, h1⟩ : (tf_pu y = true → cs.2 = true) ∧ tf_nil st (tf_rV y (Post (.inl none) G)) := by
    have h : (bif tf_pu y && !cs.2 then False else tf_nil st (tf_rV y (Post (.inl none) G))) := h
    cases hp : (tf_pu y && !cs.2) with
    | true => rw [hp] at h; exact h.elim
    | false =>
      rw [hp] at h
      refine ⟨fun q => ?_, h⟩
      rw [q] at hp
      cases hc : cs.2 with
      | true => rfl
      | false => rw [hc] at hp; cases hp
  obtain ⟨rfl, h2⟩ := tf_nil_ok h1
  obtain ⟨hrt, h3⟩ := tf_rV_ok h2
  intro hG hlo hst p e s m args below meth c H locs ls D cA ad A C hP hD hS hl
  obtain ⟨hx, hb, hr, hml, hown, hts, hnw, hlk, hK, hA, hA0, hlt, hex, hfl, hsc, hsw⟩ := id C
  by_cases hpu : tf_pu y = true
  · exact tf_end (o := .returned none) hG h3 hP hS (F := fun _ => False) (fun _ q => q.elim) (fun _ _ q => q) (fun t => rfl) (W.vret (Qc := fun _ _ o' t => o' = .returned none ∧ t.heap = H) hx hb (hr.trans hrt) (fun t ht _ => ⟨rfl, ht⟩) (fun q hq => by rw [hS.2 (hpc hpu)] at hq; cases hq) hd hlk)
  · exact tf_end (o := .returned none) hG h3 hP hS (F := A) (fun _ q => q) (fun q => absurd q hpu) (fun t => rfl) (W.vret (Qc := fun _ _ o' t => o' = .returned none ∧ t.heap = H) hx hb (hr.trans hrt) (fun t ht _ => ⟨rfl, ht⟩) hS.1.2.2 hd hlk)
end
