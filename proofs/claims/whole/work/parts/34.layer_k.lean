-- LAYER K: switches, the JDK's own three, one instruction, a stretch, a call's contract
section
variable {l : Launch} {y : Nat} {sc : Option (Nat × (Int → Int))} {Post : tf_Out → tf_Sto → Prop} {pc : Nat} {lo : tf_Lo} {st : List tf_Av} {cs : tf_Cs} {G : tf_Sto} {go : Nat → tf_Lo → List tf_Av → tf_Cs → tf_Sto → Prop}
theorem tf_tsw_ok {pc : Nat} {x : Int} {k : Nat → Prop} : ∀ {offs : List Int} {v : Int}, tf_tsw pc x v offs k → ∀ (j : Nat) (o : Int), offs[j]? = some o → x = v + j → k ((pc : Int) + o).toNat := by
  intro offs
  induction offs with
  | nil => intro v h j o hj; simp at hj
  | cons a r ih =>
    intro v h j o hj hx
    cases j with
    | zero =>
      have : a = o := by simpa using hj
      subst this
      exact h.1 (by simpa using hx)
    | succ j => exact ih h.2 j o (by simpa using hj) (by omega)
set_option maxHeartbeats 1000000 in
theorem tf_s_tableswitch {d lw hi : Int} {offs : Array Int} (hi0 : tf_tab y pc = some (.tableswitch d lw hi offs)) (hgo : ∀ pc lo st cs G, go pc lo st cs G → tf_AW l y sc Post pc lo st cs G) (h : tf_step l y sc Post (.tableswitch d lw hi offs) pc lo st cs G go) : tf_AW l y sc Post pc lo st cs G := by
  obtain ⟨n, hd, -⟩ := tf_tab_ok hi0
  have h : tf_pI st fun x r => bif tf_back pc d && offs.toList.all (tf_back pc) && decide (hi = lw + offs.size - 1) then
      ((x < lw ∨ hi < x → go (tf_tgt pc d) lo r cs G) ∧ tf_tsw pc x lw offs.toList (fun t => go t lo r cs G)) else False := h
  obtain ⟨x, r, rfl, h⟩ := tf_pI_ok h
  obtain ⟨hb0, h⟩ := tf_bif h
  rw [Bool.and_eq_true, Bool.and_eq_true] at hb0
  obtain ⟨⟨b1, b2⟩, b3⟩ := hb0
  have b3 := of_decide_eq_true b3
  intro hG hlo hst p e s m args below meth c H locs ls D cA ad A C hP hD hS hl
  obtain ⟨hx, hb, hr, hml, hown, hts, hnw, hlk, hK, hA, hA0, hlt, hex, hfl, hsc, hsw⟩ := id C
  have hxx : tf_inI x := tf_ok_hd hst
  by_cases hout : x < lw ∨ hi < x
  · exact lv_tableOut (x := Int32.ofInt x) (rest := r.map (tf_cv ad)) hx hb hd (by rw [tf_ti hxx]; exact hout) (tf_tgt_ok b1) (hgo _ _ _ _ _ (h.1 hout) hG hlo (tf_ok_tl hst) p e s m args below meth c H locs ls D cA ad A C hP hD hS hl)
  · have h1 : lw ≤ x := by omega
    have h2 : x ≤ hi := by omega
    have hj : (x - lw).toNat < offs.size := by omega
    have ho : offs[(x - lw).toNat]? = some offs[(x - lw).toNat] := Array.getElem?_eq_getElem hj
    have ho2 : offs.toList[(x - lw).toNat]? = some offs[(x - lw).toNat] := by rw [Array.getElem?_toList]; exact ho
    have hbk : tf_back pc offs[(x - lw).toNat] = true := List.all_eq_true.mp b2 _ (List.mem_of_getElem? ho2)
    have hk := tf_tsw_ok h.2 (x - lw).toNat _ ho2 (by omega)
    exact lv_tableIn (x := Int32.ofInt x) (rest := r.map (tf_cv ad)) hx hb hd (by rw [tf_ti hxx]; omega) (by rw [tf_ti hxx]; omega) (by rw [tf_ti hxx]; exact ho) (tf_tgt_ok hbk) (hgo _ _ _ _ _ hk hG hlo (tf_ok_tl hst) p e s m args below meth c H locs ls D cA ad A C hP hD hS hl)
set_option maxHeartbeats 2000000 in
/-- ONE INSTRUCTION -/
theorem tf_step_ok {i : Instr} (hi : tf_tab y pc = some i) (hgo : ∀ pc lo st cs G, go pc lo st cs G → tf_AW l y sc Post pc lo st cs G) (h : tf_step l y sc Post i pc lo st cs G go) : tf_AW l y sc Post pc lo st cs G := by
  cases i with
  | iconst z => exact tf_s_iconst hi hgo h
  | bipush z => exact tf_s_bipush hi hgo h
  | sipush z => exact tf_s_sipush hi hgo h
  | lconst z => exact tf_s_lconst hi hgo h
  | ldc ix => exact tf_s_ldc hi hgo h
  | ldc2_w ix => exact tf_s_ldc2 hi hgo h
  | iload_n k => exact tf_s_iload_n hi hgo h
  | iload k => exact tf_s_iload hi hgo h
  | lload_n k => exact tf_s_lload_n hi hgo h
  | lload k => exact tf_s_lload hi hgo h
  | aload_n k => exact tf_s_aload_n hi hgo h
  | aload k => exact tf_s_aload hi hgo h
  | istore_n k => exact tf_s_istore_n hi hgo h
  | istore k => exact tf_s_istore hi hgo h
  | lstore_n k => exact tf_s_lstore_n hi hgo h
  | lstore k => exact tf_s_lstore hi hgo h
  | astore_n k => exact tf_s_astore_n hi hgo h
  | astore k => exact tf_s_astore hi hgo h
  | iinc k z => exact tf_s_iinc hi hgo h
  | iadd => exact tf_s_iadd hi hgo h
  | isub => exact tf_s_isub hi hgo h
  | imul => exact tf_s_imul hi hgo h
  | idiv => exact tf_s_idiv hi hgo h
  | irem => exact tf_s_irem hi hgo h
  | ineg => exact tf_s_ineg hi hgo h
  | iand => exact tf_s_iand hi hgo h
  | ior => exact tf_s_ior hi hgo h
  | ixor => exact tf_s_ixor hi hgo h
  | ishl => exact tf_s_ishl hi hgo h
  | ishr => exact tf_s_ishr hi hgo h
  | iushr => exact tf_s_iushr hi hgo h
  | i2l => exact tf_s_i2l hi hgo h
  | i2b => exact tf_s_i2b hi hgo h
  | ladd => exact tf_s_ladd hi hgo h
  | land => exact tf_s_land hi hgo h
  | lor => exact tf_s_lor hi hgo h
  | lshl => exact tf_s_lshl hi hgo h
  | lsub => exact tf_s_lsub hi hgo h
  | lneg => exact tf_s_lneg hi hgo h
  | lushr => exact tf_s_lushr hi hgo h
  | l2i => exact tf_s_l2i hi hgo h
  | lcmp => exact tf_s_lcmp hi hgo h
  | dup => exact tf_s_dup hi hgo h
  | pop => exact tf_s_pop hi hgo h
  | dup2 => exact tf_s_dup2 hi hgo h
  | ifCond cd off => exact tf_s_ifc hi hgo h
  | if_icmp cd off => exact tf_s_icmp hi hgo h
  | goto off => exact tf_s_goto hi hgo h
  | tableswitch d lw hi0 offs => exact tf_s_tableswitch hi hgo h
  | arraylength => exact tf_s_arraylength hi hgo h
  | iaload => exact tf_s_iaload hi hgo h
  | baload => exact tf_s_baload hi hgo h
  | laload => exact tf_s_laload hi hgo h
  | iastore => exact tf_s_iastore hi hgo h
  | bastore => exact tf_s_bastore hi hgo h
  | lastore => exact tf_s_lastore hi hgo h
  | getfield ix => exact tf_s_getfield hi hgo h
  | putfield ix => exact tf_s_putfield hi hgo h
  | invokevirtual ix => exact tf_s_invokevirtual hi hgo h
  | invokestatic ix => exact tf_s_invokestatic hi hgo h
  | new ix => exact tf_s_new hi h
  | ireturn => exact tf_s_ireturn hi h
  | lreturn => exact tf_s_lreturn hi h
  | return_ => exact tf_s_return hi h
  | _ => exact False.elim h
theorem tf_pick_ok {lo : tf_Lo} : ∀ {is : List Nat} {q : Nat × tf_Av}, q ∈ tf_pick lo is → q ∈ lo := by
  intro is
  induction is with
  | nil => intro q h; cases h
  | cons i r ih =>
    intro q h
    unfold tf_pick at h
    split at h
    · rename_i v hv
      rcases List.mem_cons.mp h with h1 | h1
      · rw [h1]; exact tf_get_ok hv
      · exact ih h1
    · exact ih h
theorem tf_AW.pick {is : List Nat} (h : tf_AW l y sc Post pc (tf_pick lo is) st cs G) : tf_AW l y sc Post pc lo st cs G := by
  intro hG hlo hst p e s m args below meth c H locs ls D cA ad A C hP hD hS hl
  refine h hG (fun q hq => hlo q (tf_pick_ok hq)) hst p e s m args below meth c H locs ls D cA ad A C hP hD hS ⟨hl.1, hl.2.1, fun q hq => ?_⟩
  obtain ⟨q0, h1, h2⟩ := List.mem_map.mp hq
  exact hl.2.2 q (List.mem_map.mpr ⟨q0, tf_pick_ok h1, h2⟩)
/-- A STRETCH -/
theorem tf_vc_ok {cuts : List (Nat × List Nat)} {f : Nat} (h : tf_vc l y sc Post cuts f pc lo st cs G) : tf_AW l y sc Post pc lo st cs G := by
  induction f generalizing pc lo st cs G with
  | zero => exact h.elim
  | succ f ih =>
    unfold tf_vc at h
    split at h
    · exact h.elim
    · rename_i i hi
      refine tf_step_ok hi ?_ h
      intro pc lo st cs G h
      split at h
      · exact tf_AW.pick h
      · exact ih h
end
def tf_args (i : Nat) (as : List tf_Av) : tf_Lo := match as with
  | [] => []
  | v :: r => (i, v) :: tf_args (bif tf_is2 v then i + 2 else i + 1) r
theorem tf_args_ok {ad : Nat → Nat} : ∀ (as : List tf_Av) (i : Nat), lv_args i (as.map (tf_cv ad)) = (tf_args i as).map (tf_cp ad) := by
  intro as
  induction as with
  | nil => intro i; rfl
  | cons v r ih =>
    intro i
    show (i, tf_cv ad v) :: lv_args (if (tf_cv ad v).category = 2 then i + 2 else i + 1) (r.map (tf_cv ad)) = (i, tf_cv ad v) :: (tf_args (bif tf_is2 v then i + 2 else i + 1) r).map (tf_cp ad)
    congr 1
    obtain z | z | k := v <;> exact ih _
theorem tf_args_mem : ∀ (as : List tf_Av) (i : Nat) (q : Nat × tf_Av), q ∈ tf_args i as → q.2 ∈ as := by
  intro as
  induction as with
  | nil => intro i q h; cases h
  | cons v r ih =>
    intro i q h
    rcases List.mem_cons.mp h with h1 | h1
    · rw [h1]; exact List.mem_cons_self
    · exact List.mem_cons_of_mem _ (ih _ q h1)
theorem tf_sl_len {ad : Nat → Nat} (as : List tf_Av) : (lg_sl (as.map (tf_cv ad))).length = tf_cats as := by
  induction as with
  | nil => rfl
  | cons v r ih =>
    obtain z | z | k := v
    · show (lg_sl (r.map (tf_cv ad))).length + 1 = 1 + tf_cats r
      omega
    · show (lg_sl (r.map (tf_cv ad))).length + 1 + 1 = 2 + tf_cats r
      omega
    · show (lg_sl (r.map (tf_cv ad))).length + 1 = 1 + tf_cats r
      omega
set_option maxHeartbeats 2000000 in
/-- A CALL'S CONTRACT out of its walk -/
theorem tf_run {l : Launch} {y : Nat} {as : List tf_Av} {G : tf_Sto} {Post : tf_Out → tf_Sto → Prop} (hy : tf_ok y = true) (hn : Nat.ble (tf_cats as) (tf_nl y) = true) (h : tf_AW l y none Post 0 (tf_args 0 as) [] (none, tf_cz0 y) G) : tf_RUN l y as G Post := by
  intro hfl hG has D cA ad
  obtain ⟨y1, y2, y3, y4, y5⟩ := tf_y_ok hy
  refine MetFree.of_bodySF (code := tf_by y) (maxLocals := tf_nl y) (ret := tf_rt y) (tf_y_plain hy) ?_ ?_
  · intro args s m hpre hnm
    obtain ⟨meth, c, h1, h2, h3, h4, h5, h6, -, -⟩ := tf_cw_ok (atoms_spec (ws := tf_cw y :: tf_gt) hpre _ List.mem_cons_self) hnm
    exact ⟨meth, c, h1, h2, h3, h4, h5, h6⟩
  · intro p e s m args below meth c s₁ B hml hv _
    obtain ⟨rfl, hK, hP, hD, hnw, hsw⟩ := hv
    have hts0 := atoms_spec (ws := tf_cw y :: tf_gt) B.pre
    have hts : ∀ w ∈ tf_gt, w.before (as.map (tf_cv ad)).toArray s = true := fun w hw => hts0 w (List.mem_cons_of_mem _ hw)
    obtain ⟨meth', c', z1, z2, z3, z4, z5, z6, z7, -⟩ := tf_cw_ok (hts0 _ List.mem_cons_self) B.named
    have X := Stand.of_body B
    cases X.method.symm.trans z1
    cases X.code.symm.trans z2
    have hown : s.vm.findClass (tf_cn (tf_oc y)) = some m.cls := by
      have := findClass_of_methodNamed B.named
      rwa [← tf_y_cls hy] at this
    have hh0 : s₁.heap = s.heap := by rw [B.state]; rfl
    have hle := Nat.le_of_ble_eq_true hn
    have hl := lv_entry (as.map (tf_cv ad)) (n := tf_nl y) (by rw [tf_sl_len]; exact hle)
    have hw := h ⟨hG, Nat.zero_le _, Nat.zero_le _⟩ (fun q hq => has q.2 (tf_args_mem as 0 q hq)) (fun v hv => by cases hv) p e s m (as.map (tf_cv ad)).toArray below meth c s.heap [] _ D cA ad (va_A (tf_wld ad cA G) s.heap.size)
      ⟨B.exec, z3, z5, z4, hown, hts, hnw, z6, hK, fun q hq => Or.inr hq, fun q hq cell hc => tf_wld_st hP hq hc, (fun _ k hk => by
        have h1 := tf_wld_get (ad := ad) (cA := cA) (G := G) (List.getElem?_eq_getElem (show k < tf_LAY.length from hk))
        exact (hP _ _ h1).lt), z7, hfl, fun L xs hs => (by cases hs), hsw⟩ hP (hD.self (sz := s.heap.size)) ⟨va_S.rf, fun _ => rfl⟩ (by rw [← tf_args_ok]; exact hl)
    obtain ⟨t, a1, o, b1, b2, b3⟩ := hw s₁ hh0 X
    rw [lg_entry_eq]
    exact ⟨t, o, a1, b1, b2, b3⟩
