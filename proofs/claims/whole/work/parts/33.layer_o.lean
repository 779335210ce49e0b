-- LAYER O: the JDK's three
section
variable {l : Launch} {y : Nat} {sc : Option (Nat × (Int → Int))} {Post : tf_Out → tf_Sto → Prop} {pc : Nat} {lo : tf_Lo} {st : List tf_Av} {cs : tf_Cs} {G : tf_Sto} {go : Nat → tf_Lo → List tf_Av → tf_Cs → tf_Sto → Prop}
theorem tf_lt32 {x z : Int} (hx : tf_inI x) (hz : tf_inI z) : (Int32.ofInt x < Int32.ofInt z) ↔ x < z := by
  rw [Int32.lt_iff_toInt_lt, tf_ti hx, tf_ti hz]
theorem tf_lt64 {x z : Int} (hx : tf_inL x) (hz : tf_inL z) : (Int64.ofInt x < Int64.ofInt z) ↔ x < z := by
  rw [Int64.lt_iff_toInt_lt, tf_tl hx, tf_tl hz]
set_option maxHeartbeats 1000000 in
theorem tf_s_max {ix : Nat} (hd : decode (tf_by y) pc = .ok (.invokestatic ix, 3)) (hy : tf_inv (tf_oc y) ix = some 900) (hgo : ∀ pc lo st cs G, go pc lo st cs G → tf_AW l y sc Post pc lo st cs G)
    (h : tf_pI st fun z r => tf_pI r fun x r => bif Nat.ble (tf_cats r + 13) (tf_lc y) && Nat.ble 1 (tf_rk y) then go (pc + 3) lo (.inl (if x < z then z else x) :: r) cs G else False) : tf_AW l y sc Post pc lo st cs G := by
  obtain ⟨z, r0, rfl, hq1⟩ := tf_pI_ok h
  obtain ⟨x, r, rfl, hq2⟩ := tf_pI_ok hq1
  obtain ⟨h0, hq⟩ := tf_bif hq2
  rw [Bool.and_eq_true] at h0
  have h1 := Nat.le_of_ble_eq_true h0.1
  have h2 := Nat.le_of_ble_eq_true h0.2
  obtain ⟨i1, i2, i3, i4⟩ := tf_i900 hy
  intro hG hlo hst p e s m args below meth c H locs ls D cA ad A C hP hD hS hl
  obtain ⟨hx, hb, hr, hml, hown, hts, hnw, hlk, hK, hA, hA0, hlt, hex, hfl, hsc, hsw⟩ := id C
  have hzz : tf_inI z := tf_ok_hd hst
  have hxx : tf_inI x := tf_ok_hd (tf_ok_tl hst)
  have hrr := tf_ok_tl (tf_ok_tl hst)
  refine va_mmax hx hb (hml.trans hl.1.symm) hown (hts _ i1) (hts _ i2) (hts _ i3) (hts _ i4) h2 (by rw [tf_cats_ok]; exact h1) hG.2.1 hG.2.2 (x := Int32.ofInt x) (y := Int32.ofInt z) (rest := r.map (tf_cv ad)) hd ?_
  have hw := hgo _ _ _ _ _ hq hG hlo (fun v hv => by
    rcases List.mem_cons.mp hv with rfl | hv
    · show tf_inI _
      split <;> assumption
    · exact hrr v hv) p e s m args below meth c H locs ls D cA ad A C hP hD hS hl
  have he : (if Int32.ofInt x < Int32.ofInt z then Int32.ofInt z else Int32.ofInt x) = Int32.ofInt (if x < z then z else x) := by
    by_cases hc : x < z
    · rw [if_pos hc, if_pos ((tf_lt32 hxx hzz).mpr hc)]
    · rw [if_neg hc, if_neg (fun q => hc ((tf_lt32 hxx hzz).mp q))]
  rw [he]
  exact hw
set_option maxHeartbeats 1000000 in
theorem tf_s_minL {ix : Nat} (hd : decode (tf_by y) pc = .ok (.invokestatic ix, 3)) (hy : tf_inv (tf_oc y) ix = some 901) (hgo : ∀ pc lo st cs G, go pc lo st cs G → tf_AW l y sc Post pc lo st cs G)
    (h : tf_pL st fun z r => tf_pL r fun x r => bif Nat.ble (tf_cats r + 15) (tf_lc y) && Nat.ble 1 (tf_rk y) then go (pc + 3) lo (.inr (.inl (if z < x then z else x)) :: r) cs G else False) : tf_AW l y sc Post pc lo st cs G := by
  obtain ⟨z, r0, rfl, hq1⟩ := tf_pL_ok h
  obtain ⟨x, r, rfl, hq2⟩ := tf_pL_ok hq1
  obtain ⟨h0, hq⟩ := tf_bif hq2
  rw [Bool.and_eq_true] at h0
  have h1 := Nat.le_of_ble_eq_true h0.1
  have h2 := Nat.le_of_ble_eq_true h0.2
  obtain ⟨i1, i2, i3, i4⟩ := tf_i901 hy
  intro hG hlo hst p e s m args below meth c H locs ls D cA ad A C hP hD hS hl
  obtain ⟨hx, hb, hr, hml, hown, hts, hnw, hlk, hK, hA, hA0, hlt, hex, hfl, hsc, hsw⟩ := id C
  have hzz : tf_inL z := tf_ok_hd hst
  have hxx : tf_inL x := tf_ok_hd (tf_ok_tl hst)
  have hrr := tf_ok_tl (tf_ok_tl hst)
  refine va_mmin_long hx hb (hml.trans hl.1.symm) hown (hts _ i1) (hts _ i2) (hts _ i3) (hts _ i4) h2 (by rw [tf_cats_ok]; exact h1) hG.2.1 hG.2.2 (x := Int64.ofInt x) (y := Int64.ofInt z) (rest := r.map (tf_cv ad)) hd ?_
  have hw := hgo _ _ _ _ _ hq hG hlo (fun v hv => by
    rcases List.mem_cons.mp hv with rfl | hv
    · show tf_inL _
      split <;> assumption
    · exact hrr v hv) p e s m args below meth c H locs ls D cA ad A C hP hD hS hl
  have he : (if Int64.ofInt z < Int64.ofInt x then Int64.ofInt z else Int64.ofInt x) = Int64.ofInt (if z < x then z else x) := by
    by_cases hc : z < x
    · rw [if_pos hc, if_pos ((tf_lt64 hzz hxx).mpr hc)]
    · rw [if_neg hc, if_neg (fun q => hc ((tf_lt64 hzz hxx).mp q))]
  rw [he]
  exact hw
theorem tf_clamp {z : Int} (h : tf_inI z) (h0 : 0 ≤ z) : ¬ (Int32.ofInt z < 0) ∧ (Int32.ofInt z).toNatClampNeg = z.toNat := by
  refine ⟨?_, ?_⟩
  · rw [Int32.lt_iff_toInt_lt, tf_ti h]
    have : (0 : Int32).toInt = 0 := by decide
    omega
  · show (Int32.ofInt z).toInt.toNat = z.toNat
    rw [tf_ti h]
theorem tf_fits1 {z : Int} (h : tf_okE 1 z) : fits .byte (.int (Int32.ofInt z)) = true := by
  have h : -128 ≤ z ∧ z ≤ 127 := h
  have hz : tf_inI z := ⟨by omega, by omega⟩
  show (decide (-128 ≤ Int32.ofInt z) && decide (Int32.ofInt z ≤ 127)) = true
  rw [Bool.and_eq_true, decide_eq_true_eq, decide_eq_true_eq, Int32.le_iff_toInt_le, Int32.le_iff_toInt_le, tf_ti hz]
  have h1 : (-128 : Int32).toInt = -128 := by decide
  have h2 : (127 : Int32).toInt = 127 := by decide
  rw [h1, h2]
  exact h
theorem tf_cpy_ne {G : tf_Sto} {k0 k1 k' : Nat} {sp dp n : Int} (h : k' ≠ k1) : tf_cpy G k0 k1 sp dp n k' = G k' := by
  funext i
  unfold tf_cpy
  rw [if_neg (fun q => h q.1)]
theorem tf_cpy_wld {ad : Nat → Nat} {cA : Nat → ClassId} {G : tf_Sto} {k0 k1 N1 : Nat} (e1 : tf_lay k1 = some (.inr (1, N1))) {sp dp n : Int} (g1 : 0 ≤ sp) (g2 : 0 ≤ dp) (g3 : 0 ≤ n) :
    (tf_wld ad cA G).set k1 (ad k1, .inl (cA 1, N1, .inl (va_cpy (fun j => Int32.ofInt (G k0 (j : Int))) (fun j => Int32.ofInt (G k1 (j : Int))) sp.toNat dp.toNat n.toNat))) = tf_wld ad cA (tf_cpy G k0 k1 sp dp n) := by
  have h1 := tf_wld_set (ad := ad) (cA := cA) (G := G) (G' := tf_cpy G k0 k1 sp dp n) (tf_lay_ok e1) (fun k' hk' => tf_cpy_ne hk')
  refine Eq.trans ?_ h1
  refine congrArg (fun f => (tf_wld ad cA G).set k1 (ad k1, Sum.inl (cA 1, N1, Sum.inl f))) ?_
  funext j
  unfold va_cpy tf_cpy
  by_cases hc : dp.toNat ≤ j ∧ j < dp.toNat + n.toNat
  · rw [if_pos hc, if_pos ⟨rfl, by omega, by omega⟩]
    refine congrArg (fun z => Int32.ofInt (G k0 z)) ?_
    omega
  · rw [if_neg hc, if_neg (fun q => hc ⟨by omega, by omega⟩)]
set_option maxHeartbeats 2000000 in
theorem tf_s_copy {ix : Nat} (hd : decode (tf_by y) pc = .ok (.invokestatic ix, 3)) (hy : tf_inv (tf_oc y) ix = some 902) (hgo : ∀ pc lo st cs G, go pc lo st cs G → tf_AW l y sc Post pc lo st cs G)
    (h : tf_pI st fun n r => tf_pI r fun dp r => tf_pR r fun k1 r => tf_pI r fun sp r => tf_pR r fun k0 r => match tf_lay k0, tf_lay k1 with
          | some (.inr (1, N0)), some (.inr (1, N1)) => bif Nat.ble (tf_cats r + 40) (tf_lc y) && Nat.ble 1 (tf_rk y) then
              ((0 ≤ sp ∧ 0 ≤ dp ∧ 0 ≤ n ∧ sp + n ≤ (N0 : Int) ∧ dp + n ≤ (N1 : Int)) ∧ go (pc + 3) lo r (cs.1, false) (tf_cpy G k0 k1 sp dp n)) else False
          | _, _ => False) : tf_AW l y sc Post pc lo st cs G := by
  obtain ⟨n, r0, rfl, hq1⟩ := tf_pI_ok h
  obtain ⟨dp, r1, rfl, hq2⟩ := tf_pI_ok hq1
  obtain ⟨k1, r2, rfl, hq3⟩ := tf_pR_ok hq2
  obtain ⟨sp, r3, rfl, hq4⟩ := tf_pI_ok hq3
  obtain ⟨k0, r, rfl, hq5⟩ := tf_pR_ok hq4
  clear hq1 hq2 hq3 hq4 h
  split at hq5
  · rename_i N0 N1 e0 e1
    obtain ⟨h0, ⟨g1, g2, g3, g4, g5⟩, h⟩ := tf_bif hq5
    rw [Bool.and_eq_true] at h0
    have h1 := Nat.le_of_ble_eq_true h0.1
    have h2 := Nat.le_of_ble_eq_true h0.2
    obtain ⟨i1, i2, i3, i4⟩ := tf_i902 hy
    intro hG hlo hst p e s m args below meth c H locs ls D cA ad A C hP hD hS hl
    obtain ⟨hx, hb, hr, hml, hown, hts, hnw, hlk, hK, hA, hA0, hlt, hex, hfl, hsc, hsw⟩ := id C
    have hn : tf_inI n := tf_ok_hd hst
    have hdp : tf_inI dp := tf_ok_hd (tf_ok_tl hst)
    have hsp : tf_inI sp := tf_ok_hd (tf_ok_tl (tf_ok_tl (tf_ok_tl hst)))
    have hrr := tf_ok_tl (tf_ok_tl (tf_ok_tl (tf_ok_tl (tf_ok_tl hst))))
    obtain ⟨n1, n2⟩ := tf_clamp hn g3
    obtain ⟨d1, d2⟩ := tf_clamp hdp g2
    obtain ⟨s1, s2⟩ := tf_clamp hsp g1
    have a0 := tf_wld_get (ad := ad) (cA := cA) (G := G) (tf_lay_ok e0)
    have a1 := tf_wld_get (ad := ad) (cA := cA) (G := G) (tf_lay_ok e1)
    have okE : ∀ j, tf_okE 1 (G k0 j) := hG.1 k0 _ (tf_lay_ok e0)
    have okE1 : ∀ j, tf_okE 1 (G k1 j) := hG.1 k1 _ (tf_lay_ok e1)
    refine va_copyi hx hb (hml.trans hl.1.symm) hown (hts _ i1) (hts _ i2) (hts _ i3) (hts _ i4) hK hP hD hS.1 k0 k1 1 1 (ty := .byte) (a0 := ad k0) (a := ad k1) (c0 := cA 1) (c1 := cA 1) (n0 := N0) (n1 := N1)
      (f := fun j => Int32.ofInt (G k0 (j : Int))) (g := fun j => Int32.ofInt (G k1 (j : Int))) a0 a1 rfl rfl rfl (sp := Int32.ofInt sp) (dp := Int32.ofInt dp) (n := Int32.ofInt n) s1 d1 n1 (by rw [s2, n2]; omega) (by rw [d2, n2]; omega) ?_ h2 ?_ hd ?_
    · intro i _
      exact tf_fits1 (okE _)
    · have h5 : nativeFrameWords "java/lang/System" "arraycopy" 5 + 11 ≤ 40 := by decide +kernel
      rw [tf_cats_ok]
      show tf_cats r + (nativeFrameWords "java/lang/System" "arraycopy" 5 + 11) ≤ tf_lc y
      exact Nat.le_trans (Nat.add_le_add_left h5 _) h1
    · intro H1 locs1 hP1 hD1 hS1
      have hE := tf_cpy_wld (ad := ad) (cA := cA) (G := G) e1 (k0 := k0) (sp := sp) (dp := dp) (n := n) g1 g2 g3
      rw [s2, d2, n2] at hP1 hD1
      rw [hE] at hP1 hD1
      refine hgo _ _ _ _ _ h ⟨?_, hG.2⟩ hlo hrr p e s m args below meth c H1 locs1 ls D cA ad A C hP1 hD1 ⟨hS1, fun q => by cases q⟩ hl
      intro k e he
      have h9 := hG.1 k e he
      by_cases hk : k = k1
      · subst hk
        rw [tf_lay_ok e1] at he
        cases he
        intro j
        show tf_okE 1 (tf_cpy G k0 k sp dp n k j)
        unfold tf_cpy
        split
        · exact okE _
        · exact okE1 _
      · have hG' : tf_cpy G k0 k1 sp dp n k = G k := tf_cpy_ne hk
        rw [hG']
        exact h9
  · exact hq5.elim
theorem tf_s_invokestatic {ix : Nat} (hi : tf_tab y pc = some (.invokestatic ix)) (hgo : ∀ pc lo st cs G, go pc lo st cs G → tf_AW l y sc Post pc lo st cs G) (h : tf_step l y sc Post (.invokestatic ix) pc lo st cs G go) : tf_AW l y sc Post pc lo st cs G := by
  obtain ⟨n, hd, hn⟩ := tf_tab_ok hi
  have hn : n = 3 := tf_ln (k := 2) hn rfl
  subst hn
  unfold tf_step at h
  simp only at h
  split at h
  · rename_i hy
    exact tf_s_max hd hy hgo h
  · rename_i hy
    exact tf_s_minL hd hy hgo h
  · rename_i hy
    exact tf_s_copy hd hy hgo h
  · rename_i hy
    exact tf_s_static1 hd hy hgo h
  · exact h.elim
end
