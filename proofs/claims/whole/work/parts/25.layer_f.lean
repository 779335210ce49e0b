-- LAYER F: arrays, fields, returns
theorem tf_nb {x : Int} (h : -128 ≤ x ∧ x ≤ 127) : vp_nar .byte (Int32.ofInt x) = Int32.ofInt x := by
  rw [vp_nar_byte]
  exact tf_i2b h
theorem tf_nz {x : Int} (h : x = 0 ∨ x = 1) : vp_nar .boolean (Int32.ofInt x) = Int32.ofInt x := by
  rcases h with rfl | rfl <;> rfl
theorem tf_lE {t : Nat} {z : Int} (ht : t ≠ 3) (h : tf_okE t z) : tf_inI z := by
  unfold tf_okE at h
  rw [if_neg ht] at h
  split at h
  · exact ⟨by omega, by omega⟩
  · split at h
    · rcases h with rfl | rfl <;> exact ⟨by omega, by omega⟩
    · exact h
theorem tf_aI {ad : Nat → Nat} {cA : Nat → ClassId} {G : tf_Sto} {k t N : Nat} (ht : t ≠ 3) : tf_cell ad cA G k (.inr (t, N)) = (ad k, .inl (cA t, N, .inl (fun j => Int32.ofInt (G k (j : Int))))) := by
  simp only [tf_cell, tf_ar, if_neg ht]
theorem tf_aL {ad : Nat → Nat} {cA : Nat → ClassId} {G : tf_Sto} {k N : Nat} : tf_cell ad cA G k (.inr (3, N)) = (ad k, .inl (cA 3, N, .inr (.inl (fun j => Int64.ofInt (G k (j : Int)))))) := rfl
theorem tf_upI {G : tf_Sto} {k : Nat} {i x : Int} (hi : tf_inI i) (h0 : 0 ≤ i) : upd (fun j => Int32.ofInt (G k (j : Int))) (Int32.ofInt i).toNatClampNeg (Int32.ofInt x) = fun (j : Nat) => Int32.ofInt (tf_up G k i x k (j : Int)) := by
  funext j
  rw [tf_clp hi]
  unfold upd tf_up
  by_cases h : j = i.toNat
  · rw [if_pos h, if_pos ⟨rfl, by omega⟩]
  · rw [if_neg h, if_neg (fun q => h (by have := q.2; omega))]
theorem tf_upL {G : tf_Sto} {k : Nat} {i x : Int} (hi : tf_inI i) (h0 : 0 ≤ i) : vp_updL (fun j => Int64.ofInt (G k (j : Int))) (Int32.ofInt i).toNatClampNeg (Int64.ofInt x) = fun (j : Nat) => Int64.ofInt (tf_up G k i x k (j : Int)) := by
  funext j
  rw [tf_clp hi]
  unfold vp_updL tf_up
  by_cases h : j = i.toNat
  · rw [if_pos h, if_pos ⟨rfl, by omega⟩]
  · rw [if_neg h, if_neg (fun q => h (by have := q.2; omega))]
theorem tf_up_ne {G : tf_Sto} {k : Nat} {i x : Int} : ∀ k', k' ≠ k → tf_up G k i x k' = G k' := fun _ h => tf_up_kf G i x h
theorem tf_okG_up {G : tf_Sto} {k t N : Nat} {i x : Int} (hk : tf_LAY[k]? = some (.inr (t, N))) (hG : tf_okG G) (hx : tf_okE t x) : tf_okG (tf_up G k i x) := by
  intro k' e he
  have h1 := hG k' e he
  by_cases hkk : k' = k
  · subst hkk
    rw [hk] at he
    cases he
    intro j
    show tf_okE t (tf_up G k' i x k' j)
    by_cases hj : j = i
    · rw [hj, tf_up_s]; exact hx
    · rw [tf_up_i G k' x hj]; exact h1 j
  · obtain o | ⟨t', N'⟩ := e
    · intro j
      rw [tf_up_k G i j x hkk]; exact h1 j
    · intro j
      rw [tf_up_k G i j x hkk]; exact h1 j
theorem tf_okG_upf {G : tf_Sto} {k : Nat} {o : Nat × List (Option (Option Nat))} {i x : Int} (hk : tf_LAY[k]? = some (.inl o)) (hG : tf_okG G) (hx : tf_inI x) : tf_okG (tf_up G k i x) := by
  intro k' e he
  have h1 := hG k' e he
  by_cases hkk : k' = k
  · subst hkk
    rw [hk] at he
    cases he
    intro j
    by_cases hj : j = i
    · rw [hj, tf_up_s]; exact hx
    · rw [tf_up_i G k' x hj]; exact h1 j
  · obtain o | ⟨t', N'⟩ := e
    · intro j
      rw [tf_up_k G i j x hkk]; exact h1 j
    · intro j
      rw [tf_up_k G i j x hkk]; exact h1 j
section
variable {l : Launch} {y : Nat} {sc : Option (Nat × (Int → Int))} {Post : tf_Out → tf_Sto → Prop} {pc : Nat} {lo : tf_Lo} {st : List tf_Av} {cs : tf_Cs} {G : tf_Sto} {go : Nat → tf_Lo → List tf_Av → tf_Cs → tf_Sto → Prop}
/-- an int, byte or boolean out of an array -/
theorem tf_ld {i : Int} {k t N : Nat} {r : List tf_Av} (hst : st = .inl i :: .inr (.inr k) :: r) (hk : tf_LAY[k]? = some (.inr (t, N))) (ht : t ≠ 3) (hb0 : 0 ≤ i ∧ i < (N : Int))
    (hrow : ∀ {p : Program} {e : Env} {R : Room} {s : State} {m : MethodId} {args : Array Value} {below : List Frame} {meth : Method} {c : Code} {H : Heap} {locs : List Loc} {cells slots : Nat} {Q : State → Prop} {ls : Array Slot} {rest : List Value} {D : va_G} {cA : Nat → ClassId} {ws : va_W} {a : Nat} {f : Nat → Int32} {j : Int32},
      p.tables.exec = Jvm.exec → c.code = tf_by y → va_K D tf_cls (tf_tys cA) s → va_P D tf_cls ws H → ws[k]? = some (a, .inl (cA t, N, .inl f)) → vp_in j N →
      W p l e R s m args below meth c H locs cells slots Q (F0 m (pc + 1) ls (.int (f j.toNatClampNeg) :: rest)) → W p l e R s m args below meth c H locs cells slots Q (F0 m pc ls (.int j :: .ref a :: rest)))
    (h : tf_AW l y sc Post (pc + 1) lo (.inl (G k i) :: r) cs G) : tf_AW l y sc Post pc lo st cs G := by
  subst hst
  intro hG hlo hst p e s m args below meth c H locs ls D cA ad A C hP hD hS hl
  obtain ⟨hx, hb, hr, hml, hown, hts, hnw, hlk, hK, hA, hA0, hlt, hex, hfl, hsc, hsw⟩ := id C
  have hi : tf_inI i := tf_ok_hd hst
  have hv : tf_inI (G k i) := tf_lE ht (hG.1 k _ hk i)
  have ha := tf_wld_get (ad := ad) (cA := cA) (G := G) hk
  rw [tf_aI ht] at ha
  refine hrow (rest := r.map (tf_cv ad)) hx hb hK hP ha (tf_in hi hb0.1 hb0.2) ?_
  have e1 : (((Int32.ofInt i).toNatClampNeg : Nat) : Int) = i := by rw [tf_clp hi, Int.toNat_of_nonneg hb0.1]
  rw [e1]
  exact h hG hlo (tf_ok_cons (v := .inl (G k i)) hv (tf_ok_tl (tf_ok_tl hst))) p e s m args below meth c H locs ls D cA ad A C hP hD hS hl
theorem tf_lds {i : Int} {L : Nat} {xs : Int → Int} {r : List tf_Av} (hst : st = .inl i :: .inr (.inr 9999) :: r) (hs : sc = some (L, xs)) (hb0 : 0 ≤ i ∧ i < (L : Int)) (hd : decode (tf_by y) pc = .ok (.iaload, 1))
    (h : tf_AW l y sc Post (pc + 1) lo (.inl (xs i) :: r) cs G) : tf_AW l y sc Post pc lo st cs G := by
  subst hst
  intro hG hlo hst p e s m args below meth c H locs ls D cA ad A C hP hD hS hl
  obtain ⟨hx, hb, hr, hml, hown, hts, hnw, hlk, hK, hA, hA0, hlt, hex, hfl, hsc, hsw⟩ := id C
  have hi : tf_inI i := tf_ok_hd hst
  obtain ⟨h1, h2, h3, h4, h5⟩ := hsc L xs hs
  refine va_sld (rest := r.map (tf_cv ad)) hx hb h3 h4 h5 hS.1 (tf_in hi hb0.1 hb0.2) hd ?_
  have e1 : (((Int32.ofInt i).toNatClampNeg : Nat) : Int) = i := by rw [tf_clp hi, Int.toNat_of_nonneg hb0.1]
  rw [e1]
  exact h hG hlo (tf_ok_cons (v := .inl (xs i)) (h2 i) (tf_ok_tl (tf_ok_tl hst))) p e s m args below meth c H locs ls D cA ad A C hP hD hS hl
theorem tf_ldl {i : Int} {k N : Nat} {r : List tf_Av} (hst : st = .inl i :: .inr (.inr k) :: r) (hk : tf_LAY[k]? = some (.inr (3, N))) (hb0 : 0 ≤ i ∧ i < (N : Int)) (hd : decode (tf_by y) pc = .ok (.laload, 1))
    (h : tf_AW l y sc Post (pc + 1) lo (.inr (.inl (G k i)) :: r) cs G) : tf_AW l y sc Post pc lo st cs G := by
  subst hst
  intro hG hlo hst p e s m args below meth c H locs ls D cA ad A C hP hD hS hl
  obtain ⟨hx, hb, hr, hml, hown, hts, hnw, hlk, hK, hA, hA0, hlt, hex, hfl, hsc, hsw⟩ := id C
  have hi : tf_inI i := tf_ok_hd hst
  have hv : tf_inL (G k i) := hG.1 k _ hk i
  have ha := tf_wld_get (ad := ad) (cA := cA) (G := G) hk
  rw [tf_aL] at ha
  refine va_lald (rest := r.map (tf_cv ad)) hx hb hK hP k 3 ha rfl (tf_in hi hb0.1 hb0.2) hd ?_
  have e1 : (((Int32.ofInt i).toNatClampNeg : Nat) : Int) = i := by rw [tf_clp hi, Int.toNat_of_nonneg hb0.1]
  rw [e1]
  exact h hG hlo (tf_ok_cons (v := .inr (.inl (G k i))) hv (tf_ok_tl (tf_ok_tl hst))) p e s m args below meth c H locs ls D cA ad A C hP hD hS hl
theorem tf_stI {i x : Int} {k t N : Nat} {r : List tf_Av} (hst : st = .inl x :: .inl i :: .inr (.inr k) :: r) (hk : tf_LAY[k]? = some (.inr (t, N))) (ht : t ≠ 3) (hb0 : 0 ≤ i ∧ i < (N : Int)) (hxE : tf_inI x → tf_okE t x)
    (hrow : ∀ {p : Program} {e : Env} {R : Room} {s : State} {m : MethodId} {args : Array Value} {below : List Frame} {meth : Method} {c : Code} {H : Heap} {locs : List Loc} {cells slots : Nat} {Q : State → Prop} {ls : Array Slot} {rest : List Value} {D : va_G} {cA : Nat → ClassId} {A : Nat → Prop} {H0 : Heap} {ws : va_W} {a : Nat} {f : Nat → Int32} {j : Int32},
      p.tables.exec = Jvm.exec → c.code = tf_by y → va_K D tf_cls (tf_tys cA) s → va_P D tf_cls ws H → va_D A ws → va_S A H0 H locs → ws[k]? = some (a, .inl (cA t, N, .inl f)) → vp_in j N →
      (∀ (H1 : Heap) (locs1 : List Loc), va_P D tf_cls (ws.set k (a, .inl (cA t, N, .inl (upd f j.toNatClampNeg (Int32.ofInt x))))) H1 → va_D A (ws.set k (a, .inl (cA t, N, .inl (upd f j.toNatClampNeg (Int32.ofInt x))))) → va_S A H0 H1 locs1 → W p l e R s m args below meth c H1 locs1 cells slots Q (F0 m (pc + 1) ls rest)) →
      W p l e R s m args below meth c H locs cells slots Q (F0 m pc ls (.int (Int32.ofInt x) :: .int j :: .ref a :: rest)))
    (h : tf_AW l y sc Post (pc + 1) lo r (cs.1, false) (tf_up G k i x)) : tf_AW l y sc Post pc lo st cs G := by
  subst hst
  intro hG hlo hst p e s m args below meth c H locs ls D cA ad A C hP hD hS hl
  obtain ⟨hx, hb, hr, hml, hown, hts, hnw, hlk, hK, hA, hA0, hlt, hex, hfl, hsc, hsw⟩ := id C
  have hi : tf_inI i := tf_ok_hd (tf_ok_tl hst)
  have hxx : tf_inI x := tf_ok_hd hst
  have ha := tf_wld_get (ad := ad) (cA := cA) (G := G) hk
  rw [tf_aI ht] at ha
  refine hrow (rest := r.map (tf_cv ad)) hx hb hK hP hD hS.1 ha (tf_in hi hb0.1 hb0.2) (fun H1 locs1 hP1 hD1 hS1 => ?_)
  have e1 : (tf_wld ad cA G).set k (ad k, .inl (cA t, N, .inl (upd (fun j => Int32.ofInt (G k (j : Int))) (Int32.ofInt i).toNatClampNeg (Int32.ofInt x)))) = tf_wld ad cA (tf_up G k i x) := by
    rw [tf_upI hi hb0.1, ← tf_wld_set (G := G) (G' := tf_up G k i x) hk tf_up_ne, tf_aI ht]
  rw [e1] at hP1 hD1
  exact h ⟨tf_okG_up hk hG.1 (hxE hxx), hG.2⟩ hlo (tf_ok_tl (tf_ok_tl (tf_ok_tl hst))) p e s m args below meth c H1 locs1 ls D cA ad A C hP1 hD1 ⟨hS1, fun q => by cases q⟩ hl
theorem tf_stL {i x : Int} {k N : Nat} {r : List tf_Av} (hst : st = .inr (.inl x) :: .inl i :: .inr (.inr k) :: r) (hk : tf_LAY[k]? = some (.inr (3, N))) (hb0 : 0 ≤ i ∧ i < (N : Int)) (hd : decode (tf_by y) pc = .ok (.lastore, 1))
    (h : tf_AW l y sc Post (pc + 1) lo r (cs.1, false) (tf_up G k i x)) : tf_AW l y sc Post pc lo st cs G := by
  subst hst
  intro hG hlo hst p e s m args below meth c H locs ls D cA ad A C hP hD hS hl
  obtain ⟨hx, hb, hr, hml, hown, hts, hnw, hlk, hK, hA, hA0, hlt, hex, hfl, hsc, hsw⟩ := id C
  have hi : tf_inI i := tf_ok_hd (tf_ok_tl hst)
  have hxx : tf_inL x := tf_ok_hd hst
  have ha := tf_wld_get (ad := ad) (cA := cA) (G := G) hk
  rw [tf_aL] at ha
  refine va_last (x := Int64.ofInt x) (i := Int32.ofInt i) (rest := r.map (tf_cv ad)) hx hb hK hP hD hS.1 k 3 ha rfl (tf_in hi hb0.1 hb0.2) hd (fun H1 locs1 hP1 hD1 hS1 => ?_)
  have e1 : (tf_wld ad cA G).set k (ad k, .inl (cA 3, N, .inr (.inl (vp_updL (fun j => Int64.ofInt (G k (j : Int))) (Int32.ofInt i).toNatClampNeg (Int64.ofInt x))))) = tf_wld ad cA (tf_up G k i x) := by
    rw [tf_upL hi hb0.1, ← tf_wld_set (G := G) (G' := tf_up G k i x) hk tf_up_ne, tf_aL]
  rw [e1] at hP1 hD1
  exact h ⟨tf_okG_up hk hG.1 hxx, hG.2⟩ hlo (tf_ok_tl (tf_ok_tl (tf_ok_tl hst))) p e s m args below meth c H1 locs1 ls D cA ad A C hP1 hD1 ⟨hS1, fun q => by cases q⟩ hl
/-- the end of a walk -/
theorem tf_end {o : Outcome} {out : tf_Out} {p : Program} {e : Env} {s : State} {m : MethodId} {args : Array Value} {below : List Frame} {meth : Method} {c : Code} {H : Heap} {locs : List Loc} {D : va_G} {cA : Nat → ClassId} {ad : Nat → Nat} {A : Nat → Prop} {g : JFrame}
    (hG : tf_okA y cs G) (hPost : Post out G) (hP : va_P D tf_cls (tf_wld ad cA G) H) (hS : tf_S A s.heap H locs cs) {F : Nat → Prop} (hF : ∀ q, F q → A q) (hpu : tf_pu y = true → ∀ q, ¬ F q)
    (ho : ∀ t : State, tf_oR ad s t out o)
    (hw : W p l e (tf_room y) s m args below meth c H locs (tf_cs cs).1 (tf_cs cs).2 (MQ below (fun _ _ o' t => o' = o ∧ t.heap = H) args s (tf_cs cs).1 (tf_cs cs).2 F) g) :
    W p l e (tf_room y) s m args below meth c H locs (tf_cs cs).1 (tf_cs cs).2 (tf_End y Post D cA ad A below s) g := by
  refine tf_W.mono hw ?_
  intro t ht
  obtain ⟨o', h1, h2, ⟨rfl, h3⟩, L, ⟨h4, h5, h6⟩, h7⟩ := ht
  exact ⟨_, h1, h2, ⟨L, h5, h6.mono hG.2.1 hG.2.2, fun q hq => hF _ (h7 q hq), fun hp => List.eq_nil_iff_forall_not_mem.mpr (fun q hq => hpu hp _ (h7 q hq))⟩, hS.1.F h3, out, G, hPost, hG.1, ho t, by rw [h3]; exact hP⟩
end
