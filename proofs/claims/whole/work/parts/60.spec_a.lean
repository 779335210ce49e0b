-- SPEC A: how contracts are used; the getters; the union-find of the class
abbrev tf_PI (Q : Int → tf_Sto → Prop) : tf_Out → tf_Sto → Prop := fun o G' => ∃ r : Int, o = .inl (some (tf_i r)) ∧ Q r G'
abbrev tf_PL (Q : Int → tf_Sto → Prop) : tf_Out → tf_Sto → Prop := fun o G' => ∃ r : Int, o = .inl (some (tf_l r)) ∧ Q r G'
abbrev tf_PV (Q : tf_Sto → Prop) : tf_Out → tf_Sto → Prop := fun o G' => o = .inl none ∧ Q G'
section
variable {l : Launch} {y : Nat} {as : List tf_Av} {G : tf_Sto}
theorem tf_ri {Q K : Int → tf_Sto → Prop} (h : tf_RUN l y as G (tf_PI Q)) (k : ∀ r G', Q r G' → K r G') : tf_RUN l y as G (fun o G' => ∃ r : Int, o = .inl (some (tf_i r)) ∧ K r G') :=
  h.mono fun _ _ ⟨r, h1, h2⟩ => ⟨r, h1, k r _ h2⟩
theorem tf_rl {Q K : Int → tf_Sto → Prop} (h : tf_RUN l y as G (tf_PL Q)) (k : ∀ r G', Q r G' → K r G') : tf_RUN l y as G (fun o G' => ∃ r : Int, o = .inl (some (tf_l r)) ∧ K r G') :=
  h.mono fun _ _ ⟨r, h1, h2⟩ => ⟨r, h1, k r _ h2⟩
theorem tf_rv {Q K : tf_Sto → Prop} (h : tf_RUN l y as G (tf_PV Q)) (k : ∀ G', Q G' → K G') : tf_RUN l y as G (fun o G' => o = .inl none ∧ K G') :=
  h.mono fun _ _ ⟨h1, h2⟩ => ⟨h1, k _ h2⟩
/-- a getter -/
theorem tf_re {e : Int} {K : Int → tf_Sto → Prop} (h : tf_RUN l y as G (tf_PI fun r G' => r = e ∧ G' = G)) (k : K e G) : tf_RUN l y as G (fun o G' => ∃ r : Int, o = .inl (some (tf_i r)) ∧ K r G') :=
  tf_ri h fun r G' q => by obtain ⟨rfl, rfl⟩ := q; exact k
theorem tf_pi {Q : Int → tf_Sto → Prop} {r : Int} (h : Q r G) : tf_PI Q (.inl (some (tf_i r))) G := ⟨r, rfl, h⟩
theorem tf_pl {Q : Int → tf_Sto → Prop} {r : Int} (h : Q r G) : tf_PL Q (.inl (some (tf_l r))) G := ⟨r, rfl, h⟩
theorem tf_pv {Q : tf_Sto → Prop} (h : Q G) : tf_PV Q (.inl none) G := ⟨rfl, h⟩
end
theorem tf_upo {G : tf_Sto} {k k' : Nat} {i v : Int} (h : k' ≠ k) : tf_up G k i v k' = G k' := tf_up_ne k' h
theorem tf_upo' {G : tf_Sto} {k k' : Nat} {i v j : Int} (h : k' ≠ k) : tf_up G k i v k' j = G k' j := by rw [tf_upo h]
theorem tf_up_eq {G : tf_Sto} {k : Nat} {i v j : Int} : tf_up G k i v k j = if j = i then v else G k j := by
  unfold tf_up
  by_cases h : j = i
  · rw [if_pos ⟨rfl, h⟩, if_pos h]
  · rw [if_neg (fun q => h q.2), if_neg h]
theorem tf_up_at {G : tf_Sto} {k : Nat} {i v : Int} : tf_up G k i v k i = v := by rw [tf_up_eq, if_pos rfl]
section
variable {l : Launch} {G : tf_Sto}
def mf_w (h : Int) : Int := if h = -1 then 0 else h % 4
theorem sp_22 {a b : Int} (h : 0 ≤ a ∧ a < 16 ∧ 0 ≤ b ∧ b ≤ 3) : tf_RUN l 22 [tf_i a, tf_i b] G (tf_PI fun r G' => r = a * 4 + b ∧ G' = G) :=
  vc_22 ⟨by omega, by omega, tf_pi ⟨rfl, rfl⟩⟩
theorem sp_23 {a : Int} (h : 0 ≤ a) : tf_RUN l 23 [tf_i a] G (tf_PI fun r G' => r = a / 4 ∧ G' = G) :=
  vc_23 ⟨by omega, tf_pi ⟨rfl, rfl⟩⟩
theorem sp_24 {a : Int} (h : a = -1 ∨ 0 ≤ a) : tf_RUN l 24 [tf_i a] G (tf_PI fun r G' => r = mf_w a ∧ G' = G) := by
  refine vc_24 ⟨fun q => ⟨by omega, tf_pi ⟨?_, rfl⟩⟩, fun q => tf_pi ⟨?_, rfl⟩⟩
  · unfold mf_w; rw [if_neg q]
  · unfold mf_w; rw [if_pos q]
theorem sp_29 {t : Int} (h : 0 ≤ t ∧ t < 300) : tf_RUN l 29 [tf_r 4, tf_i t] G (tf_PI fun r G' => r = G 7 t ∧ G' = G) := vc_29 ⟨h, tf_pi ⟨rfl, rfl⟩⟩
theorem sp_25 {a b c d : Int} (h : 0 ≤ G 1 0 ∧ G 1 0 < 300) : tf_RUN l 25 [tf_r 1, tf_i a, tf_i b, tf_i c, tf_i d] G (tf_PI fun r G' => r = G 1 0 ∧ G' = tf_up (tf_up (tf_up (tf_up (tf_up G 2 (G 1 0) a) 3 (G 1 0 * 3) b) 3 (G 1 0 * 3 + 1) c) 3 (G 1 0 * 3 + 2) d) 1 0 (G 1 0 + 1)) :=
  vc_25 ⟨h, by omega, by omega, by omega, by omega, by omega, by omega, by omega, by omega, by omega, tf_pi ⟨rfl, rfl⟩⟩
theorem sp_27 {t : Int} (h : 0 ≤ t ∧ t < 300) : tf_RUN l 27 [tf_r 4, tf_i t] G (tf_PV fun G' => G' = tf_up (tf_up (tf_up G 5 t t) 6 t 1) 7 t (if G 2 t = -1 then -1 else t)) :=
  vc_27 ⟨h, h, h, fun q => ⟨h, tf_pv (by rw [if_neg q])⟩, fun q => ⟨h, tf_pv (by rw [if_pos q])⟩⟩
theorem sp_50 : tf_RUN l 50 [tf_r 24] G (tf_PV fun G' => G' = tf_up G 24 8 0) := by
  refine vc_50 ?_
  first | exact tf_pv rfl | exact ⟨Or.inl rfl, tf_pv rfl⟩
theorem sp_18 {t : Int} (h : 0 ≤ t ∧ t < 300) : tf_RUN l 18 [tf_r 0, tf_i t] G (tf_PI fun r G' => r = t ∧ G' = tf_up (tf_up (tf_up (tf_up G 5 t t) 6 t 1) 7 t (if G 2 t = -1 then -1 else t)) 24 8 0) := by
  refine vc_18 ?_
  refine tf_rv (sp_27 h) ?_
  rintro _ rfl
  refine tf_rv sp_50 ?_
  rintro _ rfl
  exact tf_pi ⟨rfl, rfl⟩
/-- the root of a term -/
theorem sp_28 {n : Int} {hd : Int → Int} {i : Int} {w s rt dp : Int → Int} (ho : xo n hd i (G 5) w s rt dp) (hn : n ≤ 300) (hi : i < 300) {t : Int} (ht : mf_dom n t) : tf_RUN l 28 [tf_r 4, tf_i t] G (tf_PI fun r G' => r = rt t ∧ G' = G) := by
  refine vc_28 ?_
  have key : ∀ (k : Nat) (at_ step : Int), mf_dom n at_ → rt at_ = rt t → dp at_ ≤ k → 0 ≤ step → step + k < 300 → tf_AW l 28 none (tf_PI fun r G' => r = rt t ∧ G' = G) 4 [(0, tf_r 4), (2, tf_i at_), (3, tf_i step)] [] (none, false) G := by
    intro k
    induction k with
    | zero =>
      intro at_ step hd hr hk h0 h1
      obtain ⟨q1, q2, q3, q4, q5, q6, q7, q8, q9, -⟩ := ho.1 at_ hd
      have hb : 0 ≤ at_ ∧ at_ < 300 := ⟨hd.1, by have := hd.2; omega⟩
      refine vc_28_4 ⟨fun z => by omega, fun z => ⟨hb, fun z => tf_pi ⟨?_, rfl⟩, fun z => ?_⟩⟩
      · rw [← hr, (q6 z).1]
      · have h1 := q9 z
        have h2 := (ho.1 _ q1).2.2.2.2.2.2.1
        omega
    | succ k ih =>
      intro at_ step hd hr hk h0 h1
      obtain ⟨q1, q2, q3, q4, q5, q6, q7, q8, q9, -⟩ := ho.1 at_ hd
      have hb : 0 ≤ at_ ∧ at_ < 300 := ⟨hd.1, by have := hd.2; omega⟩
      refine vc_28_4 ⟨fun z => by omega, fun z => ⟨hb, fun z => tf_pi ⟨?_, rfl⟩, fun z => ⟨hb, by omega, ?_⟩⟩⟩
      · rw [← hr, (q6 z).1]
      · refine ih _ _ q1 (q3.trans hr) ?_ (by omega) (by omega)
        have := q9 z
        omega
  have := (ho.1 t ht).2.2.2.2.2.2.2.1
  have := (ho.1 t ht).2.2.2.2.2.2.1
  exact key i.toNat t 0 ht rfl (by omega) (by omega) (by omega)
end
