section
variable {l : Launch} {G G' G2 : tf_Sto} {m : Nat} {D : List Int} {y : Nat} {as : List tf_Av} {Po : tf_Out → tf_Sto → Prop} {ok : Prop}
theorem w_i {Q : Int → tf_Sto → Prop} (h : tf_RUN l y as G (tf_XI ok Q G)) (h1 : ∀ r G', Q r G' → Po (.inl (some (tf_i 0))) (tf_up G' 67 0 r)) (h2 : ¬ ok → Po (.inl (some (tf_i 1))) G) :
    tf_RUN l y as G (fun o1 G2 => (∃ r3 : Int, o1 = .inl (some (tf_i r3)) ∧ ((0 ≤ (0 : Int) ∧ (0 : Int) < 1) ∧ (Po (.inl (some (tf_i 0))) (tf_up G2 67 0 r3)))) ∨ (o1 = .inr 0 ∧ (Po (.inl (some (tf_i 1))) G2)) ∨ (o1 = .inr 1 ∧ (False)) ∨ (o1 = .inr 2 ∧ (False))) := by
  refine h.mono ?_
  rintro o G1 (⟨r, e, q⟩ | ⟨e, q, e1⟩)
  · exact Or.inl ⟨r, e, ⟨by decide, by decide⟩, h1 r G1 q⟩
  · rw [e1]
    exact Or.inr (Or.inl ⟨e, h2 q⟩)
theorem w_l {Q : Int → tf_Sto → Prop} (h : tf_RUN l y as G (tf_XL ok Q G)) (h1 : ∀ r G', Q r G' → Po (.inl (some (tf_i 0))) (tf_up G' 67 0 r)) (h2 : ¬ ok → Po (.inl (some (tf_i 1))) G) :
    tf_RUN l y as G (fun o1 G2 => (∃ r3 : Int, o1 = .inl (some (tf_l r3)) ∧ ((0 ≤ (0 : Int) ∧ (0 : Int) < 1) ∧ (Po (.inl (some (tf_i 0))) (tf_up G2 67 0 r3)))) ∨ (o1 = .inr 0 ∧ (Po (.inl (some (tf_i 1))) G2)) ∨ (o1 = .inr 1 ∧ (False)) ∨ (o1 = .inr 2 ∧ (False))) := by
  refine h.mono ?_
  rintro o G1 (⟨r, e, q⟩ | ⟨e, q, e1⟩)
  · exact Or.inl ⟨r, e, ⟨by decide, by decide⟩, h1 r G1 q⟩
  · rw [e1]
    exact Or.inr (Or.inl ⟨e, h2 q⟩)
theorem w_b {Q : Int → tf_Sto → Prop} (h : tf_RUN l y as G (tf_XI ok Q G)) (h0 : ∀ r G', Q r G' → r = 0 ∨ r = 1) (h1 : ∀ r G', Q r G' → Po (.inl (some (tf_i 0))) (tf_up G' 67 0 r)) (h2 : ¬ ok → Po (.inl (some (tf_i 1))) G) :
    tf_RUN l y as G (fun o1 G2 => (∃ r3 : Int, o1 = .inl (some (tf_i r3)) ∧ ((r3 = 0 → ((0 ≤ (0 : Int) ∧ (0 : Int) < 1) ∧ (Po (.inl (some (tf_i 0))) (tf_up G2 67 0 0)))) ∧ (r3 ≠ 0 → ((0 ≤ (0 : Int) ∧ (0 : Int) < 1) ∧ (Po (.inl (some (tf_i 0))) (tf_up G2 67 0 1)))))) ∨ (o1 = .inr 0 ∧ (Po (.inl (some (tf_i 1))) G2)) ∨ (o1 = .inr 1 ∧ (False)) ∨ (o1 = .inr 2 ∧ (False))) := by
  refine h.mono ?_
  rintro o G1 (⟨r, e, q⟩ | ⟨e, q, e1⟩)
  · refine Or.inl ⟨r, e, fun q0 => ⟨⟨by decide, by decide⟩, ?_⟩, fun q0 => ⟨⟨by decide, by decide⟩, ?_⟩⟩
    · have := h1 r G1 q
      rw [q0] at this
      exact this
    · have e : r = 1 := by
        rcases h0 r G1 q with q1 | q1
        · exact absurd q1 q0
        · exact q1
      have := h1 r G1 q
      rw [e] at this
      exact this
  · rw [e1]
    exact Or.inr (Or.inl ⟨e, h2 q⟩)
theorem INV.okk {Q : Int → Int → (Int → Int) → (Int → Int → Int) → (Int → Int) → Prop} {r v : Int} (h : INV m D G) (hx : xA (G 46) (G 47) m D G ok Q r G') (hM : mQ (G 1 0) (G 2) (xC G) (mf_E (tf_up G' 67 0 r 46) (tf_up G' 67 0 r 47) m) (tf_up G' 67 0 r) ok Q v G2)
    (hu : tA (G 1 0) (G 2) (xC G) (mf_E (G 46) (G 47) m) (Q r) → tA (G 1 0) (G 2) (xC G) (mf_E (G 46) (G 47) m) (Q v) → r = v) : pQ m 0 v G2 := by
  obtain ⟨x1, x2, x3, x4⟩ := hx
  obtain ⟨m1, m2⟩ := hM
  obtain ⟨i1, i2⟩ := h.ask x2 x3 m1
  rcases m2 with ⟨_, t, m2⟩ | ⟨m2, _⟩
  · rw [x3.eqs] at m2
    exact ⟨⟨m, D, by omega, i1⟩, t, fun _ => by rw [i2]; exact hu x4 m2⟩
  · exact absurd x1 m2
theorem INV.no {Q : Int → Int → (Int → Int) → (Int → Int → Int) → (Int → Int) → Prop} {v : Int} (h : INV m D G) (hn : ¬ ok) (hM : mQ (G 1 0) (G 2) (xC G) (mf_E (G 46) (G 47) m) G ok Q v G2) : pQ m 1 v G2 := by
  obtain ⟨m1, m2⟩ := hM
  rcases m2 with ⟨m2, _⟩ | ⟨_, t⟩
  · exact absurd m2 hn
  · exact ⟨⟨m, D, by omega, h.bad m1⟩, t, fun q => by omega⟩
def pB (m : Nat) (k b : Int) (G : tf_Sto) : Prop := pQ m k b G ∧ (k = 0 → b = 0 ∨ b = 1)
theorem pQ.b {v r : Int} (h : pQ m 0 v G2) (hr : r = 0 ∨ r = 1) (e : r = v) : pB m 0 v G2 := ⟨h, fun _ => by rw [← e]; exact hr⟩
theorem pQ.b1 {v : Int} (h : pQ m 1 v G2) : pB m 1 v G2 := ⟨h, fun q => by omega⟩
theorem q01 {a d r : Int} {n : Int} {hd : Int → Int} {ch : Int → Int → Int} {E : List (Int × Int)} (h : tA n hd ch E (Qsame a d r)) : r = 0 ∨ r = 1 := by
  obtain ⟨c, hh, b, f, _, _, q⟩ := h
  unfold Qsame at q
  by_cases g : f a = f d
  · rw [if_pos g] at q
    exact Or.inr q
  · rw [if_neg g] at q
    exact Or.inl q
theorem q01f {a r : Int} {n : Int} {hd : Int → Int} {ch : Int → Int → Int} {E : List (Int × Int)} (h : tA n hd ch E (Qfin a r)) : r = 0 ∨ r = 1 := by
  obtain ⟨c, hh, b, f, _, _, q⟩ := h
  rcases q with q | q
  · exact Or.inr q.1
  · exact Or.inl q.1
theorem q01i {a d r : Int} {n : Int} {hd : Int → Int} {ch : Int → Int → Int} {E : List (Int × Int)} (h : tA n hd ch E (Qinst a d r)) : r = 0 ∨ r = 1 := by
  obtain ⟨c, hh, b, f, _, _, q⟩ := h
  rcases q with q | q
  · exact Or.inr q.1
  · exact Or.inl q.1
theorem q01v {a d r : Int} {n : Int} {hd : Int → Int} {ch : Int → Int → Int} {E : List (Int × Int)} (h : tA n hd ch E (Qvari a d r)) : r = 0 ∨ r = 1 := by
  obtain ⟨c, hh, b, f, _, _, q⟩ := h
  rcases q with q | q
  · exact Or.inr q.1
  · exact Or.inl q.1
/-- an answer that is a yes or no -/
theorem INV.okb {Q : Int → Int → (Int → Int) → (Int → Int → Int) → (Int → Int) → Prop} {r v : Int} (h : INV m D G) (hx : xA (G 46) (G 47) m D G ok Q r G') (hM : mQ (G 1 0) (G 2) (xC G) (mf_E (tf_up G' 67 0 r 46) (tf_up G' 67 0 r 47) m) (tf_up G' 67 0 r) ok Q v G2)
    (hu : tA (G 1 0) (G 2) (xC G) (mf_E (G 46) (G 47) m) (Q r) → tA (G 1 0) (G 2) (xC G) (mf_E (G 46) (G 47) m) (Q v) → r = v) (h01 : r = 0 ∨ r = 1) : pB m 0 v G2 := by
  have e := h.okk hx hM hu
  refine ⟨e, fun _ => ?_⟩
  have e2 := e.2.2 rfl
  obtain ⟨m1, m2⟩ := hM
  have e3 := (h.ask hx.2.1 hx.2.2.1 m1).2
  rw [← e2, e3]
  exact h01
theorem pr_6 (h : INV m D G) (hm : m ≤ 4999) {a b : Int} : tf_RUN l 134 [tf_r 0, tf_i a, tf_i b, tf_r 67] G (tf_PI fun k G1 => tf_RUN l 105 [tf_r 42, tf_i a, tf_i b] G1 (tf_PI (pB m k))) := by
  obtain ⟨b1, b2, b3, b4⟩ := h.base
  refine vc_134 ⟨⟨by decide, by decide⟩, w_b (sx_6 h.1) (fun r G' hx => q01 hx.2.2.2) (fun r G' hx => tf_pi ?_) (fun hn => tf_pi ?_)⟩
  · exact tf_ri (sp_105 (h.x hm hx.2.2.1)) fun v G2 hM => h.okb hx hM (uq_same hx.1.1 hx.1.2) (q01 hx.2.2.2)
  · exact tf_ri (sp_105 (h.mvs hm)) fun v G2 hM => (h.no hn hM).b1
theorem pr_7 (h : INV m D G) (hm : m ≤ 4999) {a : Int} : tf_RUN l 135 [tf_r 0, tf_i a, tf_r 67] G (tf_PI fun k G1 => tf_RUN l 107 [tf_r 42, tf_i a] G1 (tf_PI (pB m k))) := by
  obtain ⟨b1, b2, b3, b4⟩ := h.base
  refine vc_135 ⟨⟨by decide, by decide⟩, w_b (sx_7 h.1) (fun r G' hx => q01f hx.2.2.2) (fun r G' hx => tf_pi ?_) (fun hn => tf_pi ?_)⟩
  · exact tf_ri (sp_107 (h.x hm hx.2.2.1)) fun v G2 hM => h.okb hx hM (uq_fin b4 b2 hx.1) (q01f hx.2.2.2)
  · exact tf_ri (sp_107 (h.mvs hm)) fun v G2 hM => (h.no hn hM).b1
theorem pr_8 (h : INV m D G) (hm : m ≤ 4999) {a : Int} : tf_RUN l 136 [tf_r 0, tf_i a, tf_r 67] G (tf_PI fun k G1 => tf_RUN l 108 [tf_r 42, tf_i a] G1 (tf_PL (pQ m k))) := by
  obtain ⟨b1, b2, b3, b4⟩ := h.base
  refine vc_136 ⟨⟨by decide, by decide⟩, w_l (sx_8 h.1) (fun r G' hx => tf_pi ?_) (fun hn => tf_pi ?_)⟩
  · exact tf_rl (sp_108 (h.x hm hx.2.2.1)) fun v G2 hM => h.okk hx hM (uq_size b4 b2 hx.1)
  · exact tf_rl (sp_108 (h.mvs hm)) fun v G2 hM => h.no hn hM
theorem pr_9 (h : INV m D G) (hm : m ≤ 4999) {a : Int} : tf_RUN l 137 [tf_r 0, tf_i a, tf_r 67] G (tf_PI fun k G1 => tf_RUN l 109 [tf_r 42, tf_i a] G1 (tf_PI (pQ m k))) := by
  obtain ⟨b1, b2, b3, b4⟩ := h.base
  refine vc_137 ⟨⟨by decide, by decide⟩, w_i (sx_9 h.1) (fun r G' hx => tf_pi ?_) (fun hn => tf_pi ?_)⟩
  · exact tf_ri (sp_109 (h.x hm hx.2.2.1)) fun v G2 hM => h.okk hx hM (uq_depth b4 b2 hx.1)
  · exact tf_ri (sp_109 (h.mvs hm)) fun v G2 hM => h.no hn hM
theorem pr_10 (h : INV m D G) (hm : m ≤ 4999) {a : Int} : tf_RUN l 138 [tf_r 0, tf_i a, tf_r 67] G (tf_PI fun k G1 => tf_RUN l 111 [tf_r 42, tf_i a] G1 (tf_PI (pQ m k))) := by
  obtain ⟨b1, b2, b3, b4⟩ := h.base
  refine vc_138 ⟨⟨by decide, by decide⟩, w_i (sx_10 h.1) (fun r G' hx => tf_pi ?_) (fun hn => tf_pi ?_)⟩
  · exact tf_ri (sp_111 (h.x hm hx.2.2.1)) fun v G2 hM => h.okk hx hM (uq_with b4 b2 hx.1)
  · exact tf_ri (sp_111 (h.mvs hm)) fun v G2 hM => h.no hn hM
theorem pr_11 (h : INV m D G) (hm : m ≤ 4999) {a : Int} : tf_RUN l 139 [tf_r 0, tf_i a, tf_r 67] G (tf_PI fun k G1 => tf_RUN l 112 [tf_r 42, tf_i a] G1 (tf_PI (pQ m k))) := by
  obtain ⟨b1, b2, b3, b4⟩ := h.base
  refine vc_139 ⟨⟨by decide, by decide⟩, w_i (sx_11 h.1) (fun r G' hx => tf_pi ?_) (fun hn => tf_pi ?_)⟩
  · exact tf_ri (sp_112 (h.x hm hx.2.2.1)) fun v G2 hM => h.okk hx hM (uq_with b4 b2 hx.1)
  · exact tf_ri (sp_112 (h.mvs hm)) fun v G2 hM => h.no hn hM
theorem pr_12 (h : INV m D G) (hm : m ≤ 4999) {a b : Int} : tf_RUN l 140 [tf_r 0, tf_i a, tf_i b, tf_r 67] G (tf_PI fun k G1 => tf_RUN l 117 [tf_r 42, tf_i a, tf_i b] G1 (tf_PI (pB m k))) := by
  obtain ⟨b1, b2, b3, b4⟩ := h.base
  refine vc_140 ⟨⟨by decide, by decide⟩, w_b (sx_12 h.1) (fun r G' hx => q01i hx.2.2.2) (fun r G' hx => tf_pi ?_) (fun hn => tf_pi ?_)⟩
  · exact tf_ri (sp_117 (h.x hm hx.2.2.1)) fun v G2 hM => h.okb hx hM (uq_inst b4 b2 hx.1.1 hx.1.2) (q01i hx.2.2.2)
  · exact tf_ri (sp_117 (h.mvs hm)) fun v G2 hM => (h.no hn hM).b1
theorem pr_13 (h : INV m D G) (hm : m ≤ 4999) {a b : Int} : tf_RUN l 141 [tf_r 0, tf_i a, tf_i b, tf_r 67] G (tf_PI fun k G1 => tf_RUN l 118 [tf_r 42, tf_i a, tf_i b] G1 (tf_PI (pB m k))) := by
  obtain ⟨b1, b2, b3, b4⟩ := h.base
  refine vc_141 ⟨⟨by decide, by decide⟩, w_b (sx_13 h.1) (fun r G' hx => q01v hx.2.2.2) (fun r G' hx => tf_pi ?_) (fun hn => tf_pi ?_)⟩
  · exact tf_ri (sp_118 (h.x hm hx.2.2.1)) fun v G2 hM => h.okb hx hM (uq_vari b4 b2 hx.1.1 hx.1.2) (q01v hx.2.2.2)
  · exact tf_ri (sp_118 (h.mvs hm)) fun v G2 hM => (h.no hn hM).b1
theorem pr_14 (h : INV m D G) (hm : m ≤ 4999) {a b w : Int} : tf_RUN l 142 [tf_r 0, tf_i a, tf_i b, tf_i w, tf_r 67] G (tf_PI fun k G1 => tf_RUN l 119 [tf_r 42, tf_i a, tf_i b, tf_i w] G1 (tf_PI (pQ m k))) := by
  obtain ⟨b1, b2, b3, b4⟩ := h.base
  refine vc_142 ⟨⟨by decide, by decide⟩, w_i (sx_14 h.1) (fun r G' hx => tf_pi ?_) (fun hn => tf_pi ?_)⟩
  · exact tf_ri (sp_119 (h.x hm hx.2.2.1)) fun v G2 hM => h.okk hx hM (uq_com b4 b2 b1.2 hx.1.1.1 hx.1.1.2)
  · exact tf_ri (sp_119 (h.mvs hm)) fun v G2 hM => h.no hn hM
end
