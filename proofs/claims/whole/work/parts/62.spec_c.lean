-- SPEC C: one merge
def xx (F : Int → Int → Int) (g : Int) (f : Int → Int) : Int → Int → Int := fun i => if i ≤ g then F i else f
theorem xx_le {F : Int → Int → Int} {g : Int} {f : Int → Int} {i : Int} (h : i ≤ g) : xx F g f i = F i := if_pos h
theorem xx_new {F : Int → Int → Int} {g : Int} {f : Int → Int} : xx F g f (g + 1) = f := if_neg (by omega)
def xmr (mr : Int → Int) (g a : Int) : Int → Int := fun i => if i = g then a else mr i
theorem xh_ext {n g : Int} {hd mr : Int → Int} {P W S RT DP : Int → Int → Int} (H : xh n hd g mr P W S RT DP) (hg : 0 ≤ g) {a b : Int} (ha : mf_dom n a) (hb : mf_dom n b) (hne : a ≠ b) (ra : RT g a = a) (rb : RT g b = b) {p' w' s' : Int → Int}
    (hh : ∀ t, mf_dom n t → p' t = (if t = a then b else P g t) ∧ w' t = (if t = b then W g b + W g a else W g t) ∧ s' t = (if t = b then (if S g b = -1 then S g a else S g b) else S g t)) :
    xh n hd (g + 1) (xmr mr g a) (xx P g p') (xx W g w') (xx S g s') (xx RT g (fun t => if RT g t = a then b else RT g t)) (xx DP g (fun t => if RT g t = a then DP g t + 1 else DP g t)) := by
  refine ⟨fun t ht => ?_, fun i h0 h1 => ?_⟩
  · rw [xx_le hg, xx_le hg, xx_le hg, xx_le hg, xx_le hg]
    exact H.1 t ht
  · by_cases q : i = g
    · subst q
      have e : xmr mr i a i = a := if_pos rfl
      rw [e]
      refine ⟨b, ha, hb, hne, ?_, ?_, ?_, fun t ht => ?_⟩
      · rw [xx_le (Int.le_refl i)]; exact ra
      · rw [xx_le (Int.le_refl i)]; exact rb
      · rw [xx_new, (hh a ha).1, if_pos rfl]
      · rw [xx_new, xx_new, xx_new, xx_new, xx_new, xx_le (Int.le_refl i), xx_le (Int.le_refl i), xx_le (Int.le_refl i), xx_le (Int.le_refl i), xx_le (Int.le_refl i)]
        exact ⟨(hh t ht).1, (hh t ht).2.1, (hh t ht).2.2, rfl, rfl⟩
    · have h2 : i + 1 ≤ g := by omega
      have h3 : i ≤ g := by omega
      have e : xmr mr g a i = mr i := if_neg q
      rw [e, xx_le h2, xx_le h2, xx_le h2, xx_le h2, xx_le h2, xx_le h3, xx_le h3, xx_le h3, xx_le h3, xx_le h3]
      exact H.2 i h0 (by omega)
/-- so many pairs more wait -/
def xw (G G' : tf_Sto) (m : Int) (f f' : Int → Int) : Prop := G' 4 8 = G 4 8 + m ∧ (∀ j, j < G 4 8 → G' 9 j = G 9 j ∧ G' 10 j = G 10 j) ∧ ∀ k, 0 ≤ k → k < m → G' 9 (G 4 8 + k) = f k ∧ G' 10 (G 4 8 + k) = f' k
section
variable {l : Launch} {G : tf_Sto}
theorem sp_32 {a b : Int} (h : 0 ≤ G 4 8 ∧ G 4 8 < 901) : tf_RUN l 32 [tf_r 4, tf_i a, tf_i b] G (tf_PV fun G' => G' = tf_up (tf_up (tf_up G 9 (G 4 8) a) 10 (G 4 8) b) 4 8 (G 4 8 + 1)) :=
  vc_32 ⟨fun _ => by omega, fun _ => ⟨by omega, by omega, by omega, tf_pv rfl⟩⟩
set_option maxHeartbeats 1000000 in
theorem sp_34 {a b : Int} (ha : 0 ≤ a ∧ a < 300) (hb : 0 ≤ b ∧ b < 300) (hh : G 2 a = -1 ∨ 0 ≤ G 2 a) (hw : 0 ≤ G 4 8 ∧ G 4 8 ≤ 898) :
    tf_RUN l 34 [tf_r 4, tf_i a, tf_i b] G (tf_PV fun G' => xw G G' (mf_w (G 2 a)) (fun k => G 3 (a * 3 + k)) (fun k => G 3 (b * 3 + k)) ∧ (∀ k : Nat, k ≠ 4 → k ≠ 9 → k ≠ 10 → G' k = G k) ∧ ∀ j, j ≠ 8 → G' 4 j = G 4 j) := by
  refine vc_34 ⟨ha, tf_re (sp_24 hh) ?_⟩
  have hm : 0 ≤ mf_w (G 2 a) ∧ mf_w (G 2 a) ≤ 3 := by
    unfold mf_w
    split <;> omega
  generalize mf_w (G 2 a) = m at hm
  have key : ∀ (d : Nat) (G1 : tf_Sto) (k : Int), 0 ≤ k → k + d = m → xw G G1 k (fun k => G 3 (a * 3 + k)) (fun k => G 3 (b * 3 + k)) → (∀ k : Nat, k ≠ 4 → k ≠ 9 → k ≠ 10 → G1 k = G k) → (∀ j, j ≠ 8 → G1 4 j = G 4 j) →
      tf_AW l 34 none (tf_PV fun G' => xw G G' m (fun k => G 3 (a * 3 + k)) (fun k => G 3 (b * 3 + k)) ∧ (∀ k : Nat, k ≠ 4 → k ≠ 9 → k ≠ 10 → G' k = G k) ∧ ∀ j, j ≠ 8 → G' 4 j = G 4 j) 16 [(0, tf_r 4), (1, tf_i a), (2, tf_i b), (3, tf_i m), (4, tf_i k)] [] (none, false) G1 := by
    intro d
    induction d with
    | zero =>
      intro G1 k h0 h1 h2 h3 h4
      have e : k = m := by omega
      subst e
      exact vc_34_16 ⟨fun _ => tf_pv ⟨h2, h3, h4⟩, fun z => by omega⟩
    | succ d ih =>
      intro G1 k h0 h1 h2 h3 h4
      refine vc_34_16 ⟨fun z => by omega, fun _ => ⟨by omega, by omega, by omega, by omega, by omega, by omega, tf_rv (sp_32 ?_) ?_⟩⟩
      · have := h2.1
        omega
      · rintro _ rfl
        refine ⟨by omega, ih _ _ (by omega) (by omega) ?_ ?_ ?_⟩
        · obtain ⟨w1, w2, w3⟩ := h2
          refine ⟨?_, fun j hj => ?_, fun j j0 j1 => ?_⟩
          · rw [tf_up_at, w1]; omega
          · simp only [tf_upo, tf_upo', tf_up_eq, ne_eq, Nat.reduceEqDiff, not_false_eq_true, reduceCtorEq]
            rw [if_neg (by omega), if_neg (by omega)]
            exact w2 j hj
          · simp only [tf_upo, tf_upo', tf_up_eq, ne_eq, Nat.reduceEqDiff, not_false_eq_true, reduceCtorEq]
            rw [h3 3 (by decide) (by decide) (by decide)]
            by_cases q : j = k
            · rw [if_pos (by omega), if_pos (by omega), q]
              exact ⟨rfl, rfl⟩
            · rw [if_neg (by omega), if_neg (by omega)]
              exact w3 j j0 (by omega)
        · intro k q1 q2 q3
          rw [tf_upo q1, tf_upo q3, tf_upo q2]
          exact h3 k q1 q2 q3
        · intro j q
          simp only [tf_upo, tf_upo', tf_up_eq, ne_eq, Nat.reduceEqDiff, not_false_eq_true, reduceCtorEq]
          rw [if_neg q]
          exact h4 j q
  exact key m.toNat G 0 (by omega) (by omega) ⟨by omega, fun j _ => ⟨rfl, rfl⟩, fun k h0 h1 => by omega⟩ (fun _ _ _ _ => rfl) (fun _ _ => rfl)
def xat (a b : Int) (G G' : tf_Sto) : Prop := G' 4 0 = G 4 0 + 1 ∧ (∀ j, j ≠ 0 → G' 4 j = G 4 j) ∧ (∀ t, G' 5 t = if t = a then b else G 5 t) ∧ (∀ t, G' 6 t = if t = b then G 6 b + G 6 a else G 6 t) ∧
  (∀ t, G' 7 t = if t = b then (if G 7 b = -1 then G 7 a else G 7 b) else G 7 t) ∧ (∀ i, G' 8 i = if i = G 4 0 then a else G 8 i) ∧ ∀ k : Nat, k < 4 ∨ 8 < k → G' k = G k
theorem sp_35 {a b : Int} (ha : 0 ≤ a ∧ a < 300) (hb : 0 ≤ b ∧ b < 300) (hg : 0 ≤ G 4 0 ∧ G 4 0 < 300) (hw : -2147483648 ≤ G 6 b + G 6 a ∧ G 6 b + G 6 a ≤ 2147483647) : tf_RUN l 35 [tf_r 4, tf_i a, tf_i b] G (tf_PV (xat a b G)) := by
  refine vc_35 ⟨ha, hb, ha, hw, hb, hb, fun q => ⟨hg, by omega, tf_pv ?_⟩, fun q => ⟨ha, hb, hg, by omega, tf_pv ?_⟩⟩
  · refine ⟨tf_up_at, fun j hj => ?_, fun t => ?_, fun t => ?_, fun t => ?_, fun t => ?_, fun k hk => ?_⟩
    · simp only [tf_upo, tf_upo', tf_up_eq, ne_eq, Nat.reduceEqDiff, not_false_eq_true, reduceCtorEq]
      rw [if_neg hj]
    · simp only [tf_upo, tf_upo', tf_up_eq, ne_eq, Nat.reduceEqDiff, not_false_eq_true, reduceCtorEq]
    · simp only [tf_upo, tf_upo', tf_up_eq, ne_eq, Nat.reduceEqDiff, not_false_eq_true, reduceCtorEq]
    · simp only [tf_upo, tf_upo', tf_up_eq, ne_eq, Nat.reduceEqDiff, not_false_eq_true, reduceCtorEq]
      rw [if_neg q]
      by_cases z : t = b
      · rw [if_pos z, z]
      · rw [if_neg z]
    · simp only [tf_upo, tf_upo', tf_up_eq, ne_eq, Nat.reduceEqDiff, not_false_eq_true, reduceCtorEq]
    · rw [tf_upo (by omega), tf_upo (by omega), tf_upo (by omega), tf_upo (by omega)]
  · refine ⟨tf_up_at, fun j hj => ?_, fun t => ?_, fun t => ?_, fun t => ?_, fun t => ?_, fun k hk => ?_⟩
    · simp only [tf_upo, tf_upo', tf_up_eq, ne_eq, Nat.reduceEqDiff, not_false_eq_true, reduceCtorEq]
      rw [if_neg hj]
    · simp only [tf_upo, tf_upo', tf_up_eq, ne_eq, Nat.reduceEqDiff, not_false_eq_true, reduceCtorEq]
    · simp only [tf_upo, tf_upo', tf_up_eq, ne_eq, Nat.reduceEqDiff, not_false_eq_true, reduceCtorEq]
    · simp only [tf_upo, tf_upo', tf_up_eq, ne_eq, Nat.reduceEqDiff, not_false_eq_true, reduceCtorEq]
      rw [if_pos q]
    · simp only [tf_upo, tf_upo', tf_up_eq, ne_eq, Nat.reduceEqDiff, not_false_eq_true, reduceCtorEq]
    · rw [tf_upo (by omega), tf_upo (by omega), tf_upo (by omega), tf_upo (by omega), tf_upo (by omega)]
end
