def xD (D : List Int) (G : tf_Sto) : Prop := G 38 4 = (D.length : Int) ∧ wr (G 40) D ∧ ∀ v ∈ D, 0 ≤ v ∧ v ≤ 127
def xwf (G G' : tf_Sto) : Prop := (∀ k : Nat, k ≠ 38 → k ≠ 40 → G' k = G k) ∧ ∀ j, j ≠ 4 → G' 38 j = G 38 j
theorem xwf.trans {G G' G'' : tf_Sto} (h : xwf G G') (h' : xwf G' G'') : xwf G G'' := ⟨fun k k1 k2 => (h'.1 k k1 k2).trans (h.1 k k1 k2), fun j hj => (h'.2 j hj).trans (h.2 j hj)⟩
section
variable {l : Launch} {G : tf_Sto} {D : List Int}
theorem sp_77 {v : Int} (hD : xD D G) (hv : 0 ≤ v ∧ v ≤ 127) (hl : D.length ≤ 100000) : tf_RUN l 77 [tf_r 38, tf_i v] G (tf_PV fun G' => xwf G G' ∧ xD (D ++ [v]) G') := by
  obtain ⟨d1, d2, d3⟩ := hD
  have d4 : ∀ u ∈ D ++ [v], 0 ≤ u ∧ u ≤ 127 := by
    intro u hu
    rcases List.mem_append.1 hu with q | q
    · exact d3 u q
    · rw [List.mem_singleton.1 q]; exact hv
  refine vc_77 ⟨?_, ?_⟩
  · intro q
    refine ⟨⟨by omega, by omega⟩, tf_pv ?_⟩
    refine ⟨⟨fun k k1 k2 => ?_, fun j hj => ?_⟩, ?_, ?_, d4⟩
    · rw [tf_upo k1]
    · rw [tf_up_eq, if_neg hj]
    · rw [tf_up_at, d1]; simp
    · rw [tf_upo (by decide)]
      exact wr_add d2 (fun _ _ => rfl) (fun q1 => by omega)
  · intro q
    refine ⟨⟨by omega, by omega⟩, ⟨by omega, by omega⟩, ⟨by omega, by omega⟩, ⟨by omega, by omega⟩, tf_pv ?_⟩
    refine ⟨⟨fun k k1 k2 => ?_, fun j hj => ?_⟩, ?_, ?_, d4⟩
    · rw [tf_upo k1, tf_upo k2]
    · rw [tf_up_eq, if_neg hj, tf_upo' (by decide)]
    · rw [tf_up_at, d1]; simp
    · rw [tf_upo (by decide), d1]
      refine wr_add d2 (fun j hj => ?_) (fun _ => ?_)
      · rw [tf_up_eq, if_neg hj]
      · rw [tf_up_at]
theorem sp_76 {v : Int} (hD : xD D G) (hv : 0 ≤ v ∧ v ≤ 999) (hl : D.length ≤ 99990) : tf_RUN l 76 [tf_r 38, tf_i v] G (tf_PV fun G' => xwf G G' ∧ xD (D ++ tnum v) G') := by
  have last : ∀ {G1 : tf_Sto} {D1 : List Int}, xwf G G1 → xD D1 G1 → D1.length ≤ 99999 → D1 ++ [48 + v % 10] = D ++ tnum v →
      tf_RUN l 77 [tf_r 38, tf_i (48 + v % 10)] G1 (fun o G2 => o = .inl none ∧ (tf_PV fun G' => xwf G G' ∧ xD (D ++ tnum v) G') (.inl none) G2) := by
    intro G1 D1 hf h1 hl e
    refine tf_rv (sp_77 h1 ⟨by omega, by omega⟩ (by omega)) fun G2 h2 => tf_pv ⟨hf.trans h2.1, ?_⟩
    rw [← e]
    exact h2.2
  refine vc_76 ⟨?_, ?_⟩
  · intro q
    refine ⟨?_, ?_⟩
    · intro q1
      refine ⟨⟨by omega, by omega⟩, ⟨by omega, by omega⟩, last ⟨fun _ _ _ => rfl, fun _ _ => rfl⟩ hD (by omega) ?_⟩
      unfold tnum
      rw [if_neg (by omega), if_neg (by omega)]
      rfl
    · intro q1
      refine ⟨⟨by omega, by omega⟩, ⟨by omega, by omega⟩, ⟨by omega, by omega⟩, ?_⟩
      refine tf_rv (sp_77 hD ⟨by omega, by omega⟩ (by omega)) fun G2 h2 => ?_
      refine ⟨⟨by omega, by omega⟩, ⟨by omega, by omega⟩, last h2.1 h2.2 (by simp; omega) ?_⟩
      unfold tnum
      rw [if_neg (by omega), if_pos (by omega)]
      simp
  · intro q
    refine ⟨⟨by omega, by omega⟩, ⟨by omega, by omega⟩, ?_⟩
    refine tf_rv (sp_77 hD ⟨by omega, by omega⟩ (by omega)) fun G2 h2 => ?_
    refine ⟨fun q1 => by omega, ?_⟩
    intro q1
    refine ⟨⟨by omega, by omega⟩, ⟨by omega, by omega⟩, ⟨by omega, by omega⟩, ?_⟩
    refine tf_rv (sp_77 h2.2 ⟨by omega, by omega⟩ (by simp; omega)) fun G3 h3 => ?_
    refine ⟨⟨by omega, by omega⟩, ⟨by omega, by omega⟩, last (h2.1.trans h3.1) h3.2 (by simp; omega) ?_⟩
    unfold tnum
    rw [if_pos (by omega), if_pos (by omega)]
    simp
theorem sp_75 {v : Int} (hm : 0 ≤ G 38 6 ∧ G 38 6 < 205) : tf_RUN l 75 [tf_r 38, tf_i v] G (tf_PV fun G' => G' = tf_up (tf_up G 41 (G 38 6) v) 38 6 (G 38 6 + 1)) := by
  refine vc_75 ⟨fun q => by omega, fun _ => ⟨hm, ⟨by omega, by omega⟩, tf_pv rfl⟩⟩
/-- what waits: a tree, or a byte below zero -/
def xI (c : Int) (h lst : Int → Int) (b : Int → Int → Int) (W : Int → Int) (j : Int) (s : List Int) : Prop := ((-127 ≤ W j ∧ W j < 0) ∧ s = [-(W j)]) ∨ (mf_dom c (W j) ∧ ∃ d, tok h b d (W j) ∧ s = tS h lst b d (W j))
def xSk (c : Int) (h lst : Int → Int) (b : Int → Int → Int) (G : tf_Sto) (s : List Int) : Prop := ∃ m : Nat, G 38 6 = m ∧ stk (xI c h lst b (G 41)) m s
theorem xSk.push {c : Int} {h lst : Int → Int} {b : Int → Int → Int} {s s1 : List Int} {v : Int} (hs : xSk c h lst b G s) (hi : xI c h lst b (fun _ => v) 0 s1) : xSk c h lst b (tf_up (tf_up G 41 (G 38 6) v) 38 6 (G 38 6 + 1)) (s1 ++ s) := by
  obtain ⟨m, e, q⟩ := hs
  refine ⟨m + 1, by rw [tf_up_at, e]; omega, ?_⟩
  refine ⟨s1, s, ?_, ?_, rfl⟩
  · unfold xI
    rw [tf_upo (by decide), e, tf_up_at]
    exact hi
  · refine stk_congr ?_ q
    intro j j0 j1 s hs
    unfold xI at hs ⊢
    rw [tf_upo (by decide), tf_up_eq, if_neg (by omega)]
    exact hs
def xwg (G G' : tf_Sto) : Prop := (∀ k : Nat, k ≠ 38 → k ≠ 40 → k ≠ 41 → G' k = G k) ∧ ∀ j, j ≠ 4 → j ≠ 6 → G' 38 j = G 38 j
theorem xwg.trans {G G' G'' : tf_Sto} (h : xwg G G') (h' : xwg G' G'') : xwg G G'' := ⟨fun k k1 k2 k3 => (h'.1 k k1 k2 k3).trans (h.1 k k1 k2 k3), fun j j1 j2 => (h'.2 j j1 j2).trans (h.2 j j1 j2)⟩
theorem xwf.g {G G' : tf_Sto} (h : xwf G G') : xwg G G' := ⟨fun k k1 k2 _ => h.1 k k1 k2, fun j j1 _ => h.2 j j1⟩
theorem xwg.psh {G : tf_Sto} {v : Int} : xwg G (tf_up (tf_up G 41 (G 38 6) v) 38 6 (G 38 6 + 1)) := by
  refine ⟨fun k k1 k2 k3 => ?_, fun j j1 j2 => ?_⟩
  · rw [tf_upo k1, tf_upo k3]
  · rw [tf_up_eq, if_neg j2, tf_upo' (by decide)]
theorem xD.psh {v : Int} (hD : xD D G) : xD D (tf_up (tf_up G 41 (G 38 6) v) 38 6 (G 38 6 + 1)) := by
  refine ⟨?_, ?_, hD.2.2⟩
  · rw [tf_up_eq, if_neg (by decide), tf_upo' (by decide)]; exact hD.1
  · rw [tf_upo (by decide), tf_upo (by decide)]; exact hD.2.1
theorem xSk.wf {c : Int} {h lst : Int → Int} {b : Int → Int → Int} {s : List Int} {G' : tf_Sto} (hs : xSk c h lst b G s) (hf : xwf G G') : xSk c h lst b G' s := by
  obtain ⟨m, e, q⟩ := hs
  refine ⟨m, by rw [hf.2 6 (by decide), e], ?_⟩
  rw [hf.1 41 (by decide) (by decide)]
  exact q
end
