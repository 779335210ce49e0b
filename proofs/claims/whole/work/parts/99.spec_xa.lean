def xC (G : tf_Sto) : Int → Int → Int := fun t k => G 3 (t * 3 + k)
/-- one state of the program's classes: terms, equations and merges belong together -/
def gd (n : Int) (hd : Int → Int) (ch : Int → Int → Int) (L R : Int → Int) (m : Nat) (g : Int) (mr : Int → Int) (P W S RT DP : Int → Int → Int) : Prop :=
  xh n hd g mr P W S RT DP ∧ 0 ≤ g ∧ (0 ≤ n ∧ n ≤ 300) ∧ mf_wf n hd ch ∧ (∀ q ∈ mf_E L R m, mf_dom n q.1 ∧ mf_dom n q.2) ∧ mf_rep n hd ch (mf_E L R m) (RT g) (S g) ∧ mf_con n hd ch (mf_E L R m)
section
variable {n n' : Int} {hd hd' : Int → Int} {ch ch' : Int → Int → Int} {L R L' R' : Int → Int} {m : Nat} {g : Int} {mr mr' : Int → Int} {P W S RT DP P' W' S' RT' DP' : Int → Int → Int} {E : List (Int × Int)}
theorem mf_wf_congr (h1 : ∀ t, mf_dom n t → hd' t = hd t) (h2 : ∀ t k, mf_dom n t → 0 ≤ k → k < 3 → ch' t k = ch t k) (hw : mf_wf n hd ch) : mf_wf n hd' ch' := by
  intro t ht
  rw [h1 t ht]
  refine ⟨(hw t ht).1, fun k k0 k1 k2 => ?_⟩
  rw [h2 t k ht k0 (by omega)]
  exact (hw t ht).2 k k0 k1 k2
theorem mf_T_congr (h1 : ∀ t, mf_dom n t → hd' t = hd t) (h2 : ∀ t k, mf_dom n t → 0 ≤ k → k < 3 → ch' t k = ch t k) {s t : Int} (h : mf_T n hd ch E s t) : mf_T n hd' ch' E s t := by
  intro R hR hdec hE
  refine h R hR ?_ hE
  intro s t hs ht hr h0 he k k0 k1
  have := hdec s t hs ht hr (by rw [h1 s hs]; exact h0) (by rw [h1 s hs, h1 t ht]; exact he) k k0 (by rw [h1 s hs]; exact k1)
  rw [h2 s k hs k0 (by omega), h2 t k ht k0 (by omega)] at this
  exact this
theorem mf_con_congr (h1 : ∀ t, mf_dom n t → hd' t = hd t) (h2 : ∀ t k, mf_dom n t → 0 ≤ k → k < 3 → ch' t k = ch t k) (h : mf_con n hd ch E) : mf_con n hd' ch' E := by
  intro s t hs ht hT s0 t0
  rw [h1 s hs] at s0 ⊢
  rw [h1 t ht] at t0 ⊢
  exact h s t hs ht (mf_T_congr (fun t ht => (h1 t ht).symm) (fun t k ht k0 k1 => (h2 t k ht k0 k1).symm) hT) s0 t0
theorem mf_rep_congr {rt sh rt' sh' : Int → Int} (h1 : ∀ t, mf_dom n t → hd' t = hd t) (h2 : ∀ t k, mf_dom n t → 0 ≤ k → k < 3 → ch' t k = ch t k) (h3 : ∀ t, mf_dom n t → rt' t = rt t) (h4 : ∀ t, mf_dom n t → sh' t = sh t) (h : mf_rep n hd ch E rt sh) : mf_rep n hd' ch' E rt' sh' := by
  obtain ⟨p, q⟩ := h
  refine ⟨?_, ?_⟩
  · intro t ht
    obtain ⟨p1, p2, p3⟩ := p t ht
    rw [h3 t ht, h3 _ p1, h1 t ht, h4 _ p1]
    refine ⟨p1, p2, ?_⟩
    rcases p3 with p3 | ⟨p3, p4, p5⟩
    · exact Or.inl p3
    · right
      rw [h3 _ p3, h1 _ p3]
      exact ⟨p3, p4, p5⟩
  · intro s t hs ht
    rw [h3 s hs, h3 t ht, q s t hs ht]
    exact ⟨mf_T_congr h1 h2, mf_T_congr (fun t ht => (h1 t ht).symm) (fun t k ht k0 k1 => (h2 t k ht k0 k1).symm)⟩
theorem xh_congr (h1 : ∀ t, mf_dom n t → hd' t = hd t) (hp : ∀ i, 0 ≤ i → i ≤ g → ∀ t, mf_dom n t → P' i t = P i t ∧ W' i t = W i t ∧ S' i t = S i t ∧ RT' i t = RT i t ∧ DP' i t = DP i t) (hm : ∀ i, 0 ≤ i → i < g → mr' i = mr i) (hg : 0 ≤ g) (h : xh n hd g mr P W S RT DP) : xh n hd' g mr' P' W' S' RT' DP' := by
  obtain ⟨a, b⟩ := h
  constructor
  · intro t ht
    obtain ⟨q1, q2, q3, q4, q5⟩ := hp 0 (by omega) hg t ht
    rw [q1, q2, q3, q4, q5, h1 t ht]
    exact a t ht
  · intro i i0 i1
    obtain ⟨c, c1, c2, c3, c4, c5, c6, c7⟩ := b i i0 i1
    have hi := hp i i0 (by omega)
    have hi1 := hp (i + 1) (by omega) (by omega)
    have em := hm i i0 i1
    refine ⟨c, by rw [em]; exact c1, c2, by rw [em]; exact c3, ?_, ?_, ?_, ?_⟩
    · rw [em, (hi _ c1).2.2.2.1]; exact c4
    · rw [(hi _ c2).2.2.2.1]; exact c5
    · rw [em, (hi1 _ c1).1]; exact c6
    · intro t ht
      obtain ⟨d1, d2, d3, d4, d5⟩ := c7 t ht
      rw [(hi1 t ht).1, (hi1 t ht).2.1, (hi1 t ht).2.2.1, (hi1 t ht).2.2.2.1, (hi1 t ht).2.2.2.2, em, (hi t ht).1, (hi t ht).2.1, (hi t ht).2.2.1, (hi t ht).2.2.2.1, (hi t ht).2.2.2.2, (hi c c2).2.1, (hi c c2).2.2.1, (hi _ c1).2.1, (hi _ c1).2.2.1]
      exact ⟨d1, d2, d3, d4, d5⟩
theorem gd.congr (h : gd n hd ch L R m g mr P W S RT DP) (h1 : ∀ t, mf_dom n t → hd' t = hd t) (h2 : ∀ t k, mf_dom n t → 0 ≤ k → k < 3 → ch' t k = ch t k) (hE : mf_E L' R' m = mf_E L R m)
    (hp : ∀ i, 0 ≤ i → i ≤ g → ∀ t, mf_dom n t → P' i t = P i t ∧ W' i t = W i t ∧ S' i t = S i t ∧ RT' i t = RT i t ∧ DP' i t = DP i t) (hm : ∀ i, 0 ≤ i → i < g → mr' i = mr i) : gd n hd' ch' L' R' m g mr' P' W' S' RT' DP' := by
  obtain ⟨a1, a2, a3, a4, a5, a6, a7⟩ := h
  refine ⟨xh_congr h1 hp hm a2 a1, a2, a3, mf_wf_congr h1 h2 a4, by rw [hE]; exact a5, ?_, ?_⟩
  · rw [hE]
    exact mf_rep_congr h1 h2 (fun t ht => (hp g a2 (Int.le_refl _) t ht).2.2.2.1) (fun t ht => (hp g a2 (Int.le_refl _) t ht).2.2.1) a6
  · rw [hE]
    exact mf_con_congr h1 h2 a7
/-- a new term is alone -/
theorem mf_T_new (hw : mf_wf n hd ch) (hE : ∀ q ∈ E, mf_dom n q.1 ∧ mf_dom n q.2) (h1 : ∀ t, mf_dom n t → hd' t = hd t) (h2 : ∀ t k, mf_dom n t → 0 ≤ k → k < 3 → ch' t k = ch t k) {s t : Int} (h : mf_T (n + 1) hd' ch' E s t) : s = t ∨ (mf_dom n s ∧ mf_dom n t ∧ mf_T n hd ch E s t) := by
  refine h (fun s t => s = t ∨ (mf_dom n s ∧ mf_dom n t ∧ mf_T n hd ch E s t)) ⟨fun t => Or.inl rfl, ?_, ?_⟩ ?_ ?_
  · rintro s t (e | ⟨a, b, c⟩)
    · exact Or.inl e.symm
    · exact Or.inr ⟨b, a, mf_T_eqv.2.1 _ _ c⟩
  · rintro s t u (e | ⟨a, b, c⟩) h2
    · subst e
      exact h2
    · rcases h2 with e | ⟨a', b', c'⟩
      · subst e
        exact Or.inr ⟨a, b, c⟩
      · exact Or.inr ⟨a, b', mf_T_eqv.2.2 _ _ _ c c'⟩
  · intro s t hs ht hr h0 he k k0 k1
    rcases hr with e | ⟨a, b, c⟩
    · subst e
      exact Or.inl rfl
    · right
      rw [h1 s a] at h0 he k1
      rw [h1 t b] at he
      rw [h2 s k a k0 (by omega), h2 t k b k0 (by omega)]
      exact ⟨mf_wf_ch hw a h0 k0 k1, mf_wf_ch hw b (he ▸ h0) k0 (he ▸ k1), mf_T_dec s t a b c h0 he k k0 k1⟩
  · intro q hq
    exact Or.inr ⟨(hE q hq).1, (hE q hq).2, mf_T_in hq⟩
theorem mf_T_old (h1 : ∀ t, mf_dom n t → hd' t = hd t) (h2 : ∀ t k, mf_dom n t → 0 ≤ k → k < 3 → ch' t k = ch t k) {s t : Int} (h : mf_T n hd ch E s t) : mf_T (n + 1) hd' ch' E s t := by
  intro R hR hdec hE
  refine mf_T_congr h1 h2 h R hR ?_ hE
  intro s t hs ht
  exact hdec s t ⟨hs.1, by have := hs.2; omega⟩ ⟨ht.1, by have := ht.2; omega⟩
def xadd (n v : Int) (F : Int → Int → Int) : Int → Int → Int := fun i t => if t = n then v else F i t
theorem xadd_o {v i t : Int} {F : Int → Int → Int} (h : mf_dom n t) : xadd n v F i t = F i t := by
  unfold xadd
  rw [if_neg (by have := h.2; omega)]
theorem xadd_n {v i : Int} {F : Int → Int → Int} : xadd n v F i n = v := by
  unfold xadd
  rw [if_pos rfl]
theorem gd.add (h : gd n hd ch L R m g mr P W S RT DP) (hn : n < 300) (h1 : ∀ t, mf_dom n t → hd' t = hd t) (h2 : ∀ t k, mf_dom n t → 0 ≤ k → k < 3 → ch' t k = ch t k) (h3 : hd' n = -1 ∨ (0 ≤ hd' n ∧ hd' n < 64)) (h4 : 0 ≤ hd' n → ∀ k, 0 ≤ k → k < hd' n % 4 → mf_dom n (ch' n k)) :
    gd (n + 1) hd' ch' L R m g mr (xadd n n P) (xadd n 1 W) (xadd n (if hd' n = -1 then -1 else n) S) (xadd n n RT) (xadd n 0 DP) := by
  obtain ⟨a1, a2, a3, a4, a5, a6, a7⟩ := h
  have two : ∀ t, mf_dom (n + 1) t → mf_dom n t ∨ t = n := by
    intro t ht
    have b1 := ht.1
    have b2 := ht.2
    by_cases q : t = n
    · exact Or.inr q
    · exact Or.inl ⟨b1, by omega⟩
  have up : ∀ t, mf_dom n t → mf_dom (n + 1) t := fun t ht => ⟨ht.1, by have := ht.2; omega⟩
  have nn : mf_dom (n + 1) n := ⟨a3.1, by omega⟩
  refine ⟨?_, a2, ⟨by omega, by omega⟩, ?_, fun q hq => ⟨up _ (a5 q hq).1, up _ (a5 q hq).2⟩, ⟨?_, ?_⟩, ?_⟩
  · obtain ⟨b1, b2⟩ := a1
    constructor
    · intro t ht
      rcases two t ht with q | q
      · rw [xadd_o q, xadd_o q, xadd_o q, xadd_o q, xadd_o q, h1 t q]
        exact b1 t q
      · subst q
        rw [xadd_n, xadd_n, xadd_n, xadd_n, xadd_n]
        exact ⟨rfl, rfl, rfl, rfl, rfl⟩
    · intro i i0 i1
      obtain ⟨c, c1, c2, c3, c4, c5, c6, c7⟩ := b2 i i0 i1
      refine ⟨c, up _ c1, up _ c2, c3, by rw [xadd_o c1]; exact c4, by rw [xadd_o c2]; exact c5, by rw [xadd_o c1]; exact c6, ?_⟩
      intro t ht
      rw [xadd_o c2, xadd_o c2, xadd_o c1, xadd_o c1]
      rcases two t ht with q | q
      · rw [xadd_o q, xadd_o q, xadd_o q, xadd_o q, xadd_o q, xadd_o q, xadd_o q, xadd_o q, xadd_o q, xadd_o q]
        exact c7 t q
      · subst q
        have n1 : ¬ t = mr i := by have := c1.2; omega
        have n2 : ¬ t = c := by have := c2.2; omega
        simp only [xadd_n]
        rw [if_neg n1, if_neg n2, if_neg n2, if_neg n1]
        exact ⟨rfl, rfl, rfl, rfl, rfl⟩
  · intro t ht
    rcases two t ht with q | q
    · rw [h1 t q]
      refine ⟨(a4 t q).1, fun k k0 k1 k2 => ?_⟩
      rw [h2 t k q k0 (by omega)]
      exact (a4 t q).2 k k0 k1 k2
    · subst q
      exact ⟨h3, fun k k0 k1 k2 => h4 k2 k k0 k1⟩
  · intro t ht
    rcases two t ht with q | q
    · obtain ⟨p1, p2, p3⟩ := a6.1 t q
      rw [xadd_o q, xadd_o p1, h1 t q, xadd_o p1]
      refine ⟨up _ p1, p2, ?_⟩
      rcases p3 with p3 | ⟨p3, p4, p5⟩
      · exact Or.inl p3
      · right
        rw [xadd_o p3, h1 _ p3]
        exact ⟨up _ p3, p4, p5⟩
    · subst q
      simp only [xadd_n]
      refine ⟨nn, trivial, ?_⟩
      by_cases q : hd' t = -1
      · rw [if_pos q]
        exact Or.inl ⟨rfl, q⟩
      · rw [if_neg q]
        right
        simp only [xadd_n]
        refine ⟨nn, trivial, ?_⟩
        rcases h3 with h3 | h3
        · exact absurd h3 q
        · exact h3.1
  · intro s t hs ht
    rcases two s hs with q | q
    · rcases two t ht with q' | q'
      · rw [xadd_o q, xadd_o q', a6.2 s t q q']
        constructor
        · exact mf_T_old h1 h2
        · intro hT
          rcases mf_T_new a4 a5 h1 h2 hT with e | e
          · subst e
            exact mf_T_eqv.1 _
          · exact e.2.2
      · subst q'
        rw [xadd_o q, xadd_n]
        constructor
        · intro e
          have := (a6.1 s q).1.2
          omega
        · intro hT
          rcases mf_T_new a4 a5 h1 h2 hT with e | e
          · have := q.2; omega
          · have := e.2.1.2; omega
    · subst q
      rcases two t ht with q' | q'
      · rw [xadd_o q', xadd_n]
        constructor
        · intro e
          have := (a6.1 t q').1.2
          omega
        · intro hT
          rcases mf_T_new a4 a5 h1 h2 hT with e | e
          · have := q'.2; omega
          · have := e.1.2; omega
      · subst q'
        exact ⟨fun _ => mf_T_eqv.1 _, fun _ => rfl⟩
  · intro s t hs ht hT s0 t0
    rcases mf_T_new a4 a5 h1 h2 hT with e | ⟨e1, e2, e3⟩
    · rw [e]
    · rw [h1 s e1] at s0 ⊢
      rw [h1 t e2] at t0 ⊢
      exact a7 s t e1 e2 e3 s0 t0
theorem gd.lt (h : gd n hd ch L R m g mr P W S RT DP) : g ≤ n ∧ g < 300 := by
  obtain ⟨a1, a2, a3, a4, a5, a6, a7⟩ := h
  have ho := xh_at a1 a3.1 (fun t ht => by rcases (a4 t ht).1 with q | q <;> omega) a2 (Int.le_refl _)
  have hl := xo_len ho
  refine ⟨hl, ?_⟩
  by_cases q : n = 0
  · omega
  · have d0 : mf_dom n 0 := ⟨by omega, by omega⟩
    have r0 := (a6.1 0 d0).1
    have e1 := mf_cnt_one (n := n.toNat) (a := RT g 0) r0.1 (mf_dom_nat r0)
    have e4 := mf_cnt_le (P := fun t => t = RT g 0) (Q := fun t => RT g t = t) (n := n.toNat) (fun t _ _ q => by
      rw [q]
      exact (a6.1 0 d0).2.1)
    have e5 := ho.2.2
    omega
theorem gd.xs {G : tf_Sto} (h : gd (G 1 0) (G 2) (xC G) L R m g mr P W S RT DP) (hu : xu (G 1 0) g mr P W S G) : xs (G 1 0) (G 2) (xC G) (RT g) (S g) G := by
  have hlt := h.lt
  obtain ⟨a1, a2, a3, a4, a5, a6, a7⟩ := h
  have ho := xh_at a1 a3.1 (fun t ht => by rcases (a4 t ht).1 with q | q <;> omega) a2 (Int.le_refl _)
  exact ⟨rfl, a3, a4, fun _ _ => rfl, fun _ _ => rfl, fun t ht => (hu.2.1 t ht).2.2, g, W g, DP g, hlt.2, xo_congr ho fun t ht => (hu.2.1 t ht).1⟩
end
