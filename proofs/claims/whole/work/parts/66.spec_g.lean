-- SPEC G: the reference: all equations
def mf_E (L R : Int → Int) (m : Nat) : List (Int × Int) := match m with
  | 0 => []
  | m + 1 => mf_E L R m ++ [(L (m : Int), R (m : Int))]
theorem mf_E_mem {L R : Int → Int} {m : Nat} {q : Int × Int} : q ∈ mf_E L R m ↔ ∃ j : Int, 0 ≤ j ∧ j < m ∧ q = (L j, R j) := by
  induction m with
  | zero =>
    constructor
    · intro h; cases h
    · rintro ⟨j, h0, h1, -⟩; omega
  | succ m ih =>
    show q ∈ mf_E L R m ++ [(L (m : Int), R (m : Int))] ↔ _
    rw [List.mem_append, ih]
    constructor
    · rintro (⟨j, h0, h1, e⟩ | h)
      · exact ⟨j, h0, by omega, e⟩
      · have : q = (L (m : Int), R (m : Int)) := by simpa using h
        exact ⟨m, by omega, by omega, this⟩
    · rintro ⟨j, h0, h1, e⟩
      by_cases h : j = m
      · right; rw [e, h]; exact List.mem_cons_self
      · left; exact ⟨j, h0, by omega, e⟩
theorem mf_E_congr {L R L' R' : Int → Int} {m : Nat} (h : ∀ j : Int, 0 ≤ j → j < m → L' j = L j ∧ R' j = R j) : mf_E L' R' m = mf_E L R m := by
  induction m with
  | zero => rfl
  | succ m ih =>
    show mf_E L' R' m ++ [(L' (m : Int), R' (m : Int))] = mf_E L R m ++ [(L (m : Int), R (m : Int))]
    rw [ih (fun j h0 h1 => h j h0 (by omega)), (h m (by omega) (by omega)).1, (h m (by omega) (by omega)).2]
theorem mf_con_mono {n : Int} {hd : Int → Int} {ch : Int → Int → Int} {E E' : List (Int × Int)} (h : ∀ q ∈ E, q ∈ E') (hc : mf_con n hd ch E') : mf_con n hd ch E := fun s t hs ht hT => hc s t hs ht (mf_T_mono h hT)
section
variable {l : Launch} {G : tf_Sto} {n : Int} {hd : Int → Int} {ch : Int → Int → Int} {E : List (Int × Int)}
set_option maxHeartbeats 2000000 in
theorem sp_86 (hv : mv n hd ch G) (hn : 0 ≤ n ∧ n ≤ 300) (hwf : mf_wf n hd ch) (hE : ∀ q ∈ E, mf_dom n q.1 ∧ mf_dom n q.2) (hr : mf_rep n hd ch E (G 50) (G 51)) (hcon : mf_con n hd ch E) {a b : Int} (ha : mf_dom n a) (hb : mf_dom n b) :
    tf_RUN l 86 [tf_r 42, tf_i a, tf_i b] G (tf_PI fun r G' => mfr G G' ∧ ((r = 1 ∧ mf_rep n hd ch (E ++ [(a, b)]) (G' 50) (G' 51) ∧ mf_con n hd ch (E ++ [(a, b)])) ∨ (r = 0 ∧ ¬ mf_con n hd ch (E ++ [(a, b)])))) := by
  have hE' : ∀ q ∈ E ++ [(a, b)], mf_dom n q.1 ∧ mf_dom n q.2 := by
    intro q hq
    rcases List.mem_append.mp hq with h | h
    · exact hE q h
    · have : q = (a, b) := by simpa using h
      rw [this]; exact ⟨ha, hb⟩
  refine vc_86 ?_
  have e14 : tf_up G 42 14 0 42 14 = 0 := tf_up_at
  refine tf_rv (sp_84 (by rw [e14]; omega)) ?_
  rintro _ rfl
  rw [e14]
  have key : ∀ (d : Nat) (G1 : tf_Sto) (good : Int), mfr G G1 → ((good = 0 ∧ ¬ mf_con n hd ch (E ++ [(a, b)])) ∨ (good = 1 ∧ ∃ c : Int, 0 ≤ c ∧ G1 42 14 = 2 * c ∧
      mf_inv n hd ch (E ++ [(a, b)]) (G1 50) (G1 51) (fun u v => ∃ j, 0 ≤ j ∧ j < c ∧ u = G1 52 (2 * j) ∧ v = G1 52 (2 * j + 1)) ∧ c ≤ 1 + 3 * (n - mf_cnt (fun t => G1 50 t = t) n.toNat) ∧ c + 4 * mf_cnt (fun t => G1 50 t = t) n.toNat ≤ d)) →
      tf_AW l 86 none (tf_PI fun r G' => mfr G G' ∧ ((r = 1 ∧ mf_rep n hd ch (E ++ [(a, b)]) (G' 50) (G' 51) ∧ mf_con n hd ch (E ++ [(a, b)])) ∨ (r = 0 ∧ ¬ mf_con n hd ch (E ++ [(a, b)])))) 13 [(0, tf_r 42), (3, tf_i good)] [] (none, false) G1 := by
    intro d
    induction d with
    | zero =>
      intro G1 good hf hg
      rcases hg with ⟨rfl, hg⟩ | ⟨rfl, c, c0, c1, I, c2, c3⟩
      · exact vc_86_13 ⟨fun _ => ⟨by decide, tf_pi ⟨hf, Or.inr ⟨rfl, hg⟩⟩⟩, fun _ => ⟨fun _ => ⟨by decide, tf_pi ⟨hf, Or.inr ⟨rfl, hg⟩⟩⟩, fun z => by omega⟩⟩
      · have := (mf_cnt_in (fun t => G1 50 t = t) n.toNat).1
        refine vc_86_13 ⟨fun _ => ⟨by decide, tf_pi ⟨hf, Or.inl ⟨rfl, mf_done hwf hE' I (fun u v ⟨j, j0, j1, _⟩ => by omega)⟩⟩⟩, fun z => by omega⟩
    | succ d ih =>
      intro G1 good hf hg
      rcases hg with ⟨rfl, hg⟩ | ⟨rfl, c, c0, c1, I, c2, c3⟩
      · exact vc_86_13 ⟨fun _ => ⟨by decide, tf_pi ⟨hf, Or.inr ⟨rfl, hg⟩⟩⟩, fun _ => ⟨fun _ => ⟨by decide, tf_pi ⟨hf, Or.inr ⟨rfl, hg⟩⟩⟩, fun z => by omega⟩⟩
      · have hc0 := mf_cnt_in (fun t => G1 50 t = t) n.toNat
        refine vc_86_13 ⟨fun z => ⟨by decide, tf_pi ⟨hf, Or.inl ⟨rfl, mf_done hwf hE' I (fun u v ⟨j, j0, j1, _⟩ => by omega)⟩⟩⟩, fun z => ⟨fun z' => by omega, fun _ => ⟨by omega, by omega, by omega, by omega, ?_⟩⟩⟩
        rw [c1]
        have e1 : 2 * c - 2 = 2 * (c - 1) := by omega
        rw [e1]
        have hQ : ∃ j, 0 ≤ j ∧ j < c ∧ G1 52 (2 * (c - 1)) = G1 52 (2 * j) ∧ G1 52 (2 * (c - 1) + 1) = G1 52 (2 * j + 1) := ⟨c - 1, by omega, by omega, rfl, rfl⟩
        obtain ⟨d1, d2, hT⟩ := I.2.1 _ _ hQ
        have u50 : tf_up G1 42 14 (2 * (c - 1)) 50 = G1 50 := tf_upo (by decide)
        have u51 : tf_up G1 42 14 (2 * (c - 1)) 51 = G1 51 := tf_upo (by decide)
        have u52 : tf_up G1 42 14 (2 * (c - 1)) 52 = G1 52 := tf_upo (by decide)
        have u14 : tf_up G1 42 14 (2 * (c - 1)) 42 14 = 2 * (c - 1) := tf_up_at
        have hf1 : mfr G (tf_up G1 42 14 (2 * (c - 1))) := by
          refine hf.trans ⟨fun k a1 _ _ _ => tf_upo a1, fun j hj => ?_⟩
          rw [tf_up_eq, if_neg hj]
        have hv1 := hv.mf hf1
        have hspec := sp_85 (l := l) (a := G1 52 (2 * (c - 1))) (b := G1 52 (2 * (c - 1) + 1)) hv1 hn.2 (by rw [u50, u51]; exact I.1) d1 d2 (by rw [u14]; omega)
        refine tf_ri hspec ?_
        clear hspec
        rintro r G2 (⟨q1, rfl, rfl⟩ | ⟨q1, q2, q3, q4, q5, rfl⟩ | ⟨q1, q2, q3, rfl, q4, q5⟩)
        · rw [u50] at q1
          refine ih _ _ hf1 (Or.inr ⟨rfl, c - 1, by omega, u14, ?_, ?_, ?_⟩)
          · rw [u50, u51, u52]
            refine mf_same I hQ q1 (fun u v ⟨j, j0, j1, e2, e3⟩ => ?_) (fun u v ⟨j, j0, j1, e2, e3⟩ => ⟨j, j0, by omega, e2, e3⟩)
            by_cases q : j = c - 1
            · subst q; exact Or.inl ⟨e2, e3⟩
            · exact Or.inr ⟨j, j0, by omega, e2, e3⟩
          · rw [u50]; omega
          · rw [u50]; omega
        · rw [u50, u51] at q3 q4 q5
          exact ih _ _ (hf1.trans q2) (Or.inl ⟨rfl, mf_fail I hQ q3 q4 q5⟩)
        · rw [u50] at q1
          rw [u50, u51] at q3 q5
          obtain ⟨m1, m2⟩ := q4
          rw [u50] at m1 m2
          rw [u51] at m2
          obtain ⟨pa1, pa2, pa3⟩ := I.1 _ d1
          obtain ⟨pb1, pb2, pb3⟩ := I.1 _ d2
          generalize hx : G1 50 (G1 52 (2 * (c - 1))) = x at *
          generalize hy : G1 50 (G1 52 (2 * (c - 1) + 1)) = y at *
          have hroots := mf_roots (n := n) (a := y) (b := x) (rt := G1 50) (rt' := G2 50) pb1 (Ne.symm q1) pb2 pa2 m1
          have hc1 := mf_cnt_in (fun t => G2 50 t = t) n.toNat
          have hwt : ∃ m, 0 ≤ m ∧ m ≤ 3 ∧ G2 42 14 = 2 * (c - 1) + 2 * m ∧ (∀ j, j < 2 * (c - 1) → G2 52 j = G1 52 j) ∧
              (∀ k, 0 ≤ k → k < m → G1 51 x ≠ -1 ∧ G1 51 y ≠ -1 ∧ k < hd (G1 51 x) % 4 ∧ G2 52 (2 * (c - 1) + 2 * k) = ch (G1 51 x) k ∧ G2 52 (2 * (c - 1) + 2 * k + 1) = ch (G1 51 y) k) ∧
              (G1 51 x ≠ -1 → G1 51 y ≠ -1 → m = hd (G1 51 x) % 4) := by
            rcases q5 with ⟨s1, s2, w1, w2, w3⟩ | ⟨s1, w1, w2, w3⟩
            · rw [u14] at w1 w2 w3
              rw [u52] at w2
              refine ⟨_, by omega, by omega, w1, w2, fun k k0 k1 => ⟨s1, s2, k1, w3 k k0 k1⟩, fun _ _ => rfl⟩
            · rw [u14] at w1 w2
              rw [u52] at w2
              refine ⟨0, by omega, by omega, by omega, w2, fun k k0 k1 => by omega, fun z1 z2 => ?_⟩
              rcases s1 with s1 | s1
              · exact absurd s1 z1
              · exact absurd s1 z2
          obtain ⟨m, m0, m1', w1, w2, w3, w4⟩ := hwt
          refine ih _ _ (hf1.trans q2) (Or.inr ⟨rfl, c - 1 + m, by omega, by omega, ?_, by omega, by omega⟩)
          have hsx : G1 50 (G1 52 (2 * (c - 1))) ≠ G1 50 (G1 52 (2 * (c - 1) + 1)) := by rw [hx, hy]; exact q1
          refine mf_merge I hQ hsx (keep := x) (gone := y) (Or.inl ⟨hx.symm, hy.symm⟩) (by rw [hx, hy]; exact q3) m1 ?_ ?_ ?_ ?_ ?_ hwf
          · rw [m2, if_pos rfl]
          · intro r hr _ z1 z2
            rw [m2, if_neg z1]
          · intro u v ⟨j, j0, j1, e2, e3⟩
            by_cases q : j = c - 1
            · subst q; exact Or.inl ⟨e2, e3⟩
            · exact Or.inr ⟨j, j0, by omega, by rw [w2 _ (by omega)]; exact e2, by rw [w2 _ (by omega)]; exact e3⟩
          · intro u v ⟨j, j0, j1, e2, e3⟩
            rw [hx, hy]
            by_cases q : j < c - 1
            · exact Or.inl ⟨j, j0, by omega, by rw [← w2 _ (by omega)]; exact e2, by rw [← w2 _ (by omega)]; exact e3⟩
            · right
              obtain ⟨n1, n2, n3, n4, n5⟩ := w3 (j - (c - 1)) (by omega) (by omega)
              have ej : 2 * (c - 1) + 2 * (j - (c - 1)) = 2 * j := by omega
              rw [ej] at n4 n5
              exact ⟨n1, n2, j - (c - 1), by omega, n3, by rw [e2, n4], by rw [e3, n5]⟩
          · rw [hx, hy]
            intro z1 z2 k k0 k1
            have em := w4 z1 z2
            obtain ⟨n1, n2, n3, n4, n5⟩ := w3 k k0 (by omega)
            have ej : 2 * (c - 1) + 2 * k = 2 * (c - 1 + k) := by omega
            rw [ej] at n4 n5
            exact ⟨c - 1 + k, by omega, by omega, n4.symm, n5.symm⟩
  have hc0 := mf_cnt_in (fun t => G 50 t = t) n.toNat
  refine key 1300 _ 1 ?_ (Or.inr ⟨rfl, 1, by omega, ?_, ?_, ?_, ?_⟩)
  · refine ⟨fun k a1 _ _ a4 => ?_, fun j hj => ?_⟩
    · rw [tf_upo a1, tf_upo a4, tf_upo a4, tf_upo a1]
    · simp only [tf_upo, tf_upo', tf_up_eq, ne_eq, Nat.reduceEqDiff, not_false_eq_true, reduceCtorEq]
      rw [if_neg hj, if_neg hj]
  · rw [tf_up_at]; omega
  · have I := mf_begin hwf hE hr hcon ha hb
    have eq : (fun u v => ∃ j, 0 ≤ j ∧ j < (1 : Int) ∧ u = tf_up (tf_up (tf_up (tf_up G 42 14 0) 52 0 a) 52 (0 + 1) b) 42 14 (0 + 2) 52 (2 * j) ∧ v = tf_up (tf_up (tf_up (tf_up G 42 14 0) 52 0 a) 52 (0 + 1) b) 42 14 (0 + 2) 52 (2 * j + 1)) = (fun u v => u = a ∧ v = b) := by
      funext u v
      apply propext
      simp only [tf_upo, tf_upo', tf_up_eq, ne_eq, Nat.reduceEqDiff, not_false_eq_true, reduceCtorEq]
      constructor
      · rintro ⟨j, j0, j1, e1, e2⟩
        have : j = 0 := by omega
        rw [if_neg (by omega), if_pos (by omega)] at e1
        rw [if_pos (by omega)] at e2
        exact ⟨e1, e2⟩
      · rintro ⟨e1, e2⟩
        refine ⟨0, by omega, by omega, ?_, ?_⟩
        · rw [if_neg (by omega), if_pos (by omega)]; exact e1
        · rw [if_pos (by omega)]; exact e2
    rw [eq]
    simp only [tf_upo, tf_upo', tf_up_eq, ne_eq, Nat.reduceEqDiff, not_false_eq_true, reduceCtorEq]
    exact I
  · simp only [tf_upo, tf_upo', tf_up_eq, ne_eq, Nat.reduceEqDiff, not_false_eq_true, reduceCtorEq]
    omega
  · simp only [tf_upo, tf_upo', tf_up_eq, ne_eq, Nat.reduceEqDiff, not_false_eq_true, reduceCtorEq]
    omega
set_option maxHeartbeats 1000000 in
theorem sp_87 {m : Nat} (hv : mv n hd ch G) (hn : 0 ≤ n ∧ n ≤ 300) (hwf : mf_wf n hd ch) (hm : G 42 5 = m) (hm5 : m ≤ 4999) (hE : ∀ q ∈ mf_E (G 46) (G 47) m, mf_dom n q.1 ∧ mf_dom n q.2) (hcon : mf_con n hd ch (mf_E (G 46) (G 47) m)) :
    tf_RUN l 87 [tf_r 42] G (tf_PV fun G' => mfr G G' ∧ mf_rep n hd ch (mf_E (G 46) (G 47) m) (G' 50) (G' 51)) := by
  refine vc_87 ?_
  have k2 : ∀ (d : Nat) (G1 : tf_Sto) (good : Int) (e : Nat), e + d = m → mfr G G1 → mf_rep n hd ch (mf_E (G 46) (G 47) e) (G1 50) (G1 51) →
      tf_AW l 87 none (tf_PV fun G' => mfr G G' ∧ mf_rep n hd ch (mf_E (G 46) (G 47) m) (G' 50) (G' 51)) 47 [(0, tf_r 42), (1, tf_i good), (2, tf_i (e : Int))] [] (none, false) G1 := by
    intro d
    induction d with
    | zero =>
      intro G1 good e he hf hr
      have e5 : G1 42 5 = m := by rw [hf.2 5 (by decide)]; exact hm
      have : e = m := by omega
      subst this
      exact vc_87_47 ⟨fun _ => tf_pv ⟨hf, hr⟩, fun z => by omega⟩
    | succ d ih =>
      intro G1 good e he hf hr
      have e5 : G1 42 5 = m := by rw [hf.2 5 (by decide)]; exact hm
      have f46 : G1 46 = G 46 := hf.1 46 (by decide) (by decide) (by decide) (by decide)
      have f47 : G1 47 = G 47 := hf.1 47 (by decide) (by decide) (by decide) (by decide)
      have hsub : ∀ q ∈ mf_E (G 46) (G 47) e, q ∈ mf_E (G 46) (G 47) m := by
        intro q hq
        obtain ⟨j, j0, j1, ej⟩ := mf_E_mem.mp hq
        exact mf_E_mem.mpr ⟨j, j0, by omega, ej⟩
      have hsub' : ∀ q ∈ mf_E (G 46) (G 47) (e + 1), q ∈ mf_E (G 46) (G 47) m := by
        intro q hq
        obtain ⟨j, j0, j1, ej⟩ := mf_E_mem.mp hq
        exact mf_E_mem.mpr ⟨j, j0, by omega, ej⟩
      have hd1 := hE (G 46 e, G 47 e) (mf_E_mem.mpr ⟨e, by omega, by omega, rfl⟩)
      refine vc_87_47 ⟨fun z => by omega, fun _ => ⟨by omega, by omega, ?_⟩⟩
      rw [f46, f47]
      refine tf_ri (sp_86 (hv.mf hf) hn hwf (fun q hq => hE q (hsub q hq)) hr (mf_con_mono hsub hcon) hd1.1 hd1.2) ?_
      have hcon1 : mf_con n hd ch (mf_E (G 46) (G 47) e ++ [(G 46 e, G 47 e)]) := mf_con_mono hsub' hcon
      rintro r G2 ⟨hf2, ⟨rfl, hr2, -⟩ | ⟨rfl, hr2⟩⟩
      · have ee : (e : Int) + 1 = ((e + 1 : Nat) : Int) := by omega
        rw [ee]
        refine ⟨fun z => by omega, fun _ => ⟨fun _ => ⟨by omega, ih G2 _ (e + 1) (by omega) (hf.trans hf2) hr2⟩, fun _ => ⟨by omega, ih G2 _ (e + 1) (by omega) (hf.trans hf2) hr2⟩⟩⟩
      · exact absurd hcon1 hr2
  have k1 : ∀ (d : Nat) (G1 : tf_Sto) (k : Int), 0 ≤ k → k + d = n → mfr G G1 → (∀ t, mf_dom n t → t < k → G1 50 t = t ∧ G1 51 t = if hd t = -1 then -1 else t) →
      tf_AW l 87 none (tf_PV fun G' => mfr G G' ∧ mf_rep n hd ch (mf_E (G 46) (G 47) m) (G' 50) (G' 51)) 2 [(0, tf_r 42), (1, tf_i k)] [] (none, false) G1 := by
    intro d
    induction d with
    | zero =>
      intro G1 k h0 h1 hf h2
      have en : G1 42 1 = n := by rw [hf.2 1 (by decide)]; exact hv.1
      refine vc_87_2 ⟨fun _ => k2 m G1 1 0 (by omega) hf ⟨fun t ht => ?_, fun s t hs ht => ?_⟩, fun z => by omega⟩
      · obtain ⟨q1, q2⟩ := h2 t ht (by have := ht.2; omega)
        rw [q1, q1, q2]
        refine ⟨ht, rfl, ?_⟩
        rcases (hwf t ht).1 with z | z
        · rw [if_pos z]; exact Or.inl ⟨rfl, z⟩
        · rw [if_neg (by omega)]; exact Or.inr ⟨ht, q1, z.1⟩
      · rw [(h2 t ht (by have := ht.2; omega)).1, (h2 s hs (by have := hs.2; omega)).1]
        constructor
        · intro e; rw [e]; exact mf_T_eqv.1 t
        · intro e; exact mf_T_nil e
    | succ d ih =>
      intro G1 k h0 h1 hf h2
      have en : G1 42 1 = n := by rw [hf.2 1 (by decide)]; exact hv.1
      have dk : mf_dom n k := ⟨h0, by omega⟩
      have f43 : G1 43 = G 43 := hf.1 43 (by decide) (by decide) (by decide) (by decide)
      have hs : (hd k = -1 ∧ G 43 k = -1) ∨ (hd k ≠ -1 ∧ 0 ≤ G 43 k) := by
        rcases (hv.2 k dk).1 with z | z
        · exact Or.inl ⟨z.1, z.2.1⟩
        · right
          refine ⟨by omega, ?_⟩
          rw [z.2.2.1]; omega
      have hstep : ∀ v, (v = if hd k = -1 then -1 else k) → mfr G (tf_up (tf_up G1 50 k k) 51 k v) ∧ ∀ t, mf_dom n t → t < k + 1 → tf_up (tf_up G1 50 k k) 51 k v 50 t = t ∧ tf_up (tf_up G1 50 k k) 51 k v 51 t = if hd t = -1 then -1 else t := by
        intro v hv'
        refine ⟨hf.trans ⟨fun j _ a2 a3 _ => by rw [tf_upo a3, tf_upo a2], fun j _ => by rw [tf_upo (by decide), tf_upo (by decide)]⟩, fun t ht htk => ?_⟩
        simp only [tf_upo, tf_upo', tf_up_eq, ne_eq, Nat.reduceEqDiff, not_false_eq_true, reduceCtorEq]
        by_cases q : t = k
        · rw [if_pos q, if_pos q, q]; exact ⟨rfl, hv'⟩
        · rw [if_neg q, if_neg q]
          exact h2 t ht (by omega)
      refine vc_87_2 ⟨fun z => by omega, fun _ => ⟨by omega, by omega, fun q => ⟨by omega, by omega, ?_⟩, fun q => ⟨by omega, by omega, ?_⟩⟩⟩
      · rw [f43] at q
        obtain ⟨z1, z2⟩ := hstep k (by rw [if_neg (by omega)])
        exact ih _ _ (by omega) (by omega) z1 z2
      · rw [f43] at q
        obtain ⟨z1, z2⟩ := hstep (-1) (by rw [if_pos (by omega)])
        exact ih _ _ (by omega) (by omega) z1 z2
  exact k1 n.toNat G 0 (by omega) (by omega) mfr.refl (fun t ht h => by have := ht.1; omega)
end
