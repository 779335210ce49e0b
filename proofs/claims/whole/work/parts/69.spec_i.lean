-- SPEC I: the reference: grow
def mgf (G G' : tf_Sto) : Prop := (∀ k : Nat, k ≠ 42 → (k < 50 ∨ 55 < k) → G' k = G k) ∧ ∀ j, j ≠ 14 → j ≠ 18 → G' 42 j = G 42 j
theorem mgf.refl {G : tf_Sto} : mgf G G := ⟨fun _ _ _ => rfl, fun _ _ _ => rfl⟩
theorem mgf.trans {G G' G'' : tf_Sto} (h : mgf G G') (h' : mgf G' G'') : mgf G G'' := ⟨fun k a b => (h'.1 k a b).trans (h.1 k a b), fun j a b => (h'.2 j a b).trans (h.2 j a b)⟩
theorem mfr.g {G G' : tf_Sto} (h : mfr G G') : mgf G G' := ⟨fun k a b => h.1 k a (by omega) (by omega) (by omega), fun j a _ => h.2 j a⟩
theorem mfr2.g {G G' : tf_Sto} (h : mfr2 G G') : mgf G G' := ⟨fun k a b => h.1 k a (by omega) (by omega) (by omega), fun j _ a => h.2 j a⟩
/-- the trees of the terms, as the reference holds them -/
def mt (n : Int) (hd : Int → Int) (ch : Int → Int → Int) (E : List (Int × Int)) (G : tf_Sto) : Prop := ms n hd ch G ∧ mf_rep n hd ch E (G 50) (G 51) ∧ mf_sol n hd ch (mf_T n hd ch E) (G 42 18) (G 53) ∧ 0 ≤ G 42 18 ∧ ∀ x, mf_dom (G 42 18) x → mf_dom n (G 55 x) ∧ G 53 (G 55 x) = x
section
variable {l : Launch} {G : tf_Sto} {n : Int} {hd : Int → Int} {ch : Int → Int → Int} {E : List (Int × Int)}
set_option maxHeartbeats 2000000 in
theorem sp_96b (hcon : mf_con n hd ch E) : ∀ (d : Nat) (G1 : tf_Sto) (more : Int), mgf G G1 → ms n hd ch G1 → mf_rep n hd ch E (G1 50) (G1 51) →
    (∀ s t, mf_dom n s → mf_dom n t → G1 53 s = G1 53 t → mh hd (G1 50) (G1 51) s = mh hd (G1 50) (G1 51) t ∧ (mh hd (G1 50) (G1 51) s = -1 → G1 50 s = G1 50 t)) →
    (∀ s t, mf_dom n s → mf_dom n t → G1 50 s = G1 50 t → G1 53 s = G1 53 t) → (∀ B, mf_ck n (mh hd (G1 50) (G1 51)) (G1 50) (mc ch (G1 50) (G1 51)) B → ∀ s t, mf_dom n s → mf_dom n t → B s t → G1 53 s = G1 53 t) →
    ((more = 1 ∧ ((G1 42 18 = 0 ∧ n + 2 ≤ d) ∨ (0 ≤ G1 42 18 ∧ mf_Num n (G1 42 18) (G1 53) ∧ n - G1 42 18 + 1 ≤ d))) ∨
      (more = 0 ∧ 0 ≤ G1 42 18 ∧ mf_Num n (G1 42 18) (G1 53) ∧ (∀ x, mf_dom (G1 42 18) x → mf_dom n (G1 55 x) ∧ G1 53 (G1 55 x) = x) ∧ ∀ s t, mf_dom n s → mf_dom n t → G1 53 s = G1 53 t → ∀ k, 0 ≤ k → k < mf_w (mh hd (G1 50) (G1 51) s) → G1 53 (mc ch (G1 50) (G1 51) s k) = G1 53 (mc ch (G1 50) (G1 51) t k))) →
    tf_AW l 96 none (tf_PV fun G' => mgf G G' ∧ mt n hd ch E G') 88 [(0, tf_r 42), (1, tf_i more)] [] (none, false) G1 := by
  intro d
  induction d with
  | zero =>
    intro G1 more hf hm hr ha hb hc hx
    rcases hx with ⟨rfl, hx⟩ | ⟨rfl, x1, x2, x3, x4⟩
    · exfalso
      have h0 := hm.2.1.1
      rcases hx with ⟨-, hx⟩ | ⟨q1, q2, q3⟩
      · omega
      · have := mf_num_n q2 q1 h0
        omega
    · exact vc_96_88 ⟨fun _ => tf_pv ⟨hf, hm, hr, ⟨x2, mf_bis_of hr hcon hm.2.2.1 hb (fun s t hs ht e => ⟨(ha s t hs ht e).1, (ha s t hs ht e).2, x4 s t hs ht e⟩), fun s t hs ht hT => hb s t hs ht ((hr.2 s t hs ht).mpr hT), fun B hB => hc B (mf_bis_ck hr hB)⟩, x1, x3⟩, fun z => absurd rfl z⟩
  | succ d ih =>
    intro G1 more hf hm hr ha hb hc hx
    rcases hx with ⟨rfl, hx⟩ | ⟨rfl, x1, x2, x3, x4⟩
    · have h0 := hm.2.1.1
      refine vc_96_88 ⟨fun z => by omega, fun _ => tf_rv (sp_97 hm (fun s t hs ht e => (ha s t hs ht e).1)) ?_⟩
      rintro G2 ⟨g1, g2, g3, g4, g5⟩
      have e50 : G2 50 = G1 50 := g1.1 50 (by decide) (by decide) (by decide) (by decide)
      have e51 : G2 51 = G1 51 := g1.1 51 (by decide) (by decide) (by decide) (by decide)
      have hfin : ∀ s t, mf_dom n s → mf_dom n t → G2 53 s = G2 53 t → G1 53 s = G1 53 t := fun s t hs ht e => ((g5 s t hs ht).mp e).1
      have ha' : ∀ s t, mf_dom n s → mf_dom n t → G2 53 s = G2 53 t → mh hd (G2 50) (G2 51) s = mh hd (G2 50) (G2 51) t ∧ (mh hd (G2 50) (G2 51) s = -1 → G2 50 s = G2 50 t) := by
        rw [e50, e51]
        exact fun s t hs ht e => ha s t hs ht (hfin s t hs ht e)
      have hb' : ∀ s t, mf_dom n s → mf_dom n t → G2 50 s = G2 50 t → G2 53 s = G2 53 t := by
        rw [e50]
        intro s t hs ht e
        refine (g5 s t hs ht).mpr ⟨hb s t hs ht e, fun k k0 k1 => ?_⟩
        unfold mc
        rw [e]
      have hc' : ∀ B, mf_ck n (mh hd (G2 50) (G2 51)) (G2 50) (mc ch (G2 50) (G2 51)) B → ∀ s t, mf_dom n s → mf_dom n t → B s t → G2 53 s = G2 53 t := by
        rw [e50, e51]
        intro B hB s t hs ht q
        refine (g5 s t hs ht).mpr ⟨hc B hB s t hs ht q, fun k k0 k1 => ?_⟩
        obtain ⟨b1, b2, b3⟩ := hB s t hs ht q
        exact hc B hB _ _ (mc_dom hm.2.2.2 hm.2.2.1 hs k0 k1).1 (mc_dom hm.2.2.2 hm.2.2.1 ht k0 (by rw [← b1]; exact k1)).1 (b3 k k0 k1)
      refine ⟨fun z => ih G2 0 (hf.trans g1.g) (hm.m2 g1) (by rw [e50, e51]; exact hr) ha' hb' hc' (Or.inr ⟨rfl, g2, g3, g4, ?_⟩), fun z => ih G2 1 (hf.trans g1.g) (hm.m2 g1) (by rw [e50, e51]; exact hr) ha' hb' hc' (Or.inl ⟨rfl, Or.inr ⟨g2, g3, ?_⟩⟩)⟩
      · rw [e50, e51]
        rcases hx with ⟨hx, -⟩ | ⟨q1, q2, q3⟩
        · intro s t hs
          have := g3.1 s hs
          rw [z, hx] at this
          have := this.1
          have := (g3.1 s hs).2
          omega
        · have hker := mf_num_eq q2 (by rw [← z]; exact g3) q1 hfin
          intro s t hs ht e k k0 k1
          have hal := (g5 s t hs ht).mp e
          have m1 := (ha s t hs ht hal.1).1
          exact hker _ _ (mc_dom hm.2.2.2 hm.2.2.1 hs k0 k1).1 (mc_dom hm.2.2.2 hm.2.2.1 ht k0 (by rw [← m1]; exact k1)).1 (hal.2 k k0 k1)
      · rcases hx with ⟨hx, hx2⟩ | ⟨q1, q2, q3⟩
        · omega
        · have := mf_num_le q2 g3 q1 g2 hfin
          omega
    · exact vc_96_88 ⟨fun _ => tf_pv ⟨hf, hm, hr, ⟨x2, mf_bis_of hr hcon hm.2.2.1 hb (fun s t hs ht e => ⟨(ha s t hs ht e).1, (ha s t hs ht e).2, x4 s t hs ht e⟩), fun s t hs ht hT => hb s t hs ht ((hr.2 s t hs ht).mpr hT), fun B hB => hc B (mf_bis_ck hr hB)⟩, x1, x3⟩, fun z => absurd rfl z⟩
set_option maxHeartbeats 2000000 in
theorem sp_96 {m : Nat} (hv : mv n hd ch G) (hn : 0 ≤ n ∧ n ≤ 300) (hwf : mf_wf n hd ch) (hm : G 42 5 = m) (hm5 : m ≤ 4999) (hE : ∀ q ∈ mf_E (G 46) (G 47) m, mf_dom n q.1 ∧ mf_dom n q.2) (hcon : mf_con n hd ch (mf_E (G 46) (G 47) m)) :
    tf_RUN l 96 [tf_r 42] G (tf_PV fun G' => mgf G G' ∧ mt n hd ch (mf_E (G 46) (G 47) m) G') := by
  refine vc_96 (tf_rv (sp_87 hv hn hwf hm hm5 hE hcon) ?_)
  rintro G0 ⟨f0, r0⟩
  have m0 : ms n hd ch G0 := ⟨hv.mf f0, hn, hwf, r0.1⟩
  have key : ∀ (d : Nat) (G1 : tf_Sto) (k : Int), 0 ≤ k → k + d = n → (∀ j : Nat, j ≠ 53 → G1 j = G0 j) → (∀ t, mf_dom n t → t < k → G1 53 t = if mh hd (G0 50) (G0 51) t = -1 then 100 + G0 50 t else mh hd (G0 50) (G0 51) t) →
      tf_AW l 96 none (tf_PV fun G' => mgf G G' ∧ mt n hd ch (mf_E (G 46) (G 47) m) G') 6 [(0, tf_r 42), (1, tf_i k)] [] (none, false) G1 := by
    intro d
    induction d with
    | zero =>
      intro G1 k k0 k1 hf ht
      have e1 : G1 42 1 = n := by rw [hf 42 (by decide)]; exact m0.1.1
      have e50 : tf_up G1 42 18 0 50 = G0 50 := by rw [tf_upo (by decide)]; exact hf 50 (by decide)
      have e51 : tf_up G1 42 18 0 51 = G0 51 := by rw [tf_upo (by decide)]; exact hf 51 (by decide)
      have e53 : tf_up G1 42 18 0 53 = G1 53 := tf_upo (by decide)
      have hv53 : ∀ t, mf_dom n t → G1 53 t = if mh hd (G0 50) (G0 51) t = -1 then 100 + G0 50 t else mh hd (G0 50) (G0 51) t := fun t h => ht t h (by have := h.2; omega)
      refine vc_96_6 ⟨fun _ => sp_96b hcon (n + 2).toNat _ 1 ?_ ?_ (by rw [e50, e51]; exact r0) ?_ ?_ ?_ (Or.inl ⟨rfl, Or.inl ⟨tf_up_at, by omega⟩⟩), fun z => by omega⟩
      · refine f0.g.trans ⟨fun j a b => ?_, fun j a b => ?_⟩
        · rw [tf_upo a]; exact hf j (by omega)
        · rw [tf_up_eq, if_neg b, hf 42 (by decide)]
      · refine m0.fr ?_ ?_ ?_ ?_ e50 e51
        · rw [tf_up_eq, if_neg (by decide), hf 42 (by decide)]
        · rw [tf_upo (by decide)]; exact hf 43 (by decide)
        · rw [tf_upo (by decide)]; exact hf 44 (by decide)
        · rw [tf_upo (by decide)]; exact hf 45 (by decide)
      · rw [e50, e51, e53]
        intro s t hs ht e
        rw [hv53 s hs, hv53 t ht] at e
        have b1 := (m0.b hs).2.1
        have b2 := (m0.b ht).2.1
        rcases mh_in m0.2.2.2 hwf hs with ⟨q, -⟩ | ⟨q1, q2, -⟩
        · rcases mh_in m0.2.2.2 hwf ht with ⟨p, -⟩ | ⟨p1, p2, -⟩
          · rw [if_pos q, if_pos p] at e
            exact ⟨q.trans p.symm, fun _ => by omega⟩
          · rw [if_pos q, if_neg (by omega)] at e
            omega
        · rcases mh_in m0.2.2.2 hwf ht with ⟨p, -⟩ | ⟨p1, p2, -⟩
          · rw [if_neg (by omega), if_pos p] at e
            omega
          · rw [if_neg (by omega), if_neg (by omega)] at e
            exact ⟨e, fun z => by omega⟩
      · rw [e50, e53]
        intro s t hs ht e
        rw [hv53 s hs, hv53 t ht]
        unfold mh
        rw [e]
      · rw [e50, e51, e53]
        intro B hB s t hs ht q
        obtain ⟨b1, b2, -⟩ := hB s t hs ht q
        rw [hv53 s hs, hv53 t ht, ← b1]
        by_cases z : mh hd (G0 50) (G0 51) s = -1
        · rw [if_pos z, if_pos z, b2 z]
        · rw [if_neg z, if_neg z]
    | succ d ih =>
      intro G1 k k0 k1 hf ht
      have e1 : G1 42 1 = n := by rw [hf 42 (by decide)]; exact m0.1.1
      have e50 : G1 50 = G0 50 := hf 50 (by decide)
      have e51 : G1 51 = G0 51 := hf 51 (by decide)
      have e43 : G1 43 = G0 43 := hf 43 (by decide)
      have e44 : G1 44 = G0 44 := hf 44 (by decide)
      have m1 : ms n hd ch G1 := m0.fr (by rw [hf 42 (by decide)]) e43 e44 (hf 45 (by decide)) e50 e51
      have dk : mf_dom n k := ⟨k0, by omega⟩
      have hstep : ∀ v, (v = if mh hd (G0 50) (G0 51) k = -1 then 100 + G0 50 k else mh hd (G0 50) (G0 51) k) → tf_AW l 96 none (tf_PV fun G' => mgf G G' ∧ mt n hd ch (mf_E (G 46) (G 47) m) G') 6 [(0, tf_r 42), (1, tf_i (k + 1))] [] (none, false) (tf_up G1 53 k v) := by
        intro v hv'
        refine ih _ _ (by omega) (by omega) (fun j hj => by rw [tf_upo hj]; exact hf j hj) (fun t h htk => ?_)
        rw [tf_up_eq]
        by_cases e : t = k
        · rw [if_pos e, e]; exact hv'
        · rw [if_neg e]; exact ht t h (by omega)
      obtain ⟨b1, b2, b3⟩ := m1.b dk
      have hsp := sp_94 (l := l) m1 dk
      rw [e50, e51] at hsp
      refine vc_96_6 ⟨fun z => by omega, fun _ => tf_re hsp ?_⟩
      rcases mh_in m0.2.2.2 hwf dk with ⟨q, -⟩ | ⟨q1, q2, q3, q4, q5⟩
      · rw [if_pos q]
        refine ⟨fun z => by omega, fun _ => ⟨b1, by omega, b1, by omega, hstep _ ?_⟩⟩
        rw [if_pos q, e50]
      · rw [if_neg (by omega)]
        have b4 : 0 ≤ G1 51 (G1 50 k) ∧ G1 51 (G1 50 k) < 300 := by
          rw [e50, e51]
          exact ⟨q4.1, by have := q4.2; omega⟩
        obtain ⟨s1, s2⟩ := m0.sz q4 (by omega)
        have s1' : G1 43 (G1 51 (G1 50 k)) = mh hd (G0 50) (G0 51) k / 4 := by rw [e43, e50, e51, q5]; exact s1
        have s2' : G1 44 (G1 51 (G1 50 k)) = mh hd (G0 50) (G0 51) k % 4 := by rw [e44, e50, e51, q5]; exact s2
        refine ⟨fun _ => ⟨b1, b2, b4, by omega, b1, b2, b4, by omega, b1, by omega, hstep _ ?_⟩, fun z => absurd rfl z⟩
        rw [if_neg (by omega), s1', s2']
        omega
  exact key n.toNat G0 0 (by omega) (by omega) (fun _ _ => rfl) (fun t h z => by have := h.1; omega)
end
