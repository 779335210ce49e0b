/-- an answer told by some numbering of the trees -/
def tA (n : Int) (hd : Int → Int) (ch : Int → Int → Int) (E : List (Int × Int)) (Q : Int → (Int → Int) → (Int → Int → Int) → (Int → Int) → Prop) : Prop := ∃ (c : Int) (h : Int → Int) (b : Int → Int → Int) (f : Int → Int), c ≤ 300 ∧ tsys n hd ch E c h b f ∧ Q c h b f
section
variable {l : Launch} {G : tf_Sto} {n c : Int} {hd : Int → Int} {ch : Int → Int → Int} {E : List (Int × Int)} {rt sh : Int → Int} {h lst : Int → Int} {b : Int → Int → Int}
theorem tS_fuel {d : Nat} : ∀ {e : Nat} {x : Int}, d ≤ e → tok h b d x → tS h lst b d x = tS h lst b e x := by
  induction d with
  | zero => intro e x _ hx; exact False.elim hx
  | succ d ih =>
    intro e x hde hx
    cases e with
    | zero => omega
    | succ e =>
      have hw := mf_w_in (h x)
      simp only [tS]
      rw [tR_congr (s := fun y => tS h lst b d y) (s' := fun y => tS h lst b e y) (bx := b x) (bx' := b x) (fun k k0 k1 => ih (by omega) (hx k k0 k1)) _ (by omega)]
theorem mt.sys (hm : mt n hd ch E G) : tsys n hd ch E (G 42 18) (mH hd G) (mB ch G) (G 53) := by
  obtain ⟨m1, m2, m3, m4, m5⟩ := hm
  refine ⟨m4, m3, G 50, G 51, m2, ?_⟩
  intro t ht
  have hx := m3.1.1 t ht
  obtain ⟨u1, u2⟩ := m5 _ hx
  obtain ⟨k1, _, k3⟩ := mf_bis_ck m2 m3.2.1 (G 55 (G 53 t)) t u1 ht u2
  refine ⟨k1, ?_⟩
  intro k k0 kw
  exact k3 k k0 (by rw [k1]; exact kw)
theorem mt.lo (hm : mt n hd ch E G) : ∃ lst, mlo n (G 42 18) hd lst G := by
  obtain ⟨m1, m2, m3, m4, m5⟩ := hm
  have ex : ∀ x, mf_dom (G 42 18) x → ∃ v, tlst n (G 53) x v := by
    intro x hx
    obtain ⟨t, ht, e⟩ := m3.1.2 x hx
    obtain ⟨s, s0, s1, s2, s3⟩ := mf_fst_ex (D := fun _ => True) (K := fun a b => G 53 a = G 53 b) (fun _ _ => rfl) (fun _ _ _ _ _ _ p q => p.trans q) ht.1 trivial
    refine ⟨s, ⟨s0, by have := ht.2; omega⟩, s3.trans e, ?_⟩
    intro u u0 u1 q
    exact s2.2 u u0 u1 trivial (q.trans (s3.trans e).symm)
  refine ⟨fun x => Classical.epsilon (fun v => tlst n (G 53) x v), ?_⟩
  intro x hx hl
  refine ⟨Classical.epsilon_spec (ex x hx), ?_⟩
  intro t ht e
  obtain ⟨u1, u2⟩ := m5 _ hx
  obtain ⟨k1, _, _⟩ := mf_bis_ck m2 m3.2.1 (G 55 x) t u1 ht (u2.trans e.symm)
  have hl2 : mh hd (G 50) (G 51) t = -1 := by rw [← k1]; exact hl
  have hs : G 51 (G 50 t) = -1 := by
    rcases mh_in m1.2.2.2 m1.2.2.1 ht with q | q
    · exact q.2
    · omega
  have hd1 : hd t = -1 := by
    rcases (m1.2.2.2 t ht).2.2 with q | q
    · exact q.2
    · have := q.1.1; omega
  rcases (m1.1.2 t ht).1 with q | q
  · rw [q.2.1]; decide
  · omega
theorem xFV.sys (hx : xs n hd ch rt sh G) (hr : mf_rep n hd ch E rt sh) (hcon : mf_con n hd ch E) (hv : xFV n hd ch rt sh G) : tsys n hd ch E (G 15 0) (G 16) (xB G) (fun t => G 26 (rt t)) := by
  have hp := hr.1
  refine ⟨by have := hv.1; omega, hv.sol hx hr hcon, rt, sh, hr, ?_⟩
  intro t ht
  obtain ⟨p1, p2, _⟩ := hp t ht
  obtain ⟨q1, q2, q3, q4⟩ := hv.2.2.1 (rt t) p1 p2
  rw [mh_rt hp ht] at q2 q4
  refine ⟨q2, ?_⟩
  intro k k0 k1
  have := q4 k k0 k1
  rw [mc_rt hp ht] at this
  exact this
theorem xFV.fin (hv : xFV n hd ch rt sh G) {x : Int} (hx : mf_dom (G 15 0) x) : x < G 15 1 ↔ tfin (G 15 0) (G 16) (xB G) x := by
  obtain ⟨v1, _, _, _, _, v6, v7⟩ := hv
  constructor
  · intro q
    have main : ∀ (m : Nat) (x : Int), 0 ≤ x → x < G 15 1 → x < m → tfin (G 15 0) (G 16) (xB G) x := by
      intro m
      induction m with
      | zero => intro x x0 _ x2; omega
      | succ m ih =>
        intro x x0 x1 x2
        obtain ⟨_, _, q3⟩ := v6 x ⟨x0, x1⟩
        refine tfin_in ⟨x0, by omega⟩ ?_
        intro k k0 k1
        rcases q3 with ⟨q, _, _⟩ | ⟨_, _, q, _⟩
        · rw [mf_w, if_pos q] at k1
          omega
        · have := q k k0 k1
          have a1 := this.1
          have a2 := this.2
          exact ih _ a1 (by unfold xB; omega) (by unfold xB; omega)
    exact main (x + 1).toNat x hx.1 q (by have := hx.1; omega)
  · intro q
    refine q (fun y => y < G 15 1) ?_
    intro y hy hc
    by_cases g : y < G 15 1
    · exact g
    · obtain ⟨_, k, k0, k1, k2⟩ := v7 y (by omega) hy.2
      have := hc k k0 k1
      unfold xB at this
      omega
theorem mf_szs_0 {f b : Int → Int} : mf_szs f b 0 = 1 := by
  have e : mf_sum (fun k => f (b k)) (0 : Int).toNat = 0 := rfl
  unfold mf_szs
  rw [e, if_neg (by decide)]
  rfl
theorem xFV.meas (hv : xFV n hd ch rt sh G) : tmeas (G 15 0) (G 16) (xB G) (G 18) (G 19) := by
  intro x hx hf
  have hlt := (hv.fin hx).2 hf
  obtain ⟨_, _, _, _, _, v6, _⟩ := hv
  obtain ⟨_, _, q⟩ := v6 x ⟨hx.1, hlt⟩
  rcases q with ⟨q1, q2, q3⟩ | ⟨q1, _, _, _, q2, q3⟩
  · rw [if_pos q1, q2, q3, mf_w, if_pos q1]
    exact ⟨mf_szs_0.symm, rfl⟩
  · rw [if_neg (by omega)]
    exact ⟨q2, q3⟩
theorem xFV.lstv (hx : xs n hd ch rt sh G) (hr : mf_rep n hd ch E rt sh) (hcon : mf_con n hd ch E) (hv : xFV n hd ch rt sh G) {x : Int} (hxd : mf_dom (G 15 0) x) (hl : G 16 x = -1) : tlst n (fun t => G 26 (rt t)) x (G 17 x) := by
  have hsol := hv.sol hx hr hcon
  obtain ⟨v1, _, v3, v4, _⟩ := hv
  obtain ⟨r, hrd, er, e⟩ := v4 x hxd
  obtain ⟨_, q2, q3, _⟩ := v3 r hrd er
  rw [e] at q2 q3
  have hm : mh hd rt sh r = -1 := by rw [← q2]; exact hl
  obtain ⟨u1, u2, u3⟩ := q3 hm
  refine ⟨u1, by show G 26 (rt (G 17 x)) = x; rw [u2, e], ?_⟩
  intro s s0 s1 es
  have hsd : mf_dom n s := ⟨s0, by have := u1.2; omega⟩
  have hs1 : sh (rt r) = -1 := by
    rcases mh_in hr.1 hx.2.2.1 hrd with q | q
    · exact q.2
    · omega
  have hlf := (mf_lf_iff hr hrd).2 hs1
  have es2 : G 26 (rt r) = G 26 (rt s) := by rw [er, e]; exact es.symm
  have ht := (hsol.2.1 r s hrd hsd es2).2.1 hlf
  have := (hr.2 r s hrd hsd).2 ht
  exact u3 s s0 s1 (by rw [← this, er])
theorem xFV.fr {G' : tf_Sto} (hv : xFV n hd ch rt sh G) (e : ∀ k : Nat, 15 ≤ k → k ≤ 26 → G' k = G k) : xFV n hd ch rt sh G' := by
  unfold xFV xrs xid at *
  rw [e 15 (by decide) (by decide), e 16 (by decide) (by decide), e 17 (by decide) (by decide), e 18 (by decide) (by decide), e 19 (by decide) (by decide), e 20 (by decide) (by decide), e 25 (by decide) (by decide), e 26 (by decide) (by decide)]
  exact hv
end
