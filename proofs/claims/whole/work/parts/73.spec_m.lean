-- SPEC M: the class: a root more is found
def xid (c : Int) (G : tf_Sto) : Prop := ∀ x, mf_dom c x → (1 ≤ G 18 x ∧ G 18 x ≤ 1000000000000) ∧ (0 ≤ G 19 x ∧ G 19 x ≤ x + 1) ∧ ((G 16 x = -1 ∧ G 18 x = 1 ∧ G 19 x = 0) ∨
  (0 ≤ G 16 x ∧ G 16 x < 64 ∧ (∀ k, 0 ≤ k → k < mf_w (G 16 x) → mf_dom x (G 20 (x * 3 + k))) ∧ (∀ k, mf_w (G 16 x) ≤ k → k < 3 → G 20 (x * 3 + k) = -1) ∧
    G 18 x = mf_szs (G 18) (fun k => G 20 (x * 3 + k)) (mf_w (G 16 x)) ∧ G 19 x = mf_dps (G 19) (fun k => G 20 (x * 3 + k)) (mf_w (G 16 x))))
def xun (c : Int) (G : tf_Sto) : Prop := ∀ x y, mf_dom c x → mf_dom c y → G 16 x ≠ -1 → G 16 x = G 16 y → (∀ k, 0 ≤ k → k < 3 → G 20 (x * 3 + k) = G 20 (y * 3 + k)) → x = y
def xrs (n : Int) (hd : Int → Int) (ch : Int → Int → Int) (rt sh : Int → Int) (c : Int) (G : tf_Sto) (r : Int) : Prop := mf_dom c (G 26 r) ∧ G 16 (G 26 r) = mh hd rt sh r ∧ (mh hd rt sh r = -1 → xls n rt r (G 17 (G 26 r))) ∧ ∀ k, 0 ≤ k → k < mf_w (mh hd rt sh r) → G 20 (G 26 r * 3 + k) = G 26 (rt (mc ch rt sh r k))
def xfi (n : Int) (hd : Int → Int) (ch : Int → Int → Int) (rt sh : Int → Int) (G : tf_Sto) : Prop := 0 ≤ G 15 0 ∧ xtab (G 15 0) G ∧ xid (G 15 0) G ∧ xun (G 15 0) G ∧
  (∀ r, mf_dom n r → rt r = r → (G 26 r = -1 ∧ mh hd rt sh r ≠ -1) ∨ xrs n hd ch rt sh (G 15 0) G r) ∧ (∀ x, mf_dom (G 15 0) x → ∃ r, mf_dom n r ∧ rt r = r ∧ G 26 r = x) ∧ ∀ t, mf_dom n t → G 25 t = rt t
theorem mf_sum_congr {f g : Int → Int} {m : Nat} (h : ∀ k : Int, 0 ≤ k → k < m → f k = g k) : mf_sum f m = mf_sum g m := by
  induction m with
  | zero => rfl
  | succ m ih =>
    show mf_sum f m + f m = mf_sum g m + g m
    rw [ih (fun k k0 k1 => h k k0 (by omega)), h m (by omega) (by omega)]
theorem mf_max_congr {f g : Int → Int} {m : Nat} (h : ∀ k : Int, 0 ≤ k → k < m → f k = g k) : mf_max f m = mf_max g m := by
  induction m with
  | zero => rfl
  | succ m ih =>
    show (if mf_max f m < f m then f m else mf_max f m) = (if mf_max g m < g m then g m else mf_max g m)
    rw [ih (fun k k0 k1 => h k k0 (by omega)), h m (by omega) (by omega)]
theorem mf_szs_congr {f g b c : Int → Int} {w : Int} (h : ∀ k, 0 ≤ k → k < w → f (b k) = g (c k)) : mf_szs f b w = mf_szs g c w := by
  unfold mf_szs
  rw [mf_sum_congr (f := fun k => f (b k)) (g := fun k => g (c k)) (fun k k0 k1 => h k k0 (by omega))]
theorem mf_dps_congr {f g b c : Int → Int} {w : Int} (h : ∀ k, 0 ≤ k → k < w → f (b k) = g (c k)) : mf_dps f b w = mf_dps g c w := by
  unfold mf_dps
  rw [mf_max_congr (f := fun k => f (b k)) (g := fun k => g (c k)) (fun k k0 k1 => h k k0 (by omega))]
theorem xmat_k {G : tf_Sto} {h v : Int} {f : Int → Int} (hm : xmat G h (f 0) (f 1) (f 2) v) : G 16 v = h ∧ ∀ k, 0 ≤ k → k < 3 → G 20 (v * 3 + k) = f k := by
  obtain ⟨m1, m2, m3, m4⟩ := hm
  refine ⟨m1, fun k k0 k1 => ?_⟩
  have hk : k = 0 ∨ k = 1 ∨ k = 2 := by omega
  rcases hk with rfl | rfl | rfl
  · rw [Int.add_zero]; exact m2
  · exact m3
  · exact m4
theorem xmat_of {G : tf_Sto} {h v : Int} {f : Int → Int} (h1 : G 16 v = h) (h2 : ∀ k, 0 ≤ k → k < 3 → G 20 (v * 3 + k) = f k) : xmat G h (f 0) (f 1) (f 2) v := by
  refine ⟨h1, ?_, h2 1 (by omega) (by omega), h2 2 (by omega) (by omega)⟩
  have := h2 0 (by omega) (by omega)
  rwa [Int.add_zero] at this
theorem xnew_20n {G : tf_Sto} {h : Int} {f : Int → Int} {k : Int} (k0 : 0 ≤ k) (k1 : k < 3) : xnew G h (f 0) (f 1) (f 2) 20 (G 15 0 * 3 + k) = f k := by
  rw [xnew_20]
  have hk : k = 0 ∨ k = 1 ∨ k = 2 := by omega
  rcases hk with rfl | rfl | rfl
  · rw [if_neg (by omega), if_neg (by omega), if_pos (by omega)]
  · rw [if_neg (by omega), if_pos rfl]
  · rw [if_pos rfl]
theorem xnew_20o {G : tf_Sto} {h a b d x k : Int} (hx : x < G 15 0) (k0 : 0 ≤ k) (k1 : k < 3) : xnew G h a b d 20 (x * 3 + k) = G 20 (x * 3 + k) := by
  rw [xnew_20, if_neg (by omega), if_neg (by omega), if_neg (by omega)]
section
variable {l : Launch} {G : tf_Sto} {n : Int} {hd : Int → Int} {ch : Int → Int → Int} {rt sh : Int → Int}
theorem mf_szs_in {f b : Int → Int} {w : Int} (hw : 0 ≤ w ∧ w ≤ 3) (h : ∀ k, 0 ≤ k → k < w → 1 ≤ f (b k) ∧ f (b k) ≤ 1000000000000) : 1 ≤ mf_szs f b w ∧ mf_szs f b w ≤ 1000000000000 := by
  have h1 := mf_sum_in (f := fun k => f (b k)) (m := w.toNat) (B := 1000000000000) (fun k k0 k1 => by have := h k k0 (by omega); omega)
  unfold mf_szs
  split <;> omega
theorem mf_dps_in {f b : Int → Int} {w B : Int} (hB : 0 ≤ B) (h : ∀ k, 0 ≤ k → k < w → 0 ≤ f (b k) ∧ f (b k) ≤ B) : 0 ≤ mf_dps f b w ∧ mf_dps f b w ≤ B + 1 := by
  have h1 := mf_max_in (f := fun k => f (b k)) (m := w.toNat) (B := B) hB (fun k k0 k1 => h k k0 (by omega))
  unfold mf_dps
  omega
set_option maxHeartbeats 4000000 in
/-- the tables after a root was found -/
theorem xfi_res (hx : xs n hd ch rt sh G) (hi : xfi n hd ch rt sh G) {r : Int} (hr : mf_dom n r) (er : rt r = r) (hl : mh hd rt sh r ≠ -1) (hun : G 26 r = -1) (hkn : ∀ k, 0 ≤ k → k < mf_w (mh hd rt sh r) → mf_dom (G 15 0) (G 26 (rt (mc ch rt sh r k)))) {v : Int} {G2 : tf_Sto}
    (hv : (mf_dom (G 15 0) v ∧ xmat G (mh hd rt sh r) (xt hd ch rt sh (G 26) r 0) (xt hd ch rt sh (G 26) r 1) (xt hd ch rt sh (G 26) r 2) v ∧ G2 = G) ∨
      (v = G 15 0 ∧ (∀ x, mf_dom (G 15 0) x → ¬ xmat G (mh hd rt sh r) (xt hd ch rt sh (G 26) r 0) (xt hd ch rt sh (G 26) r 1) (xt hd ch rt sh (G 26) r 2) x) ∧ G2 = xnew G (mh hd rt sh r) (xt hd ch rt sh (G 26) r 0) (xt hd ch rt sh (G 26) r 1) (xt hd ch rt sh (G 26) r 2))) :
    (0 ≤ v ∧ v ≤ G 15 0) ∧ G2 16 v = mh hd rt sh r ∧ (∀ k, 0 ≤ k → k < mf_w (mh hd rt sh r) → G2 20 (v * 3 + k) = G 26 (rt (mc ch rt sh r k))) ∧ G2 18 = G 18 ∧ G2 19 = G 19 ∧ (∀ k : Nat, (k < 15 ∨ 23 < k) → G2 k = G k) ∧ (G2 15 0 = G 15 0 ∨ G2 15 0 = G 15 0 + 1) ∧ (∀ j, j ≠ 0 → G2 15 j = G 15 j) ∧
    xfi n hd ch rt sh (tf_up (tf_up (tf_up G2 18 v (mf_szs (G 18) (fun k => G2 20 (v * 3 + k)) (mf_w (mh hd rt sh r)))) 19 v (mf_dps (G 19) (fun k => G2 20 (v * 3 + k)) (mf_w (mh hd rt sh r)))) 26 r v) := by
  obtain ⟨i1, i2, i3, i4, i5, i6, i7⟩ := hi
  have hw := mf_w_in (mh hd rt sh r)
  obtain ⟨r1, r2, r3, r4, r5, r6, r7⟩ := hx.root hr er hl
  have hxt : ∀ k, 0 ≤ k → k < mf_w (mh hd rt sh r) → xt hd ch rt sh (G 26) r k = G 26 (rt (mc ch rt sh r k)) := fun k k0 k1 => by unfold xt; rw [if_pos k1]
  have hxn : ∀ k, mf_w (mh hd rt sh r) ≤ k → xt hd ch rt sh (G 26) r k = -1 := fun k k1 => by unfold xt; rw [if_neg (by omega)]
  -- children of roots that are found are other roots
  have hoth : ∀ r', mf_dom n r' → rt r' = r' → xrs n hd ch rt sh (G 15 0) G r' → ∀ k, 0 ≤ k → k < mf_w (mh hd rt sh r') → rt (mc ch rt sh r' k) ≠ r := by
    intro r' hr' er' hs k k0 k1 e
    have e1 := hs.2.2.2 k k0 k1
    rw [e, hun] at e1
    rcases (i3 _ hs.1).2.2 with q | q
    · rw [hs.2.1] at q
      unfold mf_w at k1
      rw [if_pos q.1] at k1
      omega
    · have := q.2.2.1 k k0 (by rw [hs.2.1]; exact k1)
      rw [e1] at this
      have := this.1
      omega
  rcases hv with ⟨dv, hm, rfl⟩ | ⟨rfl, hno, rfl⟩
  · -- an old tree
    obtain ⟨m1, m2⟩ := xmat_k (f := xt hd ch rt sh (G2 26) r) hm
    have hb : ∀ k, 0 ≤ k → k < mf_w (mh hd rt sh r) → G2 20 (v * 3 + k) = G2 26 (rt (mc ch rt sh r k)) := fun k k0 k1 => by rw [m2 k k0 (by omega), hxt k k0 k1]
    have hidv := (i3 v dv).2.2
    have hsz : G2 18 v = mf_szs (G2 18) (fun k => G2 20 (v * 3 + k)) (mf_w (mh hd rt sh r)) ∧ G2 19 v = mf_dps (G2 19) (fun k => G2 20 (v * 3 + k)) (mf_w (mh hd rt sh r)) := by
      rcases hidv with q | q
      · rw [m1] at q; exact absurd q.1 hl
      · rw [m1] at q; exact ⟨q.2.2.2.2.1, q.2.2.2.2.2⟩
    refine ⟨⟨dv.1, by have := dv.2; omega⟩, m1, hb, rfl, rfl, fun _ _ => rfl, Or.inl rfl, fun _ _ => rfl, ?_⟩
    rw [← hsz.1, ← hsz.2]
    have u18 : ∀ x, tf_up (tf_up (tf_up G2 18 v (G2 18 v)) 19 v (G2 19 v)) 26 r v 18 x = G2 18 x := by
      intro x
      simp only [tf_upo, tf_upo', tf_up_eq, ne_eq, Nat.reduceEqDiff, not_false_eq_true, reduceCtorEq]
      by_cases e : x = v
      · rw [if_pos e, e]
      · rw [if_neg e]
    have u19 : ∀ x, tf_up (tf_up (tf_up G2 18 v (G2 18 v)) 19 v (G2 19 v)) 26 r v 19 x = G2 19 x := by
      intro x
      simp only [tf_upo, tf_upo', tf_up_eq, ne_eq, Nat.reduceEqDiff, not_false_eq_true, reduceCtorEq]
      by_cases e : x = v
      · rw [if_pos e, e]
      · rw [if_neg e]
    generalize hG3 : tf_up (tf_up (tf_up G2 18 v (G2 18 v)) 19 v (G2 19 v)) 26 r v = G3 at *
    have o26 : ∀ x, G3 26 x = if x = r then v else G2 26 x := by
      intro x
      rw [← hG3]
      simp only [tf_upo, tf_upo', tf_up_eq, ne_eq, Nat.reduceEqDiff, not_false_eq_true, reduceCtorEq]
    have oth : ∀ k : Nat, k ≠ 18 → k ≠ 19 → k ≠ 26 → G3 k = G2 k := by
      intro k a b c
      rw [← hG3, tf_upo c, tf_upo b, tf_upo a]
    have o15 := oth 15 (by decide) (by decide) (by decide)
    have o16 := oth 16 (by decide) (by decide) (by decide)
    have o17 := oth 17 (by decide) (by decide) (by decide)
    have o20 := oth 20 (by decide) (by decide) (by decide)
    have o21 := oth 21 (by decide) (by decide) (by decide)
    have o22 := oth 22 (by decide) (by decide) (by decide)
    have o23 := oth 23 (by decide) (by decide) (by decide)
    have o25 := oth 25 (by decide) (by decide) (by decide)
    have e18 : G3 18 = G2 18 := funext u18
    have e19 : G3 19 = G2 19 := funext u19
    refine ⟨by rw [o15]; exact i1, ?_, ?_, ?_, ?_, ?_, ?_⟩
    · rw [o15]
      unfold xtab xmx
      rw [o16, o20, o21, o22, o23]
      exact i2
    · rw [o15]
      unfold xid
      rw [o16, o20, e18, e19]
      exact i3
    · rw [o15]
      unfold xun
      rw [o16, o20]
      exact i4
    · intro r' hr' er'
      rw [o15]
      unfold xrs
      rw [o16, o17, o20, o26]
      by_cases e : r' = r
      · rw [if_pos e, e]
        right
        refine ⟨dv, m1, fun z => absurd z hl, fun k k0 k1 => ?_⟩
        rw [hb k k0 k1, o26, if_neg]
        intro z
        have := hkn k k0 k1
        rw [z, hun] at this
        have := this.1
        omega
      · rw [if_neg e]
        rcases i5 r' hr' er' with q | q
        · exact Or.inl q
        · right
          refine ⟨q.1, q.2.1, q.2.2.1, fun k k0 k1 => ?_⟩
          rw [o26, if_neg (hoth r' hr' er' q k k0 k1)]
          exact q.2.2.2 k k0 k1
    · rw [o15]
      intro x hxx
      obtain ⟨r', a1, a2, a3⟩ := i6 x hxx
      refine ⟨r', a1, a2, ?_⟩
      rw [o26, if_neg]
      · exact a3
      · intro z
        rw [z, hun] at a3
        have := hxx.1
        omega
    · rw [o25]; exact i7
  · -- a new tree
    have hb : ∀ k, 0 ≤ k → k < 3 → xnew G (mh hd rt sh r) (xt hd ch rt sh (G 26) r 0) (xt hd ch rt sh (G 26) r 1) (xt hd ch rt sh (G 26) r 2) 20 (G 15 0 * 3 + k) = xt hd ch rt sh (G 26) r k := fun k k0 k1 => xnew_20n (f := xt hd ch rt sh (G 26) r) k0 k1
    have htn := xtab_new (h := mh hd rt sh r) (a := xt hd ch rt sh (G 26) r 0) (b := xt hd ch rt sh (G 26) r 1) (d := xt hd ch rt sh (G 26) r 2) i2 i1 (by omega)
    have n15 : xnew G (mh hd rt sh r) (xt hd ch rt sh (G 26) r 0) (xt hd ch rt sh (G 26) r 1) (xt hd ch rt sh (G 26) r 2) 15 0 = G 15 0 + 1 := xnew_n
    have n16 : ∀ x, xnew G (mh hd rt sh r) (xt hd ch rt sh (G 26) r 0) (xt hd ch rt sh (G 26) r 1) (xt hd ch rt sh (G 26) r 2) 16 x = if x = G 15 0 then mh hd rt sh r else G 16 x := fun x => xnew_16
    have n20 : ∀ x k, x < G 15 0 → 0 ≤ k → k < 3 → xnew G (mh hd rt sh r) (xt hd ch rt sh (G 26) r 0) (xt hd ch rt sh (G 26) r 1) (xt hd ch rt sh (G 26) r 2) 20 (x * 3 + k) = G 20 (x * 3 + k) := fun x k a b c => xnew_20o a b c
    have no : ∀ k : Nat, k ≠ 15 ∧ k ≠ 16 ∧ k ≠ 20 ∧ k ≠ 21 ∧ k ≠ 22 ∧ k ≠ 23 → xnew G (mh hd rt sh r) (xt hd ch rt sh (G 26) r 0) (xt hd ch rt sh (G 26) r 1) (xt hd ch rt sh (G 26) r 2) k = G k := fun k hk => xnew_o hk
    have nf : ∀ j, j ≠ 0 → xnew G (mh hd rt sh r) (xt hd ch rt sh (G 26) r 0) (xt hd ch rt sh (G 26) r 1) (xt hd ch rt sh (G 26) r 2) 15 j = G 15 j := fun j hj => xnew_f hj
    generalize xnew G (mh hd rt sh r) (xt hd ch rt sh (G 26) r 0) (xt hd ch rt sh (G 26) r 1) (xt hd ch rt sh (G 26) r 2) = G2 at *
    have hb2 : ∀ k, 0 ≤ k → k < mf_w (mh hd rt sh r) → G2 20 (G 15 0 * 3 + k) = G 26 (rt (mc ch rt sh r k)) := fun k k0 k1 => by rw [hb k k0 (by omega), hxt k k0 k1]
    refine ⟨⟨i1, by omega⟩, by rw [n16, if_pos rfl], hb2, no 18 (by decide), no 19 (by decide), fun k hk => no k (by omega), Or.inr n15, nf, ?_⟩
    have s1 : 1 ≤ mf_szs (G 18) (fun k => G2 20 (G 15 0 * 3 + k)) (mf_w (mh hd rt sh r)) ∧ mf_szs (G 18) (fun k => G2 20 (G 15 0 * 3 + k)) (mf_w (mh hd rt sh r)) ≤ 1000000000000 :=
      mf_szs_in hw (fun k k0 k1 => by rw [hb2 k k0 k1]; exact (i3 _ (hkn k k0 k1)).1)
    have s2 : 0 ≤ mf_dps (G 19) (fun k => G2 20 (G 15 0 * 3 + k)) (mf_w (mh hd rt sh r)) ∧ mf_dps (G 19) (fun k => G2 20 (G 15 0 * 3 + k)) (mf_w (mh hd rt sh r)) ≤ G 15 0 + 1 :=
      mf_dps_in i1 (fun k k0 k1 => by
        rw [hb2 k k0 k1]
        have q := (i3 _ (hkn k k0 k1)).2.1
        have := (hkn k k0 k1).2
        omega)
    have hz : mf_szs (G 18) (fun k => G2 20 (G 15 0 * 3 + k)) (mf_w (mh hd rt sh r)) = mf_szs (G 18) (fun k => G 26 (rt (mc ch rt sh r k))) (mf_w (mh hd rt sh r)) := mf_szs_congr (fun k k0 k1 => by rw [hb2 k k0 k1])
    have hp : mf_dps (G 19) (fun k => G2 20 (G 15 0 * 3 + k)) (mf_w (mh hd rt sh r)) = mf_dps (G 19) (fun k => G 26 (rt (mc ch rt sh r k))) (mf_w (mh hd rt sh r)) := mf_dps_congr (fun k k0 k1 => by rw [hb2 k k0 k1])
    generalize hSZ : mf_szs (G 18) (fun k => G2 20 (G 15 0 * 3 + k)) (mf_w (mh hd rt sh r)) = SZ at *
    generalize hDP : mf_dps (G 19) (fun k => G2 20 (G 15 0 * 3 + k)) (mf_w (mh hd rt sh r)) = DPv at *
    generalize hG3 : tf_up (tf_up (tf_up G2 18 (G 15 0) SZ) 19 (G 15 0) DPv) 26 r (G 15 0) = G3
    have o26 : ∀ x, G3 26 x = if x = r then G 15 0 else G 26 x := by
      intro x
      rw [← hG3]
      simp only [tf_upo, tf_upo', tf_up_eq, ne_eq, Nat.reduceEqDiff, not_false_eq_true, reduceCtorEq]
      rw [no 26 (by decide)]
    have o18 : ∀ x, G3 18 x = if x = G 15 0 then SZ else G 18 x := by
      intro x
      rw [← hG3]
      simp only [tf_upo, tf_upo', tf_up_eq, ne_eq, Nat.reduceEqDiff, not_false_eq_true, reduceCtorEq]
      rw [no 18 (by decide)]
    have o19 : ∀ x, G3 19 x = if x = G 15 0 then DPv else G 19 x := by
      intro x
      rw [← hG3]
      simp only [tf_upo, tf_upo', tf_up_eq, ne_eq, Nat.reduceEqDiff, not_false_eq_true, reduceCtorEq]
      rw [no 19 (by decide)]
    have oth : ∀ k : Nat, k ≠ 18 → k ≠ 19 → k ≠ 26 → G3 k = G2 k := by
      intro k a b c
      rw [← hG3, tf_upo c, tf_upo b, tf_upo a]
    have o15 := oth 15 (by decide) (by decide) (by decide)
    have o16 := oth 16 (by decide) (by decide) (by decide)
    have o17 := oth 17 (by decide) (by decide) (by decide)
    have o20 := oth 20 (by decide) (by decide) (by decide)
    have o21 := oth 21 (by decide) (by decide) (by decide)
    have o22 := oth 22 (by decide) (by decide) (by decide)
    have o23 := oth 23 (by decide) (by decide) (by decide)
    have o25 := oth 25 (by decide) (by decide) (by decide)
    clear hG3 oth
    have hne3 : ∀ k, 0 ≤ k → k < mf_w (mh hd rt sh r) → rt (mc ch rt sh r k) ≠ r := by
      intro k k0 k1 z
      have := hkn k k0 k1
      rw [z, hun] at this
      have := this.1
      omega
    refine ⟨by rw [o15, n15]; omega, ?_, ?_, ?_, ?_, ?_, ?_⟩
    · rw [o15, n15]
      unfold xtab xmx
      rw [o16, o20, o21, o22, o23]
      exact htn
    · rw [o15, n15]
      intro x hxx
      rw [o16, o20, o18, o19, n16]
      by_cases e : x = G 15 0
      · rw [if_pos e, if_pos e, if_pos e, e]
        refine ⟨s1, by omega, Or.inr ⟨by omega, by omega, fun k k0 k1 => ?_, fun k k0 k1 => ?_, ?_, ?_⟩⟩
        · rw [hb2 k k0 k1]; exact hkn k k0 k1
        · rw [hb k (by omega) k1, hxn k k0]
        · rw [← hSZ]
          refine mf_szs_congr (fun k k0 k1 => ?_)
          rw [o18, if_neg]
          rw [hb2 k k0 k1]
          have := (hkn k k0 k1).2
          omega
        · rw [← hDP]
          refine mf_dps_congr (fun k k0 k1 => ?_)
          rw [o19, if_neg]
          rw [hb2 k k0 k1]
          have := (hkn k k0 k1).2
          omega
      · rw [if_neg e, if_neg e, if_neg e]
        have dx : mf_dom (G 15 0) x := ⟨hxx.1, by have := hxx.2; omega⟩
        have x2 := dx.2
        obtain ⟨a1, a2, a3⟩ := i3 x dx
        refine ⟨a1, a2, ?_⟩
        rcases a3 with a3 | ⟨c1, c2, c3, c4, c5, c6⟩
        · exact Or.inl a3
        · have hw' := mf_w_in (G 16 x)
          refine Or.inr ⟨c1, c2, fun k k0 k1 => ?_, fun k k0 k1 => ?_, ?_, ?_⟩
          · rw [n20 x k x2 k0 (by omega)]; exact c3 k k0 k1
          · rw [n20 x k x2 (by omega) k1]; exact c4 k k0 k1
          · rw [c5]
            refine mf_szs_congr (fun k k0 k1 => ?_)
            rw [n20 x k x2 k0 (by omega), o18, if_neg]
            have := (c3 k k0 k1).2
            omega
          · rw [c6]
            refine mf_dps_congr (fun k k0 k1 => ?_)
            rw [n20 x k x2 k0 (by omega), o19, if_neg]
            have := (c3 k k0 k1).2
            omega
    · rw [o15, n15]
      intro x y hxx hyy
      rw [o16, o20, n16, n16]
      have x1 := hxx.1; have x2 := hxx.2; have y1 := hyy.1; have y2 := hyy.2
      by_cases e : x = G 15 0 <;> by_cases e' : y = G 15 0
      · intro _ _ _; rw [e, e']
      · rw [if_pos e, if_neg e']
        intro _ q1 q2
        exfalso
        refine hno y ⟨y1, by omega⟩ (xmat_of (f := xt hd ch rt sh (G 26) r) q1.symm (fun k k0 k1 => ?_))
        rw [← n20 y k (by omega) k0 k1, ← q2 k k0 k1, e, hb k k0 k1]
      · rw [if_neg e, if_pos e']
        intro _ q1 q2
        exfalso
        refine hno x ⟨x1, by omega⟩ (xmat_of (f := xt hd ch rt sh (G 26) r) q1 (fun k k0 k1 => ?_))
        rw [← n20 x k (by omega) k0 k1, q2 k k0 k1, e', hb k k0 k1]
      · rw [if_neg e, if_neg e']
        intro q0 q1 q2
        refine i4 x y ⟨x1, by omega⟩ ⟨y1, by omega⟩ q0 q1 (fun k k0 k1 => ?_)
        rw [← n20 x k (by omega) k0 k1, ← n20 y k (by omega) k0 k1]
        exact q2 k k0 k1
    · intro r' hr' er'
      rw [o15, n15]
      unfold xrs
      rw [o16, o17, o20, o26]
      by_cases e : r' = r
      · rw [if_pos e, e]
        right
        refine ⟨⟨i1, by omega⟩, by rw [n16, if_pos rfl], fun z => absurd z hl, fun k k0 k1 => ?_⟩
        rw [hb2 k k0 k1, o26, if_neg (hne3 k k0 k1)]
      · rw [if_neg e]
        rcases i5 r' hr' er' with q | q
        · exact Or.inl q
        · right
          have q1 := q.1.2
          have hw' := mf_w_in (mh hd rt sh r')
          refine ⟨⟨q.1.1, by omega⟩, ?_, ?_, fun k k0 k1 => ?_⟩
          · rw [n16, if_neg (by omega)]; exact q.2.1
          · rw [no 17 (by decide)]; exact q.2.2.1
          · rw [o26, if_neg (hoth r' hr' er' q k k0 k1), n20 _ k (by omega) k0 (by omega)]
            exact q.2.2.2 k k0 k1
    · rw [o15, n15]
      intro x hxx
      by_cases e : x = G 15 0
      · exact ⟨r, hr, er, by rw [o26, if_pos rfl, e]⟩
      · obtain ⟨r', a1, a2, a3⟩ := i6 x ⟨hxx.1, by have := hxx.2; omega⟩
        refine ⟨r', a1, a2, ?_⟩
        rw [o26, if_neg]
        · exact a3
        · intro z
          rw [z, hun] at a3
          have := hxx.1
          omega
    · rw [o25, no 25 (by decide)]; exact i7
end
