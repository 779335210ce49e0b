-- SPEC K: the class: a tree more, trees away, measures
theorem bk_in (h a b d : Int) : 0 ≤ bk h a b d ∧ bk h a b d < 512 := tf_and511 _
section
variable {l : Launch} {G : tf_Sto}
theorem xnew_n {h a b d : Int} : xnew G h a b d 15 0 = G 15 0 + 1 := tf_up_at
theorem xnew_16 {h a b d x : Int} : xnew G h a b d 16 x = if x = G 15 0 then h else G 16 x := by
  unfold xnew
  simp only [tf_upo, tf_upo', tf_up_eq, ne_eq, Nat.reduceEqDiff, not_false_eq_true, reduceCtorEq]
theorem xnew_20 {h a b d x : Int} : xnew G h a b d 20 x = if x = G 15 0 * 3 + 2 then d else if x = G 15 0 * 3 + 1 then b else if x = G 15 0 * 3 then a else G 20 x := by
  unfold xnew
  simp only [tf_upo, tf_upo', tf_up_eq, ne_eq, Nat.reduceEqDiff, not_false_eq_true, reduceCtorEq]
theorem xnew_21 {h a b d x : Int} : xnew G h a b d 21 x = if x = bk h a b d then G 15 0 else G 21 x := by
  unfold xnew
  simp only [tf_upo, tf_upo', tf_up_eq, ne_eq, Nat.reduceEqDiff, not_false_eq_true, reduceCtorEq]
theorem xnew_22 {h a b d x : Int} : xnew G h a b d 22 x = if x = G 15 0 then G 21 (bk h a b d) else G 22 x := by
  unfold xnew
  simp only [tf_upo, tf_upo', tf_up_eq, ne_eq, Nat.reduceEqDiff, not_false_eq_true, reduceCtorEq]
theorem xnew_23 {h a b d x : Int} : xnew G h a b d 23 x = if x = G 15 0 then bk h a b d else G 23 x := by
  unfold xnew
  simp only [tf_upo, tf_upo', tf_up_eq, ne_eq, Nat.reduceEqDiff, not_false_eq_true, reduceCtorEq]
theorem xnew_o {h a b d : Int} {k : Nat} (hk : k ≠ 15 ∧ k ≠ 16 ∧ k ≠ 20 ∧ k ≠ 21 ∧ k ≠ 22 ∧ k ≠ 23) : xnew G h a b d k = G k := by
  unfold xnew
  rw [tf_upo hk.1, tf_upo hk.2.2.2.1, tf_upo hk.2.2.2.2.1, tf_upo hk.2.2.2.2.2, tf_upo hk.2.2.1, tf_upo hk.2.2.1, tf_upo hk.2.2.1, tf_upo hk.2.1]
theorem xnew_f {h a b d j : Int} (hj : j ≠ 0) : xnew G h a b d 15 j = G 15 j := by
  unfold xnew
  simp only [tf_upo, tf_upo', tf_up_eq, ne_eq, Nat.reduceEqDiff, not_false_eq_true, reduceCtorEq]
  rw [if_neg hj]
theorem xmx_congr {G' : tf_Sto} {b u v : Int} (h16 : ∀ y, 0 ≤ y → y < u → G' 16 y = G 16 y) (h23 : ∀ y, 0 ≤ y → y < u → G' 23 y = G 23 y) (h : xmx G b u v) : xmx G' b u v := by
  rcases h with ⟨h1, h2⟩ | ⟨h1, h2, h3, h4, h5⟩
  · refine Or.inl ⟨h1, fun y y0 y1 => ?_⟩
    rw [h16 y y0 y1, h23 y y0 y1]
    exact h2 y y0 y1
  · refine Or.inr ⟨h1, h2, ?_, ?_, fun y y0 y1 => ?_⟩
    · rw [h16 v h1 h2]; exact h3
    · rw [h23 v h1 h2]; exact h4
    · rw [h16 y (by omega) y1, h23 y (by omega) y1]
      exact h5 y y0 y1
set_option maxHeartbeats 1000000 in
theorem xtab_new {h a b d : Int} (ht : xtab (G 15 0) G) (hc : 0 ≤ G 15 0) (hh : 0 ≤ h) : xtab (G 15 0 + 1) (xnew G h a b d) := by
  have hb := bk_in h a b d
  refine ⟨fun x hx hne => ?_, fun q q0 q1 => ?_⟩
  · by_cases e : x = G 15 0
    · subst e
      rw [xnew_16, xnew_23, xnew_22, xnew_20, xnew_20, xnew_20, if_pos rfl, if_pos rfl, if_pos rfl, if_neg (by omega), if_neg (by omega), if_pos rfl, if_neg (by omega), if_pos rfl, if_pos rfl]
      refine ⟨rfl, xmx_congr (fun y y0 y1 => ?_) (fun y y0 y1 => ?_) (ht.2 _ hb.1 hb.2)⟩
      · rw [xnew_16, if_neg (by omega)]
      · rw [xnew_23, if_neg (by omega)]
    · have hx' : mf_dom (G 15 0) x := ⟨hx.1, by have := hx.2; omega⟩
      have x1 := hx'.1
      have x2 := hx'.2
      rw [xnew_16, if_neg e] at hne
      obtain ⟨t1, t2⟩ := ht.1 x hx' hne
      rw [xnew_16, xnew_23, xnew_22, xnew_20, xnew_20, xnew_20, if_neg e, if_neg e, if_neg e, if_neg (by omega), if_neg (by omega), if_neg (by omega), if_neg (by omega), if_neg (by omega), if_neg (by omega), if_neg (by omega), if_neg (by omega), if_neg (by omega)]
      refine ⟨t1, xmx_congr (fun y y0 y1 => ?_) (fun y y0 y1 => ?_) t2⟩
      · rw [xnew_16, if_neg (by omega)]
      · rw [xnew_23, if_neg (by omega)]
  · rw [xnew_21]
    by_cases e : q = bk h a b d
    · rw [if_pos e]
      refine Or.inr ⟨hc, by omega, ?_, ?_, fun y y0 y1 => by omega⟩
      · rw [xnew_16, if_pos rfl]; omega
      · rw [xnew_23, if_pos rfl, e]
    · rw [if_neg e]
      rcases ht.2 q q0 q1 with ⟨h1, h2⟩ | ⟨h1, h2, h3, h4, h5⟩
      · refine Or.inl ⟨h1, fun y y0 y1 => ?_⟩
        rw [xnew_16, xnew_23]
        by_cases e' : y = G 15 0
        · rw [if_pos e', if_pos e']
          intro _ z
          exact e z.symm
        · rw [if_neg e', if_neg e']
          exact h2 y y0 (by omega)
      · refine Or.inr ⟨h1, by omega, ?_, ?_, fun y y0 y1 => ?_⟩
        · rw [xnew_16, if_neg (by omega)]; exact h3
        · rw [xnew_23, if_neg (by omega)]; exact h4
        · rw [xnew_16, xnew_23]
          by_cases e' : y = G 15 0
          · rw [if_pos e', if_pos e']
            intro _ z
            exact e z.symm
          · rw [if_neg e', if_neg e']
            exact h5 y y0 (by omega)
set_option maxHeartbeats 1000000 in
theorem sp_49 (ht : xtab (G 15 0) G) (hc : 0 ≤ G 15 1 ∧ G 15 1 ≤ G 15 0 ∧ G 15 0 ≤ 300) (hn : ∀ x, G 15 1 ≤ x → x < G 15 0 → G 16 x ≠ -1) :
    tf_RUN l 49 [tf_r 15] G (tf_PV fun G' => xtab (G 15 1) G' ∧ G' 15 0 = G 15 1 ∧ G' 15 1 = G 15 1 ∧ ∀ k : Nat, k ≠ 15 → k ≠ 21 → G' k = G k) := by
  refine vc_49 ⟨by omega, ?_⟩
  have key : ∀ (f : Nat) (G1 : tf_Sto) (v : Int), v + 1 = G 15 1 + f → v < G 15 0 → (∀ b, 0 ≤ b → b < 512 → xmx G b (v + 1) (G1 21 b)) → (∀ k : Nat, k ≠ 21 → G1 k = G k) →
      tf_AW l 49 none (tf_PV fun G' => xtab (G 15 1) G' ∧ G' 15 0 = G 15 1 ∧ G' 15 1 = G 15 1 ∧ ∀ k : Nat, k ≠ 15 → k ≠ 21 → G' k = G k) 7 [(0, tf_r 15), (1, tf_i v)] [] (none, false) G1 := by
    intro f
    induction f with
    | zero =>
      intro G1 v e hv hb hf
      have e15 : G1 15 = G 15 := hf 15 (by decide)
      have e16 : G1 16 = G 16 := hf 16 (by decide)
      have e20 : G1 20 = G 20 := hf 20 (by decide)
      have e22 : G1 22 = G 22 := hf 22 (by decide)
      have e23 : G1 23 = G 23 := hf 23 (by decide)
      refine vc_49_7 ⟨fun _ => tf_pv ⟨⟨fun x hx hne => ?_, fun b b0 b1 => ?_⟩, ?_, ?_, fun k a1 a2 => ?_⟩, fun z => by rw [e15] at z; omega⟩
      · rw [tf_upo (by decide), e16] at hne
        simp only [tf_upo, tf_upo', tf_up_eq, ne_eq, Nat.reduceEqDiff, not_false_eq_true, reduceCtorEq]
        rw [e16, e20, e22, e23]
        have hx' : mf_dom (G 15 0) x := ⟨hx.1, by have := hx.2; omega⟩
        obtain ⟨t1, t2⟩ := ht.1 x hx' hne
        refine ⟨t1, xmx_congr (fun y _ _ => ?_) (fun y _ _ => ?_) t2⟩
        · rw [tf_upo (by decide), e16]
        · rw [tf_upo (by decide), e23]
      · simp only [tf_upo, tf_upo', tf_up_eq, ne_eq, Nat.reduceEqDiff, not_false_eq_true, reduceCtorEq]
        have := hb b b0 b1
        have e0 : v + 1 = G 15 1 := by omega
        rw [e0] at this
        refine xmx_congr (fun y _ _ => ?_) (fun y _ _ => ?_) this
        · rw [tf_upo (by decide), e16]
        · rw [tf_upo (by decide), e23]
      · rw [tf_up_at, e15]
      · rw [tf_up_eq, if_neg (by decide), e15]
      · rw [tf_upo a1]; exact hf k a2
    | succ f ih =>
      intro G1 v e hv hb hf
      have e15 : G1 15 = G 15 := hf 15 (by decide)
      have e22 : G1 22 = G 22 := hf 22 (by decide)
      have e23 : G1 23 = G 23 := hf 23 (by decide)
      have dv : mf_dom (G 15 0) v := ⟨by omega, hv⟩
      have hne := hn v (by omega) hv
      obtain ⟨t1, t2⟩ := ht.1 v dv hne
      have hbk := bk_in (G 16 v) (G 20 (v * 3)) (G 20 (v * 3 + 1)) (G 20 (v * 3 + 2))
      rw [← t1] at hbk
      refine vc_49_7 ⟨fun z => by rw [e15] at z; omega, fun _ => ⟨by omega, by omega, by rw [e23]; exact hbk, by omega, ih _ _ (by omega) (by omega) ?_ ?_⟩⟩
      · intro b b0 b1
        have e0 : v + -1 + 1 = v := by omega
        rw [e0, tf_up_eq, e22, e23]
        by_cases q : b = G 23 v
        · rw [if_pos q, q]; exact t2
        · rw [if_neg q]
          rcases hb b b0 b1 with ⟨h1, h2⟩ | ⟨h1, h2, h3, h4, h5⟩
          · exact Or.inl ⟨h1, fun y y0 y1 => h2 y y0 (by omega)⟩
          · refine Or.inr ⟨h1, ?_, h3, h4, fun y y0 y1 => h5 y y0 (by omega)⟩
            have : G1 21 b ≠ v := fun z => by rw [z] at h4; exact q h4.symm
            omega
      · intro k hk
        rw [tf_upo hk]; exact hf k hk
  refine key (G 15 0 - G 15 1).toNat G (G 15 0 - 1) (by omega) (by omega) ?_ (fun _ _ => rfl)
  have e : G 15 0 - 1 + 1 = G 15 0 := by omega
  rw [e]
  exact ht.2
def mf_sum (f : Int → Int) (m : Nat) : Int := match m with
  | 0 => 0
  | m + 1 => mf_sum f m + f (m : Int)
def mf_max (f : Int → Int) (m : Nat) : Int := match m with
  | 0 => 0
  | m + 1 => if mf_max f m < f (m : Int) then f (m : Int) else mf_max f m
def mf_szs (sz : Int → Int) (b : Int → Int) (w : Int) : Int := if 1000000000000 < 1 + mf_sum (fun k => sz (b k)) w.toNat then 1000000000000 else 1 + mf_sum (fun k => sz (b k)) w.toNat
def mf_dps (dp : Int → Int) (b : Int → Int) (w : Int) : Int := mf_max (fun k => dp (b k)) w.toNat + 1
theorem mf_sum_in {f : Int → Int} {m : Nat} {B : Int} (h : ∀ k : Int, 0 ≤ k → k < m → 0 ≤ f k ∧ f k ≤ B) : 0 ≤ mf_sum f m ∧ mf_sum f m ≤ m * B := by
  induction m with
  | zero => exact ⟨Int.le_refl _, by simp [mf_sum]⟩
  | succ m ih =>
    have h1 := ih (fun k k0 k1 => h k k0 (by omega))
    have h2 := h m (by omega) (by omega)
    show 0 ≤ mf_sum f m + f m ∧ mf_sum f m + f m ≤ ((m + 1 : Nat) : Int) * B
    have e : ((m + 1 : Nat) : Int) * B = (m : Int) * B + B := by
      rw [show ((m + 1 : Nat) : Int) = (m : Int) + 1 by omega, Int.add_mul, Int.one_mul]
    rw [e]
    omega
theorem mf_max_in {f : Int → Int} {m : Nat} {B : Int} (hB : 0 ≤ B) (h : ∀ k : Int, 0 ≤ k → k < m → 0 ≤ f k ∧ f k ≤ B) : 0 ≤ mf_max f m ∧ mf_max f m ≤ B := by
  induction m with
  | zero => exact ⟨Int.le_refl _, hB⟩
  | succ m ih =>
    have h1 := ih (fun k k0 k1 => h k k0 (by omega))
    have h2 := h m (by omega) (by omega)
    show 0 ≤ (if mf_max f m < f m then f m else mf_max f m) ∧ (if mf_max f m < f m then f m else mf_max f m) ≤ B
    split <;> omega
set_option maxHeartbeats 1000000 in
theorem sp_46 {x : Int} (hx : 0 ≤ x ∧ x < 300) (hh : 0 ≤ G 16 x) (hb : ∀ k, 0 ≤ k → k < mf_w (G 16 x) → (0 ≤ G 20 (x * 3 + k) ∧ G 20 (x * 3 + k) < 300) ∧ (0 ≤ G 18 (G 20 (x * 3 + k)) ∧ G 18 (G 20 (x * 3 + k)) ≤ 1000000000000) ∧ (0 ≤ G 19 (G 20 (x * 3 + k)) ∧ G 19 (G 20 (x * 3 + k)) ≤ 1000)) :
    tf_RUN l 46 [tf_r 15, tf_i x] G (tf_PV fun G' => G' = tf_up (tf_up G 18 x (mf_szs (G 18) (fun k => G 20 (x * 3 + k)) (mf_w (G 16 x)))) 19 x (mf_dps (G 19) (fun k => G 20 (x * 3 + k)) (mf_w (G 16 x)))) := by
  have hw := mf_w_in (G 16 x)
  refine vc_46 ⟨hx, tf_re (sp_24 (Or.inr hh)) ?_⟩
  generalize mf_w (G 16 x) = w at *
  have key : ∀ (d : Nat) (k : Nat), (k : Int) + d = w → tf_AW l 46 none (tf_PV fun G' => G' = tf_up (tf_up G 18 x (mf_szs (G 18) (fun k => G 20 (x * 3 + k)) w)) 19 x (mf_dps (G 19) (fun k => G 20 (x * 3 + k)) w)) 19
      [(0, tf_r 15), (1, tf_i x), (2, tf_l (1 + mf_sum (fun k => G 18 (G 20 (x * 3 + k))) k)), (4, tf_i (mf_max (fun k => G 19 (G 20 (x * 3 + k))) k)), (5, tf_i w), (6, tf_i (k : Int))] [] (none, false) G := by
    intro d
    induction d with
    | zero =>
      intro k hk
      have m1 := mf_max_in (f := fun k => G 19 (G 20 (x * 3 + k))) (m := k) (B := 1000) (by omega) (fun j j0 j1 => (hb j j0 (by omega)).2.2)
      have ek : w.toNat = k := by omega
      refine vc_46_19 ⟨fun _ => ⟨hx, by omega, hx, tf_pv ?_⟩, fun z => by omega⟩
      unfold mf_szs mf_dps
      rw [ek]
    | succ d ih =>
      intro k hk
      have m1 := mf_max_in (f := fun k => G 19 (G 20 (x * 3 + k))) (m := k) (B := 1000) (by omega) (fun j j0 j1 => (hb j j0 (by omega)).2.2)
      have m2 := mf_sum_in (f := fun k => G 18 (G 20 (x * 3 + k))) (m := k) (B := 1000000000000) (fun j j0 j1 => (hb j j0 (by omega)).2.1)
      obtain ⟨b1, b2, b3⟩ := hb k (by omega) (by omega)
      have hk3 : (k : Int) ≤ 3 := by omega
      have m3 : (k : Int) * 1000000000000 ≤ 3 * 1000000000000 := Int.mul_le_mul_of_nonneg_right hk3 (by omega)
      refine vc_46_19 ⟨fun z => by omega, fun _ => tf_re (sp_43 hx (by omega)) ⟨b1, by omega, tf_re (sp_43 hx (by omega)) ⟨b1, by omega, ?_⟩⟩⟩
      have e1 : (1 + mf_sum (fun k => G 18 (G 20 (x * 3 + k))) k) + G 18 (G 20 (x * 3 + (k : Int))) = 1 + mf_sum (fun k => G 18 (G 20 (x * 3 + k))) (k + 1) := by
        show _ = 1 + (mf_sum (fun k => G 18 (G 20 (x * 3 + k))) k + G 18 (G 20 (x * 3 + (k : Int))))
        omega
      have e2 : (if mf_max (fun k => G 19 (G 20 (x * 3 + k))) k < G 19 (G 20 (x * 3 + (k : Int))) then G 19 (G 20 (x * 3 + (k : Int))) else mf_max (fun k => G 19 (G 20 (x * 3 + k))) k) = mf_max (fun k => G 19 (G 20 (x * 3 + k))) (k + 1) := rfl
      have e3 : (k : Int) + 1 = ((k + 1 : Nat) : Int) := by omega
      rw [e1, e2, e3]
      exact ih (k + 1) (by omega)
  exact key w.toNat 0 (by omega)
end
