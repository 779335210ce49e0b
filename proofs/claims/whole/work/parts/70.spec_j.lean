-- SPEC J: the class: tables of trees
theorem tf_and511 (x : Int) : 0 ≤ tf_and x 511 ∧ tf_and x 511 < 512 := by
  have h1 : (Int32.ofInt 511).toBitVec = 511#32 := by decide
  have h2 : tf_and x 511 = ((Int32.ofInt x).toBitVec &&& 511#32).toInt := by
    show ((Int32.ofInt x).toBitVec &&& (Int32.ofInt 511).toBitVec).toInt = _
    rw [h1]
  have h3 : ((Int32.ofInt x).toBitVec &&& 511#32).toNat ≤ 511 := by
    rw [BitVec.toNat_and]
    exact Nat.and_le_right
  rw [h2, BitVec.toInt_eq_toNat_cond]
  rw [if_pos (by omega)]
  omega
def bk (h a b c : Int) : Int := tf_and (tf_xor (((h * 31 + a) * 37 + b) * 41 + c) (tf_ushr (((h * 31 + a) * 37 + b) * 41 + c) 9)) 511
def xmx (G : tf_Sto) (b u v : Int) : Prop := (v = -1 ∧ ∀ y, 0 ≤ y → y < u → G 16 y ≠ -1 → G 23 y ≠ b) ∨ (0 ≤ v ∧ v < u ∧ G 16 v ≠ -1 ∧ G 23 v = b ∧ ∀ y, v < y → y < u → G 16 y ≠ -1 → G 23 y ≠ b)
/-- the buckets hold the trees below c -/
def xtab (c : Int) (G : tf_Sto) : Prop := (∀ x, mf_dom c x → G 16 x ≠ -1 → G 23 x = bk (G 16 x) (G 20 (x * 3)) (G 20 (x * 3 + 1)) (G 20 (x * 3 + 2)) ∧ xmx G (G 23 x) x (G 22 x)) ∧ ∀ b, 0 ≤ b → b < 512 → xmx G b c (G 21 b)
def xnew (G : tf_Sto) (h a b d : Int) : tf_Sto := tf_up (tf_up (tf_up (tf_up (tf_up (tf_up (tf_up (tf_up G 16 (G 15 0) h) 20 (G 15 0 * 3) a) 20 (G 15 0 * 3 + 1) b) 20 (G 15 0 * 3 + 2) d) 23 (G 15 0) (bk h a b d)) 22 (G 15 0) (G 21 (bk h a b d))) 21 (bk h a b d) (G 15 0)) 15 0 (G 15 0 + 1)
section
variable {l : Launch} {G : tf_Sto}
theorem sp_42 {x : Int} : tf_RUN l 42 [tf_r 15, tf_i x] G (tf_PI fun r G' => r = (if x < G 15 1 then 1 else 0) ∧ G' = G) :=
  vc_42 ⟨fun q => ⟨by decide, tf_pi ⟨by rw [if_neg (by omega)], rfl⟩⟩, fun q => ⟨by decide, tf_pi ⟨by rw [if_pos q], rfl⟩⟩⟩
theorem sp_43 {x k : Int} (h : 0 ≤ x ∧ x < 300) (hk : 0 ≤ k ∧ k < 3) : tf_RUN l 43 [tf_r 15, tf_i x, tf_i k] G (tf_PI fun r G' => r = G 20 (x * 3 + k) ∧ G' = G) :=
  vc_43 ⟨by omega, by omega, by omega, tf_pi ⟨rfl, rfl⟩⟩
theorem sp_44 {v : Int} (h : 0 ≤ G 15 0 ∧ G 15 0 < 300) : tf_RUN l 44 [tf_r 15, tf_i v] G (tf_PI fun r G' => r = G 15 0 ∧ G' = tf_up (tf_up (tf_up (tf_up (tf_up G 16 (G 15 0) (-1)) 17 (G 15 0) v) 18 (G 15 0) 1) 19 (G 15 0) 0) 15 0 (G 15 0 + 1)) :=
  vc_44 ⟨h, h, h, h, by omega, tf_pi ⟨rfl, rfl⟩⟩
theorem sp_47 : tf_RUN l 47 [tf_r 15] G (tf_PV fun G' => G' = tf_up G 15 1 (G 15 0)) := vc_47 (tf_pv rfl)
theorem sp_48 (h : 0 ≤ G 15 0 ∧ G 15 0 ≤ 300) (h' : 0 ≤ G 15 1 ∧ G 15 1 ≤ 300) : tf_RUN l 48 [tf_r 15] G (tf_PI fun r G' => r = G 15 0 - G 15 1 ∧ G' = G) := vc_48 ⟨by omega, tf_pi ⟨rfl, rfl⟩⟩
theorem sp_fI21 {v : Int} : tf_RUN l 146 [tf_r 21, tf_i v] G (tf_PV fun G' => (∀ k : Nat, k ≠ 21 → G' k = G k) ∧ ∀ j, 0 ≤ j → j < 512 → G' 21 j = v) := by
  refine vc_146_21 ?_
  have key : ∀ (d : Nat) (G1 : tf_Sto) (k : Int), 0 ≤ k → k + d = 512 → (∀ k : Nat, k ≠ 21 → G1 k = G k) → (∀ j, 0 ≤ j → j < k → G1 21 j = v) → tf_AW l 146 none (tf_PV fun G' => (∀ k : Nat, k ≠ 21 → G' k = G k) ∧ ∀ j, 0 ≤ j → j < 512 → G' 21 j = v) 5 [(0, tf_r 21), (1, tf_i v), (2, tf_i k), (3, tf_i 512)] [] (none, false) G1 := by
    intro d
    induction d with
    | zero =>
      intro G1 k k0 k1 h1 h2
      exact vc_146_5_21 ⟨fun _ => tf_pv ⟨h1, fun j j0 j1 => h2 j j0 (by omega)⟩, fun z => by omega⟩
    | succ d ih =>
      intro G1 k k0 k1 h1 h2
      refine vc_146_5_21 ⟨fun z => by omega, fun _ => ⟨by omega, by omega, ih _ _ (by omega) (by omega) (fun j hj => by rw [tf_upo hj]; exact h1 j hj) (fun j j0 j1 => ?_)⟩⟩
      rw [tf_up_eq]
      by_cases e : j = k
      · rw [if_pos e]
      · rw [if_neg e]; exact h2 j j0 (by omega)
  exact key 512 G 0 (by omega) (by omega) (fun _ _ => rfl) (fun j j0 j1 => by omega)
theorem sp_fI26 {v : Int} : tf_RUN l 146 [tf_r 26, tf_i v] G (tf_PV fun G' => (∀ k : Nat, k ≠ 26 → G' k = G k) ∧ ∀ j, 0 ≤ j → j < 300 → G' 26 j = v) := by
  refine vc_146_26 ?_
  have key : ∀ (d : Nat) (G1 : tf_Sto) (k : Int), 0 ≤ k → k + d = 300 → (∀ k : Nat, k ≠ 26 → G1 k = G k) → (∀ j, 0 ≤ j → j < k → G1 26 j = v) → tf_AW l 146 none (tf_PV fun G' => (∀ k : Nat, k ≠ 26 → G' k = G k) ∧ ∀ j, 0 ≤ j → j < 300 → G' 26 j = v) 5 [(0, tf_r 26), (1, tf_i v), (2, tf_i k), (3, tf_i 300)] [] (none, false) G1 := by
    intro d
    induction d with
    | zero =>
      intro G1 k k0 k1 h1 h2
      exact vc_146_5_26 ⟨fun _ => tf_pv ⟨h1, fun j j0 j1 => h2 j j0 (by omega)⟩, fun z => by omega⟩
    | succ d ih =>
      intro G1 k k0 k1 h1 h2
      refine vc_146_5_26 ⟨fun z => by omega, fun _ => ⟨by omega, by omega, ih _ _ (by omega) (by omega) (fun j hj => by rw [tf_upo hj]; exact h1 j hj) (fun j j0 j1 => ?_)⟩⟩
      rw [tf_up_eq]
      by_cases e : j = k
      · rw [if_pos e]
      · rw [if_neg e]; exact h2 j j0 (by omega)
  exact key 300 G 0 (by omega) (by omega) (fun _ _ => rfl) (fun j j0 j1 => by omega)
theorem sp_fI33 {v : Int} : tf_RUN l 146 [tf_r 33, tf_i v] G (tf_PV fun G' => (∀ k : Nat, k ≠ 33 → G' k = G k) ∧ ∀ j, 0 ≤ j → j < 300 → G' 33 j = v) := by
  refine vc_146_33 ?_
  have key : ∀ (d : Nat) (G1 : tf_Sto) (k : Int), 0 ≤ k → k + d = 300 → (∀ k : Nat, k ≠ 33 → G1 k = G k) → (∀ j, 0 ≤ j → j < k → G1 33 j = v) → tf_AW l 146 none (tf_PV fun G' => (∀ k : Nat, k ≠ 33 → G' k = G k) ∧ ∀ j, 0 ≤ j → j < 300 → G' 33 j = v) 5 [(0, tf_r 33), (1, tf_i v), (2, tf_i k), (3, tf_i 300)] [] (none, false) G1 := by
    intro d
    induction d with
    | zero =>
      intro G1 k k0 k1 h1 h2
      exact vc_146_5_33 ⟨fun _ => tf_pv ⟨h1, fun j j0 j1 => h2 j j0 (by omega)⟩, fun z => by omega⟩
    | succ d ih =>
      intro G1 k k0 k1 h1 h2
      refine vc_146_5_33 ⟨fun z => by omega, fun _ => ⟨by omega, by omega, ih _ _ (by omega) (by omega) (fun j hj => by rw [tf_upo hj]; exact h1 j hj) (fun j j0 j1 => ?_)⟩⟩
      rw [tf_up_eq]
      by_cases e : j = k
      · rw [if_pos e]
      · rw [if_neg e]; exact h2 j j0 (by omega)
  exact key 300 G 0 (by omega) (by omega) (fun _ _ => rfl) (fun j j0 j1 => by omega)
theorem sp_fB31 : tf_RUN l 147 [tf_r 31, tf_i 0] G (tf_PV fun G' => (∀ k : Nat, k ≠ 31 → G' k = G k) ∧ ∀ j, 0 ≤ j → j < 300 → G' 31 j = 0) := by
  refine vc_147_31 ?_
  have key : ∀ (d : Nat) (G1 : tf_Sto) (k : Int), 0 ≤ k → k + d = 300 → (∀ k : Nat, k ≠ 31 → G1 k = G k) → (∀ j, 0 ≤ j → j < k → G1 31 j = 0) → tf_AW l 147 none (tf_PV fun G' => (∀ k : Nat, k ≠ 31 → G' k = G k) ∧ ∀ j, 0 ≤ j → j < 300 → G' 31 j = 0) 5 [(0, tf_r 31), (1, tf_i 0), (2, tf_i k), (3, tf_i 300)] [] (none, false) G1 := by
    intro d
    induction d with
    | zero =>
      intro G1 k k0 k1 h1 h2
      exact vc_147_5_31 ⟨fun _ => tf_pv ⟨h1, fun j j0 j1 => h2 j j0 (by omega)⟩, fun z => by omega⟩
    | succ d ih =>
      intro G1 k k0 k1 h1 h2
      refine vc_147_5_31 ⟨fun z => by omega, fun _ => ⟨by omega, by omega, by omega, ih _ _ (by omega) (by omega) (fun j hj => by rw [tf_upo hj]; exact h1 j hj) (fun j j0 j1 => ?_)⟩⟩
      rw [tf_up_eq]
      by_cases e : j = k
      · rw [if_pos e]
      · rw [if_neg e]; exact h2 j j0 (by omega)
  exact key 300 G 0 (by omega) (by omega) (fun _ _ => rfl) (fun j j0 j1 => by omega)
theorem sp_fJ37 : tf_RUN l 148 [tf_r 37, tf_l 0] G (tf_PV fun G' => (∀ k : Nat, k ≠ 37 → G' k = G k) ∧ ∀ j, 0 ≤ j → j < 1500 → G' 37 j = 0) := by
  refine vc_148_37 ?_
  have key : ∀ (d : Nat) (G1 : tf_Sto) (k : Int), 0 ≤ k → k + d = 1500 → (∀ k : Nat, k ≠ 37 → G1 k = G k) → (∀ j, 0 ≤ j → j < k → G1 37 j = 0) → tf_AW l 148 none (tf_PV fun G' => (∀ k : Nat, k ≠ 37 → G' k = G k) ∧ ∀ j, 0 ≤ j → j < 1500 → G' 37 j = 0) 6 [(0, tf_r 37), (1, tf_l 0), (3, tf_i k), (4, tf_i 1500)] [] (none, false) G1 := by
    intro d
    induction d with
    | zero =>
      intro G1 k k0 k1 h1 h2
      exact vc_148_6_37 ⟨fun _ => tf_pv ⟨h1, fun j j0 j1 => h2 j j0 (by omega)⟩, fun z => by omega⟩
    | succ d ih =>
      intro G1 k k0 k1 h1 h2
      refine vc_148_6_37 ⟨fun z => by omega, fun _ => ⟨by omega, by omega, ih _ _ (by omega) (by omega) (fun j hj => by rw [tf_upo hj]; exact h1 j hj) (fun j j0 j1 => ?_)⟩⟩
      rw [tf_up_eq]
      by_cases e : j = k
      · rw [if_pos e]
      · rw [if_neg e]; exact h2 j j0 (by omega)
  exact key 1500 G 0 (by omega) (by omega) (fun _ _ => rfl) (fun j j0 j1 => by omega)
theorem sp_41 : tf_RUN l 41 [tf_r 15] G (tf_PV fun G' => G' 15 0 = 0 ∧ G' 15 1 = 0 ∧ (∀ k : Nat, k ≠ 15 → k ≠ 21 → G' k = G k) ∧ ∀ j, 0 ≤ j → j < 512 → G' 21 j = -1) := by
  refine vc_41 (tf_rv sp_fI21 ?_)
  rintro G' ⟨h1, h2⟩
  refine tf_pv ⟨?_, ?_, fun k a b => ?_, h2⟩
  · rw [h1 15 (by decide), tf_up_eq, if_neg (by decide), tf_up_at]
  · rw [h1 15 (by decide), tf_up_at]
  · rw [h1 k b, tf_upo a, tf_upo a]
/-- a tree of a head and trees below -/
def xmat (G : tf_Sto) (h a b d x : Int) : Prop := G 16 x = h ∧ G 20 (x * 3) = a ∧ G 20 (x * 3 + 1) = b ∧ G 20 (x * 3 + 2) = d
set_option maxHeartbeats 2000000 in
theorem sp_45 (ht : xtab (G 15 0) G) (hc : 0 ≤ G 15 0 ∧ G 15 0 < 300) {h a b d : Int} (hh : 0 ≤ h ∧ h < 64) (ha : -1 ≤ a ∧ a < 300) (hb : -1 ≤ b ∧ b < 300) (hd : -1 ≤ d ∧ d < 300) :
    tf_RUN l 45 [tf_r 15, tf_i h, tf_i a, tf_i b, tf_i d] G (tf_PI fun r G' => (mf_dom (G 15 0) r ∧ xmat G h a b d r ∧ G' = G) ∨ (r = G 15 0 ∧ (∀ x, mf_dom (G 15 0) x → ¬ xmat G h a b d x) ∧ G' = xnew G h a b d)) := by
  have hbk := tf_and511 (tf_xor (((h * 31 + a) * 37 + b) * 41 + d) (tf_ushr (((h * 31 + a) * 37 + b) * 41 + d) 9))
  refine vc_45 ⟨by omega, by omega, by omega, by omega, by omega, by omega, hbk, ?_⟩
  have ebk : bk h a b d = tf_and (tf_xor (((h * 31 + a) * 37 + b) * 41 + d) (tf_ushr (((h * 31 + a) * 37 + b) * 41 + d) 9)) 511 := rfl
  rw [← ebk] at hbk ⊢
  -- the end of the search
  have fin : (∀ x, mf_dom (G 15 0) x → ¬ xmat G h a b d x) → (0 ≤ G 15 0 ∧ G 15 0 < 300) ∧ ((-2147483648 ≤ G 15 0 * 3 ∧ G 15 0 * 3 ≤ 2147483647) ∧ ((0 ≤ (G 15 0 * 3) ∧ (G 15 0 * 3) < 900) ∧ ((-2147483648 ≤ G 15 0 * 3 ∧ G 15 0 * 3 ≤ 2147483647) ∧ ((-2147483648 ≤ (G 15 0 * 3) + 1 ∧ (G 15 0 * 3) + 1 ≤ 2147483647) ∧ ((0 ≤ ((G 15 0 * 3) + 1) ∧ ((G 15 0 * 3) + 1) < 900) ∧ ((-2147483648 ≤ G 15 0 * 3 ∧ G 15 0 * 3 ≤ 2147483647) ∧ ((-2147483648 ≤ (G 15 0 * 3) + 2 ∧ (G 15 0 * 3) + 2 ≤ 2147483647) ∧ ((0 ≤ ((G 15 0 * 3) + 2) ∧ ((G 15 0 * 3) + 2) < 900) ∧ ((0 ≤ G 15 0 ∧ G 15 0 < 300) ∧ ((0 ≤ bk h a b d ∧ bk h a b d < 512) ∧ ((0 ≤ G 15 0 ∧ G 15 0 < 300) ∧ ((0 ≤ bk h a b d ∧ bk h a b d < 512) ∧ ((-2147483648 ≤ G 15 0 + 1 ∧ G 15 0 + 1 ≤ 2147483647) ∧ ((tf_PI fun r G' => (mf_dom (G 15 0) r ∧ xmat G h a b d r ∧ G' = G) ∨ (r = G 15 0 ∧ (∀ x, mf_dom (G 15 0) x → ¬ xmat G h a b d x) ∧ G' = xnew G h a b d)) (.inl (some (tf_i (G 15 0)))) (xnew G h a b d))))))))))))))) := by
    intro hno
    exact ⟨hc, by omega, by omega, by omega, by omega, by omega, by omega, by omega, by omega, hc, hbk, hc, hbk, by omega, tf_pi (Or.inr ⟨rfl, hno, rfl⟩)⟩
  have key : ∀ (f : Nat) (v step : Int), 0 ≤ step → step + f = G 15 0 → v < (f : Int) → ∀ u, u ≤ G 15 0 → xmx G (bk h a b d) u v → (∀ x, u ≤ x → x < G 15 0 → ¬ xmat G h a b d x) →
      tf_AW l 45 none (tf_PI fun r G' => (mf_dom (G 15 0) r ∧ xmat G h a b d r ∧ G' = G) ∨ (r = G 15 0 ∧ (∀ x, mf_dom (G 15 0) x → ¬ xmat G h a b d x) ∧ G' = xnew G h a b d)) 45 [(0, tf_r 15), (1, tf_i h), (2, tf_i a), (3, tf_i b), (4, tf_i d), (6, tf_i (bk h a b d)), (7, tf_i v), (8, tf_i step)] [] (none, false) G := by
    -- a match lies in its bucket
    have hin : ∀ x, mf_dom (G 15 0) x → xmat G h a b d x → G 16 x ≠ -1 ∧ G 23 x = bk h a b d := by
      intro x hx hm
      obtain ⟨m1, m2, m3, m4⟩ := hm
      have hne : G 16 x ≠ -1 := by omega
      refine ⟨hne, ?_⟩
      rw [(ht.1 x hx hne).1, m1, m2, m3, m4]
    -- none up to there: none at all
    have hnone : ∀ u v, v = -1 → u ≤ G 15 0 → xmx G (bk h a b d) u v → (∀ x, u ≤ x → x < G 15 0 → ¬ xmat G h a b d x) → ∀ x, mf_dom (G 15 0) x → ¬ xmat G h a b d x := by
      intro u v hv hu hx hno x hxd hm
      by_cases q : x < u
      · obtain ⟨m1, m2⟩ := hin x hxd hm
        rcases hx with ⟨-, hx⟩ | ⟨hx, -⟩
        · exact hx x hxd.1 q m1 m2
        · omega
      · exact hno x (by omega) hxd.2 hm
    intro f
    induction f with
    | zero =>
      intro v step s0 s1 hv u hu hx hno
      have ev : v = -1 := by
        rcases hx with ⟨hx, -⟩ | ⟨hx, -⟩
        · exact hx
        · omega
      exact vc_45_45 ⟨fun _ => fin (hnone u v ev hu hx hno), fun z => by omega⟩
    | succ f ih =>
      intro v step s0 s1 hv u hu hx hno
      refine vc_45_45 ⟨fun z => by omega, fun _ => ⟨fun ev => fin (hnone u v ev hu hx hno), fun ev => ?_⟩⟩
      obtain ⟨x1, x2, x3, x4, x5⟩ : 0 ≤ v ∧ v < u ∧ G 16 v ≠ -1 ∧ G 23 v = bk h a b d ∧ ∀ y, v < y → y < u → G 16 y ≠ -1 → G 23 y ≠ bk h a b d := by
        rcases hx with ⟨hx, -⟩ | hx
        · exact absurd hx ev
        · exact hx
      have dv : mf_dom (G 15 0) v := ⟨x1, by omega⟩
      obtain ⟨t1, t2⟩ := ht.1 v dv x3
      rw [x4] at t2
      have bv : 0 ≤ v ∧ v < 300 := ⟨x1, by omega⟩
      have cont : ¬ xmat G h a b d v → (0 ≤ v ∧ v < 300) ∧ ((-2147483648 ≤ step + 1 ∧ step + 1 ≤ 2147483647) ∧ (tf_AW l 45 none (tf_PI fun r G' => (mf_dom (G 15 0) r ∧ xmat G h a b d r ∧ G' = G) ∨ (r = G 15 0 ∧ (∀ x, mf_dom (G 15 0) x → ¬ xmat G h a b d x) ∧ G' = xnew G h a b d)) 45 [(0, tf_r 15), (1, tf_i h), (2, tf_i a), (3, tf_i b), (4, tf_i d), (6, tf_i (bk h a b d)), (7, tf_i (G 22 v)), (8, tf_i (step + 1))] [] (none, false) G)) := by
        intro hm
        refine ⟨bv, by omega, ih _ _ (by omega) (by omega) ?_ v (by omega) t2 ?_⟩
        · rcases t2 with ⟨q, -⟩ | ⟨q, q', -⟩ <;> omega
        · intro x q1 q2 q3
          by_cases e : x = v
          · rw [e] at q3; exact hm q3
          · by_cases e2 : x < u
            · obtain ⟨m1, m2⟩ := hin x ⟨by omega, q2⟩ q3
              exact x5 x (by omega) e2 m1 m2
            · exact hno x (by omega) q2 q3
      refine ⟨by omega, bv, fun q => cont (fun m => q m.1), fun q => ⟨by omega, fun q' => cont (fun m => q' m.2.1), fun q' => ⟨by omega, by omega, fun q2 => cont (fun m => q2 m.2.2.1), fun q2 => ⟨by omega, by omega, fun q3 => cont (fun m => q3 m.2.2.2), fun q3 => tf_pi (Or.inl ⟨dv, ⟨q, q', q2, q3⟩, rfl⟩)⟩⟩⟩⟩
  refine key (G 15 0).toNat _ 0 (by omega) (by omega) ?_ (G 15 0) (Int.le_refl _) (ht.2 _ hbk.1 hbk.2) (fun x q1 q2 => by omega)
  rcases ht.2 _ hbk.1 hbk.2 with ⟨q, -⟩ | ⟨q, q', -⟩ <;> omega
end
