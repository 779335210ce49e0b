-- SPEC V: the reference: pairs that were met
def mMet (G : tf_Sto) (p : Int) : Prop := b32 (G 61 (p / 32)) (p % 32).toNat = true
section
variable {l : Launch} {G : tf_Sto} {n c : Int} {hd : Int → Int} {ch : Int → Int → Int}
theorem mMet_up {p q : Int} (hp : 0 ≤ p) (hq : 0 ≤ q) : mMet (tf_up G 61 (p / 32) (tf_or (G 61 (p / 32)) (tf_shl 1 (p % 32)))) q ↔ mMet G q ∨ q = p := by
  unfold mMet
  rw [tf_up_eq]
  by_cases e : q / 32 = p / 32
  · rw [if_pos e, bit_set (by omega) (by omega) (by omega), e, Bool.or_eq_true, decide_eq_true_eq]
    constructor
    · rintro (z | z)
      · exact Or.inl z
      · exact Or.inr (by omega)
    · rintro (z | z)
      · exact Or.inl z
      · exact Or.inr (by rw [z])
  · rw [if_neg e]
    constructor
    · intro z; exact Or.inl z
    · rintro (z | z)
      · exact z
      · exact absurd (by rw [z]) e
theorem sp_113 {x y : Int} (hx : 0 ≤ x ∧ x < 300) (hy : 0 ≤ y ∧ y < 300) : tf_RUN l 113 [tf_r 42, tf_i x, tf_i y] G (tf_PI fun r G' => (∀ k : Nat, k ≠ 61 → G' k = G k) ∧ (∀ q, 0 ≤ q → (mMet G' q ↔ mMet G q ∨ q = 300 * x + y)) ∧ ((r = 1 ∧ ¬ mMet G (300 * x + y)) ∨ (r = 0 ∧ mMet G (300 * x + y)))) := by
  have hb := bit_tst (w := G 61 ((300 * x + y) / 32)) (i := (300 * x + y) % 32) (by omega) (by omega)
  have hu : ∀ q, 0 ≤ q → (mMet (tf_up G 61 ((300 * x + y) / 32) (tf_or (G 61 ((300 * x + y) / 32)) (tf_shl 1 ((300 * x + y) % 32)))) q ↔ mMet G q ∨ q = 300 * x + y) := fun q hq => mMet_up (by omega) hq
  refine vc_113 ⟨by omega, by omega, by omega, by omega, by omega, fun z => ⟨by omega, by omega, by omega, by omega, fun w => absurd rfl w, fun _ => ⟨by decide, tf_pi ⟨fun k hk => tf_upo hk, hu, Or.inl ⟨rfl, fun w => z ?_⟩⟩⟩⟩, fun z => ⟨by omega, by omega, by omega, by omega, fun _ => ⟨by decide, tf_pi ⟨fun k hk => tf_upo hk, hu, Or.inr ⟨rfl, ?_⟩⟩⟩, fun w => by omega⟩⟩
  · unfold mMet at w
    rw [hb, if_pos w]
  · rw [hb] at z
    unfold mMet
    apply Classical.byContradiction
    intro w
    rw [if_neg w] at z
    omega
/-- a pair comes -/
def mcm (p : Int) (G G' : tf_Sto) : Prop := (∀ k : Nat, k ≠ 42 → k ≠ 61 → k ≠ 62 → G' k = G k) ∧ (∀ j, j ≠ 26 → G' 42 j = G 42 j) ∧ (∀ q, 0 ≤ q → (mMet G' q ↔ mMet G q ∨ q = p)) ∧
  ((mMet G p ∧ G' 42 26 = G 42 26 ∧ G' 62 = G 62) ∨ (¬ mMet G p ∧ G' 42 26 = G 42 26 + 1 ∧ G' 62 (G 42 26) = p ∧ ∀ j, j ≠ G 42 26 → G' 62 j = G 62 j))
theorem sp_115 {x y : Int} (hx : 0 ≤ x ∧ x < 300) (hy : 0 ≤ y ∧ y < 300) (hm : ¬ mMet G (300 * x + y) → 0 ≤ G 42 26 ∧ G 42 26 < 90000) : tf_RUN l 115 [tf_r 42, tf_i x, tf_i y] G (tf_PV (mcm (300 * x + y) G)) := by
  refine vc_115 (tf_ri (sp_113 hx hy) ?_)
  rintro r G1 ⟨f1, f2, f3⟩
  have e42 : G1 42 = G 42 := f1 42 (by decide)
  have e62 : G1 62 = G 62 := f1 62 (by decide)
  refine ⟨fun q => ?_, fun q => ?_⟩
  · have hn : ¬ mMet G (300 * x + y) := by
      rcases f3 with z | z
      · exact z.2
      · exact absurd z.1 q
    have hb := hm hn
    rw [e42]
    refine ⟨by omega, by omega, hb, by omega, tf_pv ⟨fun k a b d => ?_, fun j hj => ?_, fun z hz => ?_, Or.inr ⟨hn, tf_up_at, ?_, fun j hj => ?_⟩⟩⟩
    · rw [tf_upo a, tf_upo d]; exact f1 k b
    · rw [tf_up_eq, if_neg hj, tf_upo' (by decide), e42]
    · unfold mMet
      simp only [tf_upo, tf_upo', tf_up_eq, ne_eq, Nat.reduceEqDiff, not_false_eq_true, reduceCtorEq]
      exact f2 z hz
    · simp only [tf_upo, tf_upo', tf_up_eq, ne_eq, Nat.reduceEqDiff, not_false_eq_true, reduceCtorEq]
      rw [if_pos trivial]
    · simp only [tf_upo, tf_upo', tf_up_eq, ne_eq, Nat.reduceEqDiff, not_false_eq_true, reduceCtorEq]
      rw [if_neg hj, e62]
  · have hn : mMet G (300 * x + y) := by
      rcases f3 with z | z
      · omega
      · exact z.2
    exact tf_pv ⟨fun k _ b _ => f1 k b, fun j _ => by rw [e42], f2, Or.inl ⟨hn, by rw [e42], e62⟩⟩
set_option maxHeartbeats 1000000 in
theorem sp_114 {x y : Int} (hc : G 42 18 = c) (hc3 : 0 ≤ c ∧ c ≤ 300) (hx : 0 ≤ x ∧ x < 300) (hy : 0 ≤ y ∧ y < 300) :
    tf_RUN l 114 [tf_r 42, tf_i x, tf_i y] G (tf_PV fun G' => (∀ k : Nat, k ≠ 42 → k ≠ 60 → k ≠ 61 → k ≠ 62 → G' k = G k) ∧ (∀ j, j ≠ 26 → G' 42 j = G 42 j) ∧ (∀ q, 0 ≤ q → q < 90000 → (mMet G' q ↔ q = 300 * x + y)) ∧ G' 42 26 = 1 ∧ G' 62 0 = 300 * x + y ∧ ∀ j, 0 ≤ j → j < c → G' 60 j = -1) := by
  refine vc_114 ?_
  have k2 : ∀ (d : Nat) (G1 : tf_Sto) (k : Int), 0 ≤ k → k + d = c → (∀ k : Nat, k ≠ 60 → k ≠ 61 → G1 k = G k) → (∀ j, 0 ≤ j → j < 2900 → G1 61 j = 0) → (∀ j, 0 ≤ j → j < k → G1 60 j = -1) →
      tf_AW l 114 none (tf_PV fun G' => (∀ k : Nat, k ≠ 42 → k ≠ 60 → k ≠ 61 → k ≠ 62 → G' k = G k) ∧ (∀ j, j ≠ 26 → G' 42 j = G 42 j) ∧ (∀ q, 0 ≤ q → q < 90000 → (mMet G' q ↔ q = 300 * x + y)) ∧ G' 42 26 = 1 ∧ G' 62 0 = 300 * x + y ∧ ∀ j, 0 ≤ j → j < c → G' 60 j = -1) 24 [(0, tf_r 42), (1, tf_i x), (2, tf_i y), (3, tf_i k)] [] (none, false) G1 := by
    intro d
    induction d with
    | zero =>
      intro G1 k k0 k1 hf h1 h2
      have e18 : G1 42 18 = c := by rw [hf 42 (by decide) (by decide)]; exact hc
      have hno : ∀ q, 0 ≤ q → q < 90000 → ¬ mMet (tf_up G1 42 26 0) q := by
        intro q q0 q1
        unfold mMet
        rw [tf_upo (by decide), h1 _ (by omega) (by omega), b32_0]
        decide
      refine vc_114_24 ⟨fun _ => tf_rv (sp_115 hx hy (fun _ => by rw [tf_up_at]; omega)) ?_, fun z => by omega⟩
      rintro G2 ⟨a1, a2, a3, a4⟩
      have hz := hno (300 * x + y) (by omega) (by omega)
      rcases a4 with a4 | ⟨-, b1, b2, b3⟩
      · exact absurd a4.1 hz
      · rw [tf_up_at] at b1 b2
        refine tf_pv ⟨fun k p q r s => ?_, fun j hj => ?_, fun q q0 q1 => ?_, by omega, b2, fun j j0 j1 => ?_⟩
        · rw [a1 k p r s, tf_upo p]; exact hf k q r
        · rw [a2 j hj, tf_up_eq, if_neg hj, hf 42 (by decide) (by decide)]
        · rw [a3 q q0]
          exact ⟨fun z => z.resolve_left (hno q q0 q1), fun z => Or.inr z⟩
        · rw [a1 60 (by decide) (by decide) (by decide), tf_upo (by decide)]
          exact h2 j j0 (by omega)
    | succ d ih =>
      intro G1 k k0 k1 hf h1 h2
      have e18 : G1 42 18 = c := by rw [hf 42 (by decide) (by decide)]; exact hc
      refine vc_114_24 ⟨fun z => by omega, fun _ => ⟨by omega, by omega, ih _ _ (by omega) (by omega) (fun j a b => by rw [tf_upo a]; exact hf j a b) (fun j j0 j1 => by rw [tf_upo (by decide)]; exact h1 j j0 j1) (fun j j0 j1 => ?_)⟩⟩
      rw [tf_up_eq]
      by_cases e : j = k
      · rw [if_pos e]
      · rw [if_neg e]; exact h2 j j0 (by omega)
  have k1 : ∀ (d : Nat) (G1 : tf_Sto) (k : Int), 0 ≤ k → k + d = 2900 → (∀ k : Nat, k ≠ 61 → G1 k = G k) → (∀ j, 0 ≤ j → j < k → G1 61 j = 0) →
      tf_AW l 114 none (tf_PV fun G' => (∀ k : Nat, k ≠ 42 → k ≠ 60 → k ≠ 61 → k ≠ 62 → G' k = G k) ∧ (∀ j, j ≠ 26 → G' 42 j = G 42 j) ∧ (∀ q, 0 ≤ q → q < 90000 → (mMet G' q ↔ q = 300 * x + y)) ∧ G' 42 26 = 1 ∧ G' 62 0 = 300 * x + y ∧ ∀ j, 0 ≤ j → j < c → G' 60 j = -1) 2 [(0, tf_r 42), (1, tf_i x), (2, tf_i y), (3, tf_i k)] [] (none, false) G1 := by
    intro d
    induction d with
    | zero =>
      intro G1 k k0 k1 hf h1
      exact vc_114_2 ⟨fun _ => k2 c.toNat G1 0 (by omega) (by omega) (fun k _ b => hf k b) (fun j j0 j1 => h1 j j0 (by omega)) (fun j j0 j1 => by omega), fun z => by omega⟩
    | succ d ih =>
      intro G1 k k0 k1 hf h1
      refine vc_114_2 ⟨fun z => by omega, fun _ => ⟨by omega, by omega, ih _ _ (by omega) (by omega) (fun j a => by rw [tf_upo a]; exact hf j a) (fun j j0 j1 => ?_)⟩⟩
      rw [tf_up_eq]
      by_cases e : j = k
      · rw [if_pos e]
      · rw [if_neg e]; exact h1 j j0 (by omega)
  exact k1 2900 G 0 (by omega) (by omega) (fun _ _ => rfl) (fun j j0 j1 => by omega)
theorem mK_ex : ∃ k : Nat, k = 90000 := ⟨90000, rfl⟩
/-- 90000, so that nothing unfolds it -/
noncomputable def mK : Nat := Classical.choose mK_ex
theorem mK_eq : mK = 90000 := Classical.choose_spec mK_ex
theorem mK_int : (mK : Int) = 90000 := by rw [mK_eq]; rfl
/-- the number of pairs that were met -/
noncomputable def mN (G : tf_Sto) : Int := mf_cnt (fun q => mMet G q) mK
theorem mN_in : 0 ≤ mN G ∧ mN G ≤ 90000 := by
  have h := mf_cnt_in (fun q => mMet G q) mK
  rw [mK_int] at h
  exact h
theorem mN_congr {G' : tf_Sto} (h : ∀ q, 0 ≤ q → q < 90000 → (mMet G' q ↔ mMet G q)) : mN G' = mN G := mf_cnt_congr (fun t t0 t1 => h t t0 (by rw [mK_int] at t1; exact t1))
theorem mN_new {p : Int} (h0 : 0 ≤ p) (h1 : p < 90000) (hn : ¬ mMet G p) : mN G + 1 ≤ 90000 := by
  have hadd : mf_cnt (fun q => mMet G q ∨ q = p) mK = mf_cnt (fun q => mMet G q) mK + 1 := mf_cnt_add (P := fun q => mMet G q) (a := p) h0 (by rw [mK_int]; exact h1) hn (fun t _ _ => Iff.rfl)
  have h2 := (mf_cnt_in (fun q => mMet G q ∨ q = p) mK).2
  rw [mK_int, hadd] at h2
  exact h2
theorem mN_one {p : Int} (h0 : 0 ≤ p) (h1 : p < 90000) (h : ∀ q, 0 ≤ q → q < 90000 → (mMet G q ↔ q = p)) : mN G = 1 := by
  have h2 := mf_cnt_one (n := mK) (a := p) h0 (by rw [mK_int]; exact h1)
  rw [← h2]
  exact mf_cnt_congr (fun t t0 t1 => h t t0 (by rw [mK_int] at t1; exact t1))
theorem mcm.num {p : Int} {G' : tf_Sto} (h : mcm p G G') (h0 : 0 ≤ p) (h1 : p < 90000) : (mMet G p ∧ mN G' = mN G ∧ G' 42 26 = G 42 26) ∨ (¬ mMet G p ∧ mN G' = mN G + 1 ∧ G' 42 26 = G 42 26 + 1) := by
  obtain ⟨-, -, a3, a4⟩ := h
  rcases a4 with ⟨b1, b2, -⟩ | ⟨b1, b2, -⟩
  · refine Or.inl ⟨b1, mN_congr (fun t t0 _ => ?_), b2⟩
    rw [a3 t t0]
    exact ⟨fun z => z.elim id (fun e => by rw [e]; exact b1), fun z => Or.inl z⟩
  · exact Or.inr ⟨b1, mf_cnt_add (P := fun q => mMet G q) (a := p) h0 (by rw [mK_int]; exact h1) b1 (fun t t0 _ => a3 t t0), b2⟩
theorem mcm.kp {p : Int} {G' : tf_Sto} (h : mcm p G G') : mkp G G' := ⟨fun k a b => h.1 k (by omega) (by omega) (by omega), fun j a _ => h.2.1 j a⟩
end
