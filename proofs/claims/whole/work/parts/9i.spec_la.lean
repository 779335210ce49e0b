theorem lcmp_self (x : Int) : tf_lcmp x x = 0 := by
  unfold tf_lcmp
  simp
section
variable {l : Launch} {G : tf_Sto} {m : Nat} {D : List Int} {k b : Int} {A B B' : tf_Sto → Prop}
theorem ln_i (h : pQ m k b G) (hA : ∀ (m' : Nat) (D' : List Int), m' ≤ m + 1 → INV m' D' G → A G) : tf_RUN l 78 [tf_r 42] G (fun o7 G8 => ∃ r9 : Int, o7 = .inl (some (tf_i r9)) ∧ ((r9 = k → ((k ≠ 0 → (A G8)) ∧ (k = 0 → ((0 ≤ (0 : Int) ∧ (0 : Int) < 1) ∧ (((tf_lcmp (G8 67 0) b) = 0 → (A G8)) ∧ ((tf_lcmp (G8 67 0) b) ≠ 0 → (B G8))))))) ∧ (r9 ≠ k → (B' G8)))) := by
  obtain ⟨⟨m', D', h1, h2⟩, h3, h4⟩ := h
  refine tf_re sp_78 ⟨fun _ => ⟨fun _ => hA m' D' h1 h2, fun q => ⟨⟨by decide, by decide⟩, fun _ => hA m' D' h1 h2, fun q1 => ?_⟩⟩, fun q => absurd h3 q⟩
  rw [h4 q, lcmp_self] at q1
  exact absurd rfl q1
theorem ln_b (h : pB m k b G) (hA : ∀ (m' : Nat) (D' : List Int), m' ≤ m + 1 → INV m' D' G → A G) : tf_RUN l 78 [tf_r 42] G (fun o7 G8 => ∃ r9 : Int, o7 = .inl (some (tf_i r9)) ∧ ((r9 = k → ((k ≠ 0 → (A G8)) ∧ (k = 0 → ((0 ≤ (0 : Int) ∧ (0 : Int) < 1) ∧ ((b = 0 → (((tf_lcmp (G8 67 0) 0) = 0 → (A G8)) ∧ ((tf_lcmp (G8 67 0) 0) ≠ 0 → (B G8)))) ∧ (b ≠ 0 → (((tf_lcmp (G8 67 0) 1) = 0 → (A G8)) ∧ ((tf_lcmp (G8 67 0) 1) ≠ 0 → (B G8))))))))) ∧ (r9 ≠ k → (B' G8)))) := by
  obtain ⟨⟨⟨m', D', h1, h2⟩, h3, h4⟩, h5⟩ := h
  refine tf_re sp_78 ⟨fun _ => ⟨fun _ => hA m' D' h1 h2, fun q => ⟨⟨by decide, by decide⟩, fun q0 => ⟨fun _ => hA m' D' h1 h2, fun q1 => ?_⟩, fun q0 => ⟨fun _ => hA m' D' h1 h2, fun q1 => ?_⟩⟩⟩, fun q => absurd h3 q⟩
  · rw [h4 q, q0, lcmp_self] at q1
    exact absurd rfl q1
  · rcases h5 q with e | e
    · exact absurd e q0
    · rw [h4 q, e, lcmp_self] at q1
      exact absurd rfl q1
end
section
variable {l : Launch} {N : Nat} {xs : Int → Int}
theorem law_loop (hN : N ≤ 3072) : ∀ (d : Nat) (G : tf_Sto) (m : Nat) (D : List Int) (v : Int) (C K : Nat), INV m D G → 0 ≤ v → (N : Int) + 6 ≤ v + d → (m : Int) ≤ v → (C : Int) ≤ 1000 + v → (K : Int) ≤ 1000000 + 5 * v →
    tf_AW l 152 (some (N, xs)) (tf_PI fun r _ => r = 1) 23 [(0, tf_r 9999), (1, tf_r 0), (2, tf_r 42), (3, tf_r 67), (4, tf_i v)] [] (some (C, K), false) G := by
  intro d
  induction d with
  | zero =>
    intro G m D v C K hI v0 hd hm hC hK
    exact vl_23 ⟨⟨by omega, by omega⟩, fun _ => ⟨Or.inr rfl, tf_pi rfl⟩, fun q => by omega⟩
  | succ d ih =>
    intro G m D v C K hI v0 hd hm hC hK
    refine vl_23 ⟨⟨by omega, by omega⟩, fun _ => ⟨Or.inr rfl, tf_pi rfl⟩, fun q => ?_⟩
    have hm5 : m ≤ 4998 := by omega
    have hm9 : m ≤ 4999 := by omega
    have next : ∀ (G' : tf_Sto) (m' : Nat) (D' : List Int) (C' K' : Nat), m' ≤ m + 1 → INV m' D' G' → C' ≤ C + 5 → K' ≤ K + 30 → tf_AW l 152 (some (N, xs)) (tf_PI fun r _ => r = 1) 1272 [(0, tf_r 9999), (1, tf_r 0), (2, tf_r 42), (3, tf_r 67), (4, tf_i v)] [] (some (C', K'), false) G' := by
      intro G' m' D' C' K' h1 h2 h3 h4
      exact vl_1272 ⟨⟨by omega, by omega⟩, ih G' m' D' (v + 6) C' K' h2 (by omega) (by omega) (by omega) (by omega) (by omega)⟩
    refine ⟨⟨by omega, by omega⟩, fun _ => next G m D C K (by omega) hI (by omega) (by omega), fun _ => ?_, fun _ => ?_, fun _ => ?_, fun _ => ?_, fun _ => ?_, fun _ => ?_, fun _ => ?_, fun _ => ?_, fun _ => ?_, fun _ => ?_, fun _ => ?_, fun _ => ?_, fun _ => ?_, fun _ => ?_, fun _ => ?_, fun _ => ?_, fun _ => ?_, fun _ => ?_, trivial⟩
    · exact vl_128 ⟨⟨by omega, by omega⟩, tf_ri (pr_0 hI) fun k G1 h1 => tf_ri h1 fun b G2 h2 => ln_i h2 fun m' D' q1 q2 => next _ m' D' _ _ q1 q2 (by omega) (by omega)⟩
    · exact vl_172 ⟨⟨by omega, by omega⟩, ⟨by omega, by omega⟩, ⟨by omega, by omega⟩, ⟨by omega, by omega⟩, ⟨by omega, by omega⟩, ⟨by omega, by omega⟩, ⟨by omega, by omega⟩, ⟨by omega, by omega⟩, ⟨by omega, by omega⟩, ⟨by omega, by omega⟩, ⟨by omega, by omega⟩, tf_ri (pr_1 hI) fun k G1 h1 => ⟨⟨by omega, by omega⟩, ⟨by omega, by omega⟩, ⟨by omega, by omega⟩, ⟨by omega, by omega⟩, ⟨by omega, by omega⟩, ⟨by omega, by omega⟩, ⟨by omega, by omega⟩, ⟨by omega, by omega⟩, ⟨by omega, by omega⟩, ⟨by omega, by omega⟩, tf_ri h1 fun b G2 h2 => ln_i h2 fun m' D' q1 q2 => next _ m' D' _ _ q1 q2 (by omega) (by omega)⟩⟩
    · exact vl_276 ⟨⟨by omega, by omega⟩, ⟨by omega, by omega⟩, ⟨by omega, by omega⟩, ⟨by omega, by omega⟩, ⟨by omega, by omega⟩, tf_ri (pr_2 hI hm5) fun k G1 h1 => ⟨⟨by omega, by omega⟩, ⟨by omega, by omega⟩, ⟨by omega, by omega⟩, ⟨by omega, by omega⟩, tf_ri h1 fun b G2 h2 => ln_b h2 fun m' D' q1 q2 => next _ m' D' _ _ q1 q2 (by omega) (by omega)⟩⟩
    · exact vl_351 ⟨⟨by omega, by omega⟩, ⟨by omega, by omega⟩, ⟨by omega, by omega⟩, ⟨by omega, by omega⟩, ⟨by omega, by omega⟩, tf_ri (pr_3 hI hm9) fun k G1 h1 => ⟨⟨by omega, by omega⟩, ⟨by omega, by omega⟩, ⟨by omega, by omega⟩, ⟨by omega, by omega⟩, tf_ri h1 fun b G2 h2 => ln_b h2 fun m' D' q1 q2 => next _ m' D' _ _ q1 q2 (by omega) (by omega)⟩⟩
    · exact vl_426 ⟨⟨by omega, by omega⟩, tf_ri (pr_4 hI) fun k G1 h1 => tf_ri h1 fun b G2 h2 => ln_i h2 fun m' D' q1 q2 => next _ m' D' _ _ q1 q2 (by omega) (by omega)⟩
    · exact vl_470 ⟨⟨by omega, by omega⟩, tf_ri (pr_5 hI hm9) fun k G1 h1 => tf_ri h1 fun b G2 h2 => ln_i h2 fun m' D' q1 q2 => next _ m' D' _ _ q1 q2 (by omega) (by omega)⟩
    · exact vl_514 ⟨⟨by omega, by omega⟩, ⟨by omega, by omega⟩, ⟨by omega, by omega⟩, ⟨by omega, by omega⟩, ⟨by omega, by omega⟩, tf_ri (pr_6 hI hm9) fun k G1 h1 => ⟨⟨by omega, by omega⟩, ⟨by omega, by omega⟩, ⟨by omega, by omega⟩, ⟨by omega, by omega⟩, tf_ri h1 fun b G2 h2 => ln_b h2 fun m' D' q1 q2 => next _ m' D' _ _ q1 q2 (by omega) (by omega)⟩⟩
    · exact vl_589 ⟨⟨by omega, by omega⟩, ⟨by omega, by omega⟩, ⟨by omega, by omega⟩, tf_ri (pr_7 hI hm9) fun k G1 h1 => ⟨⟨by omega, by omega⟩, ⟨by omega, by omega⟩, tf_ri h1 fun b G2 h2 => ln_b h2 fun m' D' q1 q2 => next _ m' D' _ _ q1 q2 (by omega) (by omega)⟩⟩
    · exact vl_652 ⟨⟨by omega, by omega⟩, ⟨by omega, by omega⟩, ⟨by omega, by omega⟩, tf_ri (pr_8 hI hm9) fun k G1 h1 => ⟨⟨by omega, by omega⟩, ⟨by omega, by omega⟩, tf_rl h1 fun b G2 h2 => ln_i h2 fun m' D' q1 q2 => next _ m' D' _ _ q1 q2 (by omega) (by omega)⟩⟩
    · exact vl_707 ⟨⟨by omega, by omega⟩, ⟨by omega, by omega⟩, ⟨by omega, by omega⟩, tf_ri (pr_9 hI hm9) fun k G1 h1 => ⟨⟨by omega, by omega⟩, ⟨by omega, by omega⟩, tf_ri h1 fun b G2 h2 => ln_i h2 fun m' D' q1 q2 => next _ m' D' _ _ q1 q2 (by omega) (by omega)⟩⟩
    · exact vl_763 ⟨⟨by omega, by omega⟩, ⟨by omega, by omega⟩, ⟨by omega, by omega⟩, tf_ri (pr_10 hI hm9) fun k G1 h1 => ⟨⟨by omega, by omega⟩, ⟨by omega, by omega⟩, tf_ri h1 fun b G2 h2 => ln_i h2 fun m' D' q1 q2 => next _ m' D' _ _ q1 q2 (by omega) (by omega)⟩⟩
    · exact vl_819 ⟨⟨by omega, by omega⟩, ⟨by omega, by omega⟩, ⟨by omega, by omega⟩, tf_ri (pr_11 hI hm9) fun k G1 h1 => ⟨⟨by omega, by omega⟩, ⟨by omega, by omega⟩, tf_ri h1 fun b G2 h2 => ln_i h2 fun m' D' q1 q2 => next _ m' D' _ _ q1 q2 (by omega) (by omega)⟩⟩
    · exact vl_875 ⟨⟨by omega, by omega⟩, ⟨by omega, by omega⟩, ⟨by omega, by omega⟩, ⟨by omega, by omega⟩, ⟨by omega, by omega⟩, tf_ri (pr_12 hI hm9) fun k G1 h1 => ⟨⟨by omega, by omega⟩, ⟨by omega, by omega⟩, ⟨by omega, by omega⟩, ⟨by omega, by omega⟩, tf_ri h1 fun b G2 h2 => ln_b h2 fun m' D' q1 q2 => next _ m' D' _ _ q1 q2 (by omega) (by omega)⟩⟩
    · exact vl_950 ⟨⟨by omega, by omega⟩, ⟨by omega, by omega⟩, ⟨by omega, by omega⟩, ⟨by omega, by omega⟩, ⟨by omega, by omega⟩, tf_ri (pr_13 hI hm9) fun k G1 h1 => ⟨⟨by omega, by omega⟩, ⟨by omega, by omega⟩, ⟨by omega, by omega⟩, ⟨by omega, by omega⟩, tf_ri h1 fun b G2 h2 => ln_b h2 fun m' D' q1 q2 => next _ m' D' _ _ q1 q2 (by omega) (by omega)⟩⟩
    · exact vl_1025 ⟨⟨by omega, by omega⟩, ⟨by omega, by omega⟩, ⟨by omega, by omega⟩, ⟨by omega, by omega⟩, ⟨by omega, by omega⟩, ⟨by omega, by omega⟩, ⟨by omega, by omega⟩, tf_ri (pr_14 hI hm9) fun k G1 h1 => ⟨⟨by omega, by omega⟩, ⟨by omega, by omega⟩, ⟨by omega, by omega⟩, ⟨by omega, by omega⟩, ⟨by omega, by omega⟩, ⟨by omega, by omega⟩, tf_ri h1 fun b G2 h2 => ln_i h2 fun m' D' q1 q2 => next _ m' D' _ _ q1 q2 (by omega) (by omega)⟩⟩
    · exact vl_1105 ⟨⟨by omega, by omega⟩, ⟨by omega, by omega⟩, ⟨by omega, by omega⟩, tf_ri (pr_15 hI hm9) fun k G1 h1 => ⟨⟨by omega, by omega⟩, ⟨by omega, by omega⟩, tf_ri h1 fun b G2 h2 => ln_i h2 fun m' D' q1 q2 => next _ m' D' _ _ q1 q2 (by omega) (by omega)⟩⟩
    · exact vl_1161 ⟨⟨by omega, by omega⟩, ⟨by omega, by omega⟩, ⟨by omega, by omega⟩, tf_ri (pr_16 hI) fun k G1 h1 => ⟨⟨by omega, by omega⟩, ⟨by omega, by omega⟩, tf_rl h1 fun b G2 h2 => ln_i h2 fun m' D' q1 q2 => next _ m' D' _ _ q1 q2 (by omega) (by omega)⟩⟩
    · exact vl_1216 ⟨⟨by omega, by omega⟩, ⟨by omega, by omega⟩, ⟨by omega, by omega⟩, tf_ri (pr_17 hI hm9) fun k G1 h1 => ⟨⟨by omega, by omega⟩, ⟨by omega, by omega⟩, tf_ri h1 fun b G2 h2 => ln_i h2 fun m' D' q1 q2 => next _ m' D' _ _ q1 q2 (by omega) (by omega)⟩⟩
end
