-- FACTS of the words: printed by wip/whole/tool/emit.py
theorem tf_uw0 : ∀ w ∈ u_ws "TermForge" tf_T0 10, w ∈ tf_gt := by
  intro w hw
  obtain ⟨k, hk, rfl⟩ := List.mem_map.mp hw
  have hk := List.mem_range.mp hk
  by_cases h0_10 : k < 5
  · skip
    by_cases h0_5 : k < 2
    · skip
      by_cases h0_2 : k < 1
      · skip
        have e : k = 0 := by omega
        subst e
        exact tf_g 300 (by decide +kernel) (by decide +kernel)
      · skip
        have e : k = 1 := by omega
        subst e
        exact tf_g 302 (by decide +kernel) (by decide +kernel)
    · skip
      by_cases h2_5 : k < 3
      · skip
        have e : k = 2 := by omega
        subst e
        exact tf_g 304 (by decide +kernel) (by decide +kernel)
      · skip
        by_cases h3_5 : k < 4
        · skip
          have e : k = 3 := by omega
          subst e
          exact tf_g 306 (by decide +kernel) (by decide +kernel)
        · skip
          have e : k = 4 := by omega
          subst e
          exact tf_g 308 (by decide +kernel) (by decide +kernel)
  · skip
    by_cases h5_10 : k < 7
    · skip
      by_cases h5_7 : k < 6
      · skip
        have e : k = 5 := by omega
        subst e
        exact tf_g 310 (by decide +kernel) (by decide +kernel)
      · skip
        have e : k = 6 := by omega
        subst e
        exact tf_g 312 (by decide +kernel) (by decide +kernel)
    · skip
      by_cases h7_10 : k < 8
      · skip
        have e : k = 7 := by omega
        subst e
        exact tf_g 314 (by decide +kernel) (by decide +kernel)
      · skip
        by_cases h8_10 : k < 9
        · skip
          have e : k = 8 := by omega
          subst e
          exact tf_g 316 (by decide +kernel) (by decide +kernel)
        · skip
          have e : k = 9 := by omega
          subst e
          exact tf_g 318 (by decide +kernel) (by decide +kernel)
theorem tf_nm0 : ∀ a, a < 10 → ∀ b, b < 10 → a ≠ b → (tf_T0 a).2.1 ≠ (tf_T0 b).2.1 := by decide +kernel
theorem tf_tyok0 : ∀ k, k < 10 → parseFieldDescriptor (tf_T0 k).2.2.1 = some (tf_ty0 k) := by decide +kernel
theorem tf_uw1 : ∀ w ∈ u_ws "TermForge$Terms" tf_T1 3, w ∈ tf_gt := by
  intro w hw
  obtain ⟨k, hk, rfl⟩ := List.mem_map.mp hw
  have hk := List.mem_range.mp hk
  by_cases h0_3 : k < 1
  · skip
    have e : k = 0 := by omega
    subst e
    exact tf_g 45 (by decide +kernel) (by decide +kernel)
  · skip
    by_cases h1_3 : k < 2
    · skip
      have e : k = 1 := by omega
      subst e
      exact tf_g 47 (by decide +kernel) (by decide +kernel)
    · skip
      have e : k = 2 := by omega
      subst e
      exact tf_g 49 (by decide +kernel) (by decide +kernel)
theorem tf_nm1 : ∀ a, a < 3 → ∀ b, b < 3 → a ≠ b → (tf_T1 a).2.1 ≠ (tf_T1 b).2.1 := by decide +kernel
theorem tf_tyok1 : ∀ k, k < 3 → parseFieldDescriptor (tf_T1 k).2.2.1 = some (tf_ty1 k) := by decide +kernel
theorem tf_uw2 : ∀ w ∈ u_ws "TermForge$Classes" tf_T2 9, w ∈ tf_gt := by
  intro w hw
  obtain ⟨k, hk, rfl⟩ := List.mem_map.mp hw
  have hk := List.mem_range.mp hk
  by_cases h0_9 : k < 4
  · skip
    by_cases h0_4 : k < 2
    · skip
      by_cases h0_2 : k < 1
      · skip
        have e : k = 0 := by omega
        subst e
        exact tf_g 69 (by decide +kernel) (by decide +kernel)
      · skip
        have e : k = 1 := by omega
        subst e
        exact tf_g 71 (by decide +kernel) (by decide +kernel)
    · skip
      by_cases h2_4 : k < 3
      · skip
        have e : k = 2 := by omega
        subst e
        exact tf_g 73 (by decide +kernel) (by decide +kernel)
      · skip
        have e : k = 3 := by omega
        subst e
        exact tf_g 75 (by decide +kernel) (by decide +kernel)
  · skip
    by_cases h4_9 : k < 6
    · skip
      by_cases h4_6 : k < 5
      · skip
        have e : k = 4 := by omega
        subst e
        exact tf_g 77 (by decide +kernel) (by decide +kernel)
      · skip
        have e : k = 5 := by omega
        subst e
        exact tf_g 79 (by decide +kernel) (by decide +kernel)
    · skip
      by_cases h6_9 : k < 7
      · skip
        have e : k = 6 := by omega
        subst e
        exact tf_g 81 (by decide +kernel) (by decide +kernel)
      · skip
        by_cases h7_9 : k < 8
        · skip
          have e : k = 7 := by omega
          subst e
          exact tf_g 83 (by decide +kernel) (by decide +kernel)
        · skip
          have e : k = 8 := by omega
          subst e
          exact tf_g 85 (by decide +kernel) (by decide +kernel)
theorem tf_nm2 : ∀ a, a < 9 → ∀ b, b < 9 → a ≠ b → (tf_T2 a).2.1 ≠ (tf_T2 b).2.1 := by decide +kernel
theorem tf_tyok2 : ∀ k, k < 9 → parseFieldDescriptor (tf_T2 k).2.2.1 = some (tf_ty2 k) := by decide +kernel
theorem tf_uw3 : ∀ w ∈ u_ws "TermForge$Levels" tf_T3 4, w ∈ tf_gt := by
  intro w hw
  obtain ⟨k, hk, rfl⟩ := List.mem_map.mp hw
  have hk := List.mem_range.mp hk
  by_cases h0_4 : k < 2
  · skip
    by_cases h0_2 : k < 1
    · skip
      have e : k = 0 := by omega
      subst e
      exact tf_g 99 (by decide +kernel) (by decide +kernel)
    · skip
      have e : k = 1 := by omega
      subst e
      exact tf_g 101 (by decide +kernel) (by decide +kernel)
  · skip
    by_cases h2_4 : k < 3
    · skip
      have e : k = 2 := by omega
      subst e
      exact tf_g 103 (by decide +kernel) (by decide +kernel)
    · skip
      have e : k = 3 := by omega
      subst e
      exact tf_g 105 (by decide +kernel) (by decide +kernel)
theorem tf_nm3 : ∀ a, a < 4 → ∀ b, b < 4 → a ≠ b → (tf_T3 a).2.1 ≠ (tf_T3 b).2.1 := by decide +kernel
theorem tf_tyok3 : ∀ k, k < 4 → parseFieldDescriptor (tf_T3 k).2.2.1 = some (tf_ty3 k) := by decide +kernel
theorem tf_uw4 : ∀ w ∈ u_ws "TermForge$Trees" tf_T4 10, w ∈ tf_gt := by
  intro w hw
  obtain ⟨k, hk, rfl⟩ := List.mem_map.mp hw
  have hk := List.mem_range.mp hk
  by_cases h0_10 : k < 5
  · skip
    by_cases h0_5 : k < 2
    · skip
      by_cases h0_2 : k < 1
      · skip
        have e : k = 0 := by omega
        subst e
        exact tf_g 132 (by decide +kernel) (by decide +kernel)
      · skip
        have e : k = 1 := by omega
        subst e
        exact tf_g 134 (by decide +kernel) (by decide +kernel)
    · skip
      by_cases h2_5 : k < 3
      · skip
        have e : k = 2 := by omega
        subst e
        exact tf_g 136 (by decide +kernel) (by decide +kernel)
      · skip
        by_cases h3_5 : k < 4
        · skip
          have e : k = 3 := by omega
          subst e
          exact tf_g 138 (by decide +kernel) (by decide +kernel)
        · skip
          have e : k = 4 := by omega
          subst e
          exact tf_g 140 (by decide +kernel) (by decide +kernel)
  · skip
    by_cases h5_10 : k < 7
    · skip
      by_cases h5_7 : k < 6
      · skip
        have e : k = 5 := by omega
        subst e
        exact tf_g 142 (by decide +kernel) (by decide +kernel)
      · skip
        have e : k = 6 := by omega
        subst e
        exact tf_g 144 (by decide +kernel) (by decide +kernel)
    · skip
      by_cases h7_10 : k < 8
      · skip
        have e : k = 7 := by omega
        subst e
        exact tf_g 146 (by decide +kernel) (by decide +kernel)
      · skip
        by_cases h8_10 : k < 9
        · skip
          have e : k = 8 := by omega
          subst e
          exact tf_g 148 (by decide +kernel) (by decide +kernel)
        · skip
          have e : k = 9 := by omega
          subst e
          exact tf_g 150 (by decide +kernel) (by decide +kernel)
theorem tf_nm4 : ∀ a, a < 10 → ∀ b, b < 10 → a ≠ b → (tf_T4 a).2.1 ≠ (tf_T4 b).2.1 := by decide +kernel
theorem tf_tyok4 : ∀ k, k < 10 → parseFieldDescriptor (tf_T4 k).2.2.1 = some (tf_ty4 k) := by decide +kernel
theorem tf_uw5 : ∀ w ∈ u_ws "TermForge$Finder" tf_T5 9, w ∈ tf_gt := by
  intro w hw
  obtain ⟨k, hk, rfl⟩ := List.mem_map.mp hw
  have hk := List.mem_range.mp hk
  by_cases h0_9 : k < 4
  · skip
    by_cases h0_4 : k < 2
    · skip
      by_cases h0_2 : k < 1
      · skip
        have e : k = 0 := by omega
        subst e
        exact tf_g 169 (by decide +kernel) (by decide +kernel)
      · skip
        have e : k = 1 := by omega
        subst e
        exact tf_g 171 (by decide +kernel) (by decide +kernel)
    · skip
      by_cases h2_4 : k < 3
      · skip
        have e : k = 2 := by omega
        subst e
        exact tf_g 173 (by decide +kernel) (by decide +kernel)
      · skip
        have e : k = 3 := by omega
        subst e
        exact tf_g 175 (by decide +kernel) (by decide +kernel)
  · skip
    by_cases h4_9 : k < 6
    · skip
      by_cases h4_6 : k < 5
      · skip
        have e : k = 4 := by omega
        subst e
        exact tf_g 177 (by decide +kernel) (by decide +kernel)
      · skip
        have e : k = 5 := by omega
        subst e
        exact tf_g 179 (by decide +kernel) (by decide +kernel)
    · skip
      by_cases h6_9 : k < 7
      · skip
        have e : k = 6 := by omega
        subst e
        exact tf_g 181 (by decide +kernel) (by decide +kernel)
      · skip
        by_cases h7_9 : k < 8
        · skip
          have e : k = 7 := by omega
          subst e
          exact tf_g 183 (by decide +kernel) (by decide +kernel)
        · skip
          have e : k = 8 := by omega
          subst e
          exact tf_g 185 (by decide +kernel) (by decide +kernel)
theorem tf_nm5 : ∀ a, a < 9 → ∀ b, b < 9 → a ≠ b → (tf_T5 a).2.1 ≠ (tf_T5 b).2.1 := by decide +kernel
theorem tf_tyok5 : ∀ k, k < 9 → parseFieldDescriptor (tf_T5 k).2.2.1 = some (tf_ty5 k) := by decide +kernel
theorem tf_uw6 : ∀ w ∈ u_ws "TermForge$Reach" tf_T6 4, w ∈ tf_gt := by
  intro w hw
  obtain ⟨k, hk, rfl⟩ := List.mem_map.mp hw
  have hk := List.mem_range.mp hk
  by_cases h0_4 : k < 2
  · skip
    by_cases h0_2 : k < 1
    · skip
      have e : k = 0 := by omega
      subst e
      exact tf_g 199 (by decide +kernel) (by decide +kernel)
    · skip
      have e : k = 1 := by omega
      subst e
      exact tf_g 201 (by decide +kernel) (by decide +kernel)
  · skip
    by_cases h2_4 : k < 3
    · skip
      have e : k = 2 := by omega
      subst e
      exact tf_g 203 (by decide +kernel) (by decide +kernel)
    · skip
      have e : k = 3 := by omega
      subst e
      exact tf_g 205 (by decide +kernel) (by decide +kernel)
theorem tf_nm6 : ∀ a, a < 4 → ∀ b, b < 4 → a ≠ b → (tf_T6 a).2.1 ≠ (tf_T6 b).2.1 := by decide +kernel
theorem tf_tyok6 : ∀ k, k < 4 → parseFieldDescriptor (tf_T6 k).2.2.1 = some (tf_ty6 k) := by decide +kernel
theorem tf_uw7 : ∀ w ∈ u_ws "TermForge$Matching" tf_T7 4, w ∈ tf_gt := by
  intro w hw
  obtain ⟨k, hk, rfl⟩ := List.mem_map.mp hw
  have hk := List.mem_range.mp hk
  by_cases h0_4 : k < 2
  · skip
    by_cases h0_2 : k < 1
    · skip
      have e : k = 0 := by omega
      subst e
      exact tf_g 219 (by decide +kernel) (by decide +kernel)
    · skip
      have e : k = 1 := by omega
      subst e
      exact tf_g 221 (by decide +kernel) (by decide +kernel)
  · skip
    by_cases h2_4 : k < 3
    · skip
      have e : k = 2 := by omega
      subst e
      exact tf_g 223 (by decide +kernel) (by decide +kernel)
    · skip
      have e : k = 3 := by omega
      subst e
      exact tf_g 225 (by decide +kernel) (by decide +kernel)
theorem tf_nm7 : ∀ a, a < 4 → ∀ b, b < 4 → a ≠ b → (tf_T7 a).2.1 ≠ (tf_T7 b).2.1 := by decide +kernel
theorem tf_tyok7 : ∀ k, k < 4 → parseFieldDescriptor (tf_T7 k).2.2.1 = some (tf_ty7 k) := by decide +kernel
theorem tf_uw8 : ∀ w ∈ u_ws "TermForge$Pairs" tf_T8 8, w ∈ tf_gt := by
  intro w hw
  obtain ⟨k, hk, rfl⟩ := List.mem_map.mp hw
  have hk := List.mem_range.mp hk
  by_cases h0_8 : k < 4
  · skip
    by_cases h0_4 : k < 2
    · skip
      by_cases h0_2 : k < 1
      · skip
        have e : k = 0 := by omega
        subst e
        exact tf_g 244 (by decide +kernel) (by decide +kernel)
      · skip
        have e : k = 1 := by omega
        subst e
        exact tf_g 246 (by decide +kernel) (by decide +kernel)
    · skip
      by_cases h2_4 : k < 3
      · skip
        have e : k = 2 := by omega
        subst e
        exact tf_g 248 (by decide +kernel) (by decide +kernel)
      · skip
        have e : k = 3 := by omega
        subst e
        exact tf_g 250 (by decide +kernel) (by decide +kernel)
  · skip
    by_cases h4_8 : k < 6
    · skip
      by_cases h4_6 : k < 5
      · skip
        have e : k = 4 := by omega
        subst e
        exact tf_g 252 (by decide +kernel) (by decide +kernel)
      · skip
        have e : k = 5 := by omega
        subst e
        exact tf_g 254 (by decide +kernel) (by decide +kernel)
    · skip
      by_cases h6_8 : k < 7
      · skip
        have e : k = 6 := by omega
        subst e
        exact tf_g 256 (by decide +kernel) (by decide +kernel)
      · skip
        have e : k = 7 := by omega
        subst e
        exact tf_g 258 (by decide +kernel) (by decide +kernel)
theorem tf_nm8 : ∀ a, a < 8 → ∀ b, b < 8 → a ≠ b → (tf_T8 a).2.1 ≠ (tf_T8 b).2.1 := by decide +kernel
theorem tf_tyok8 : ∀ k, k < 8 → parseFieldDescriptor (tf_T8 k).2.2.1 = some (tf_ty8 k) := by decide +kernel
theorem tf_uw9 : ∀ w ∈ u_ws "TermForge$Writing" tf_T9 7, w ∈ tf_gt := by
  intro w hw
  obtain ⟨k, hk, rfl⟩ := List.mem_map.mp hw
  have hk := List.mem_range.mp hk
  by_cases h0_7 : k < 3
  · skip
    by_cases h0_3 : k < 1
    · skip
      have e : k = 0 := by omega
      subst e
      exact tf_g 275 (by decide +kernel) (by decide +kernel)
    · skip
      by_cases h1_3 : k < 2
      · skip
        have e : k = 1 := by omega
        subst e
        exact tf_g 277 (by decide +kernel) (by decide +kernel)
      · skip
        have e : k = 2 := by omega
        subst e
        exact tf_g 279 (by decide +kernel) (by decide +kernel)
  · skip
    by_cases h3_7 : k < 5
    · skip
      by_cases h3_5 : k < 4
      · skip
        have e : k = 3 := by omega
        subst e
        exact tf_g 281 (by decide +kernel) (by decide +kernel)
      · skip
        have e : k = 4 := by omega
        subst e
        exact tf_g 283 (by decide +kernel) (by decide +kernel)
    · skip
      by_cases h5_7 : k < 6
      · skip
        have e : k = 5 := by omega
        subst e
        exact tf_g 285 (by decide +kernel) (by decide +kernel)
      · skip
        have e : k = 6 := by omega
        subst e
        exact tf_g 287 (by decide +kernel) (by decide +kernel)
theorem tf_nm9 : ∀ a, a < 7 → ∀ b, b < 7 → a ≠ b → (tf_T9 a).2.1 ≠ (tf_T9 b).2.1 := by decide +kernel
theorem tf_tyok9 : ∀ k, k < 7 → parseFieldDescriptor (tf_T9 k).2.2.1 = some (tf_ty9 k) := by decide +kernel
theorem tf_uw10 : ∀ w ∈ u_ws "TermForgeModel" tf_T10 33, w ∈ tf_gt := by
  intro w hw
  obtain ⟨k, hk, rfl⟩ := List.mem_map.mp hw
  have hk := List.mem_range.mp hk
  by_cases h0_33 : k < 16
  · skip
    by_cases h0_16 : k < 8
    · skip
      by_cases h0_8 : k < 4
      · skip
        by_cases h0_4 : k < 2
        · skip
          by_cases h0_2 : k < 1
          · skip
            have e : k = 0 := by omega
            subst e
            exact tf_g 880 (by decide +kernel) (by decide +kernel)
          · skip
            have e : k = 1 := by omega
            subst e
            exact tf_g 882 (by decide +kernel) (by decide +kernel)
        · skip
          by_cases h2_4 : k < 3
          · skip
            have e : k = 2 := by omega
            subst e
            exact tf_g 884 (by decide +kernel) (by decide +kernel)
          · skip
            have e : k = 3 := by omega
            subst e
            exact tf_g 886 (by decide +kernel) (by decide +kernel)
      · skip
        by_cases h4_8 : k < 6
        · skip
          by_cases h4_6 : k < 5
          · skip
            have e : k = 4 := by omega
            subst e
            exact tf_g 888 (by decide +kernel) (by decide +kernel)
          · skip
            have e : k = 5 := by omega
            subst e
            exact tf_g 890 (by decide +kernel) (by decide +kernel)
        · skip
          by_cases h6_8 : k < 7
          · skip
            have e : k = 6 := by omega
            subst e
            exact tf_g 892 (by decide +kernel) (by decide +kernel)
          · skip
            have e : k = 7 := by omega
            subst e
            exact tf_g 894 (by decide +kernel) (by decide +kernel)
    · skip
      by_cases h8_16 : k < 12
      · skip
        by_cases h8_12 : k < 10
        · skip
          by_cases h8_10 : k < 9
          · skip
            have e : k = 8 := by omega
            subst e
            exact tf_g 896 (by decide +kernel) (by decide +kernel)
          · skip
            have e : k = 9 := by omega
            subst e
            exact tf_g 898 (by decide +kernel) (by decide +kernel)
        · skip
          by_cases h10_12 : k < 11
          · skip
            have e : k = 10 := by omega
            subst e
            exact tf_g 900 (by decide +kernel) (by decide +kernel)
          · skip
            have e : k = 11 := by omega
            subst e
            exact tf_g 902 (by decide +kernel) (by decide +kernel)
      · skip
        by_cases h12_16 : k < 14
        · skip
          by_cases h12_14 : k < 13
          · skip
            have e : k = 12 := by omega
            subst e
            exact tf_g 904 (by decide +kernel) (by decide +kernel)
          · skip
            have e : k = 13 := by omega
            subst e
            exact tf_g 906 (by decide +kernel) (by decide +kernel)
        · skip
          by_cases h14_16 : k < 15
          · skip
            have e : k = 14 := by omega
            subst e
            exact tf_g 908 (by decide +kernel) (by decide +kernel)
          · skip
            have e : k = 15 := by omega
            subst e
            exact tf_g 910 (by decide +kernel) (by decide +kernel)
  · skip
    by_cases h16_33 : k < 24
    · skip
      by_cases h16_24 : k < 20
      · skip
        by_cases h16_20 : k < 18
        · skip
          by_cases h16_18 : k < 17
          · skip
            have e : k = 16 := by omega
            subst e
            exact tf_g 912 (by decide +kernel) (by decide +kernel)
          · skip
            have e : k = 17 := by omega
            subst e
            exact tf_g 914 (by decide +kernel) (by decide +kernel)
        · skip
          by_cases h18_20 : k < 19
          · skip
            have e : k = 18 := by omega
            subst e
            exact tf_g 916 (by decide +kernel) (by decide +kernel)
          · skip
            have e : k = 19 := by omega
            subst e
            exact tf_g 918 (by decide +kernel) (by decide +kernel)
      · skip
        by_cases h20_24 : k < 22
        · skip
          by_cases h20_22 : k < 21
          · skip
            have e : k = 20 := by omega
            subst e
            exact tf_g 920 (by decide +kernel) (by decide +kernel)
          · skip
            have e : k = 21 := by omega
            subst e
            exact tf_g 922 (by decide +kernel) (by decide +kernel)
        · skip
          by_cases h22_24 : k < 23
          · skip
            have e : k = 22 := by omega
            subst e
            exact tf_g 924 (by decide +kernel) (by decide +kernel)
          · skip
            have e : k = 23 := by omega
            subst e
            exact tf_g 926 (by decide +kernel) (by decide +kernel)
    · skip
      by_cases h24_33 : k < 28
      · skip
        by_cases h24_28 : k < 26
        · skip
          by_cases h24_26 : k < 25
          · skip
            have e : k = 24 := by omega
            subst e
            exact tf_g 928 (by decide +kernel) (by decide +kernel)
          · skip
            have e : k = 25 := by omega
            subst e
            exact tf_g 930 (by decide +kernel) (by decide +kernel)
        · skip
          by_cases h26_28 : k < 27
          · skip
            have e : k = 26 := by omega
            subst e
            exact tf_g 932 (by decide +kernel) (by decide +kernel)
          · skip
            have e : k = 27 := by omega
            subst e
            exact tf_g 934 (by decide +kernel) (by decide +kernel)
      · skip
        by_cases h28_33 : k < 30
        · skip
          by_cases h28_30 : k < 29
          · skip
            have e : k = 28 := by omega
            subst e
            exact tf_g 936 (by decide +kernel) (by decide +kernel)
          · skip
            have e : k = 29 := by omega
            subst e
            exact tf_g 938 (by decide +kernel) (by decide +kernel)
        · skip
          by_cases h30_33 : k < 31
          · skip
            have e : k = 30 := by omega
            subst e
            exact tf_g 940 (by decide +kernel) (by decide +kernel)
          · skip
            by_cases h31_33 : k < 32
            · skip
              have e : k = 31 := by omega
              subst e
              exact tf_g 942 (by decide +kernel) (by decide +kernel)
            · skip
              have e : k = 32 := by omega
              subst e
              exact tf_g 944 (by decide +kernel) (by decide +kernel)
theorem tf_nm10 : ∀ a, a < 33 → ∀ b, b < 33 → a ≠ b → (tf_T10 a).2.1 ≠ (tf_T10 b).2.1 := by decide +kernel
theorem tf_tyok10 : ∀ k, k < 33 → parseFieldDescriptor (tf_T10 k).2.2.1 = some (tf_ty10 k) := by decide +kernel
def tf_fldL : List (Nat × Nat × Nat × Nat × Nat) := [(0, 10, 0, 0, 290), (0, 21, 0, 1, 291), (0, 114, 2, 0, 60), (0, 78, 0, 9, 299), (0, 44, 0, 4, 294), (0, 28, 0, 2, 292), (0, 127, 3, 0, 95), (0, 135, 1, 0, 38), (0, 35, 0, 3, 293), (0, 162, 4, 4, 125), (0, 168, 4, 5, 127), (0, 53, 0, 5, 295), (0, 178, 6, 0, 195), (0, 60, 0, 6, 296), (0, 67, 0, 7, 297), (0, 186, 8, 0, 235), (0, 187, 8, 1, 237), (0, 74, 0, 8, 298), (0, 192, 9, 0, 268), (1, 9, 1, 0, 36), (1, 15, 1, 1, 39), (1, 19, 1, 2, 42), (2, 15, 2, 2, 62), (2, 19, 2, 3, 63), (2, 22, 2, 4, 64), (2, 37, 2, 1, 61), (2, 41, 1, 1, 40), (2, 34, 2, 8, 68), (2, 28, 2, 6, 66), (2, 31, 2, 7, 67), (2, 9, 2, 0, 59), (2, 25, 2, 5, 65), (2, 67, 1, 2, 43), (3, 15, 3, 1, 96), (3, 9, 3, 0, 94), (3, 19, 3, 2, 97), (3, 22, 3, 3, 98), (4, 9, 4, 0, 114), (4, 15, 4, 1, 116), (4, 35, 4, 7, 129), (4, 32, 4, 6, 128), (4, 18, 4, 2, 117), (4, 22, 4, 3, 122), (4, 25, 4, 4, 124), (4, 29, 4, 5, 126), (4, 38, 4, 8, 130), (4, 41, 4, 9, 131), (5, 28, 5, 8, 168), (5, 15, 5, 4, 164), (5, 9, 5, 3, 163), (5, 40, 5, 2, 162), (5, 47, 4, 0, 115), (5, 24, 5, 7, 167), (5, 32, 5, 0, 160), (5, 70, 1, 0, 37), (5, 36, 5, 1, 161), (5, 18, 5, 5, 165), (5, 21, 5, 6, 166), (5, 113, 1, 1, 41), (5, 127, 1, 2, 44), (6, 19, 6, 3, 198), (6, 9, 6, 0, 194), (6, 15, 6, 2, 197), (6, 23, 6, 1, 196), (6, 37, 4, 2, 118), (7, 9, 7, 1, 216), (7, 18, 7, 3, 218), (7, 15, 7, 2, 217), (7, 22, 7, 0, 215), (7, 40, 4, 2, 119), (8, 18, 8, 3, 239), (8, 11, 8, 0, 234), (8, 15, 8, 1, 236), (8, 33, 8, 7, 243), (8, 25, 8, 5, 241), (8, 29, 8, 6, 242), (8, 36, 8, 2, 238), (8, 67, 4, 2, 120), (8, 22, 8, 4, 240), (9, 22, 9, 4, 272), (9, 29, 9, 6, 274), (9, 25, 9, 5, 273), (9, 19, 9, 3, 271), (9, 15, 9, 2, 270), (9, 9, 9, 0, 267), (9, 32, 9, 1, 269), (9, 58, 4, 2, 121), (9, 63, 4, 3, 123), (10, 85, 10, 0, 847), (10, 89, 10, 1, 848), (10, 7, 10, 2, 849), (10, 13, 10, 3, 850), (10, 16, 10, 4, 851), (10, 37, 10, 13, 860), (10, 100, 10, 14, 861), (10, 31, 10, 11, 858), (10, 34, 10, 12, 859), (10, 111, 10, 5, 852), (10, 19, 10, 6, 853), (10, 22, 10, 7, 854), (10, 123, 10, 8, 855), (10, 25, 10, 9, 856), (10, 28, 10, 10, 857), (10, 40, 10, 15, 862), (10, 137, 10, 18, 865), (10, 46, 10, 17, 864), (10, 43, 10, 16, 863), (10, 49, 10, 19, 866), (10, 53, 10, 20, 867), (10, 56, 10, 21, 868), (10, 60, 10, 22, 869), (10, 66, 10, 24, 871), (10, 63, 10, 23, 870), (10, 179, 10, 26, 873), (10, 70, 10, 25, 872), (10, 197, 10, 30, 877), (10, 76, 10, 29, 876), (10, 79, 10, 31, 878), (10, 82, 10, 32, 879), (10, 73, 10, 27, 874), (10, 215, 10, 28, 875)]
def tf_Tn (ci : Nat) : u_T := match ci with
  | 0 => tf_T0
  | 1 => tf_T1
  | 2 => tf_T2
  | 3 => tf_T3
  | 4 => tf_T4
  | 5 => tf_T5
  | 6 => tf_T6
  | 7 => tf_T7
  | 8 => tf_T8
  | 9 => tf_T9
  | _ => tf_T10
def tf_Nn (ci : Nat) : Nat := match ci with
  | 0 => 10
  | 1 => 3
  | 2 => 9
  | 3 => 4
  | 4 => 10
  | 5 => 9
  | 6 => 4
  | 7 => 4
  | 8 => 8
  | 9 => 7
  | _ => 33
def tf_fck (e : Nat × Nat × Nat × Nat × Nat) : Bool := decide (tables_1[e.2.2.2.2]? = some (Cond.fieldLink (tf_cn e.1) e.2.1 (tf_cn e.2.2.1) (tf_Tn e.2.2.1 e.2.2.2.1).2.1 (tf_Tn e.2.2.1 e.2.2.2.1).2.2.1)) && decide (e.2.2.2.1 < tf_Nn e.2.2.1) && decide (e.2.2.1 < 11) && decide ((tf_Tn e.2.2.1 e.2.2.2.1).1 = tf_cn e.2.2.1)
theorem tf_fckL : tf_fldL.all tf_fck = true := by decide +kernel
theorem tf_fldM {oc ix ci j : Nat} (h : tf_fld oc ix = some (ci, j)) : ∃ k, (oc, ix, ci, j, k) ∈ tf_fldL := by
  have hoc : oc < 14 := by
    apply Classical.byContradiction
    intro hn
    have : Nat.blt oc 14 = false := by
      cases hb : Nat.blt oc 14 with
      | false => rfl
      | true => exact absurd (Nat.le_of_ble_eq_true hb) hn
    unfold tf_fld at h
    rw [this] at h
    cases h
  match oc, hoc with
  | 0, _ =>
    have h : (bif Nat.beq ix 10 then (some (0, 0)) else (bif Nat.beq ix 21 then (some (0, 1)) else (bif Nat.beq ix 114 then (some (2, 0)) else (bif Nat.beq ix 78 then (some (0, 9)) else (bif Nat.beq ix 44 then (some (0, 4)) else (bif Nat.beq ix 28 then (some (0, 2)) else (bif Nat.beq ix 127 then (some (3, 0)) else (bif Nat.beq ix 135 then (some (1, 0)) else (bif Nat.beq ix 35 then (some (0, 3)) else (bif Nat.beq ix 162 then (some (4, 4)) else (bif Nat.beq ix 168 then (some (4, 5)) else (bif Nat.beq ix 53 then (some (0, 5)) else (bif Nat.beq ix 178 then (some (6, 0)) else (bif Nat.beq ix 60 then (some (0, 6)) else (bif Nat.beq ix 67 then (some (0, 7)) else (bif Nat.beq ix 186 then (some (8, 0)) else (bif Nat.beq ix 187 then (some (8, 1)) else (bif Nat.beq ix 74 then (some (0, 8)) else (bif Nat.beq ix 192 then (some (9, 0)) else (none)))))))))))))))))))) = some (ci, j) := h
    by_cases e0 : ix = 10
    · subst e0; cases h; exact ⟨_, List.mem_of_getElem? (i := 0) rfl⟩
    rw [show Nat.beq ix 10 = false from (by cases hb : Nat.beq ix 10 with | false => rfl | true => exact absurd (Nat.eq_of_beq_eq_true hb) e0)] at h
    by_cases e1 : ix = 21
    · subst e1; cases h; exact ⟨_, List.mem_of_getElem? (i := 1) rfl⟩
    rw [show Nat.beq ix 21 = false from (by cases hb : Nat.beq ix 21 with | false => rfl | true => exact absurd (Nat.eq_of_beq_eq_true hb) e1)] at h
    by_cases e2 : ix = 114
    · subst e2; cases h; exact ⟨_, List.mem_of_getElem? (i := 2) rfl⟩
    rw [show Nat.beq ix 114 = false from (by cases hb : Nat.beq ix 114 with | false => rfl | true => exact absurd (Nat.eq_of_beq_eq_true hb) e2)] at h
    by_cases e3 : ix = 78
    · subst e3; cases h; exact ⟨_, List.mem_of_getElem? (i := 3) rfl⟩
    rw [show Nat.beq ix 78 = false from (by cases hb : Nat.beq ix 78 with | false => rfl | true => exact absurd (Nat.eq_of_beq_eq_true hb) e3)] at h
    by_cases e4 : ix = 44
    · subst e4; cases h; exact ⟨_, List.mem_of_getElem? (i := 4) rfl⟩
    rw [show Nat.beq ix 44 = false from (by cases hb : Nat.beq ix 44 with | false => rfl | true => exact absurd (Nat.eq_of_beq_eq_true hb) e4)] at h
    by_cases e5 : ix = 28
    · subst e5; cases h; exact ⟨_, List.mem_of_getElem? (i := 5) rfl⟩
    rw [show Nat.beq ix 28 = false from (by cases hb : Nat.beq ix 28 with | false => rfl | true => exact absurd (Nat.eq_of_beq_eq_true hb) e5)] at h
    by_cases e6 : ix = 127
    · subst e6; cases h; exact ⟨_, List.mem_of_getElem? (i := 6) rfl⟩
    rw [show Nat.beq ix 127 = false from (by cases hb : Nat.beq ix 127 with | false => rfl | true => exact absurd (Nat.eq_of_beq_eq_true hb) e6)] at h
    by_cases e7 : ix = 135
    · subst e7; cases h; exact ⟨_, List.mem_of_getElem? (i := 7) rfl⟩
    rw [show Nat.beq ix 135 = false from (by cases hb : Nat.beq ix 135 with | false => rfl | true => exact absurd (Nat.eq_of_beq_eq_true hb) e7)] at h
    by_cases e8 : ix = 35
    · subst e8; cases h; exact ⟨_, List.mem_of_getElem? (i := 8) rfl⟩
    rw [show Nat.beq ix 35 = false from (by cases hb : Nat.beq ix 35 with | false => rfl | true => exact absurd (Nat.eq_of_beq_eq_true hb) e8)] at h
    by_cases e9 : ix = 162
    · subst e9; cases h; exact ⟨_, List.mem_of_getElem? (i := 9) rfl⟩
    rw [show Nat.beq ix 162 = false from (by cases hb : Nat.beq ix 162 with | false => rfl | true => exact absurd (Nat.eq_of_beq_eq_true hb) e9)] at h
    by_cases e10 : ix = 168
    · subst e10; cases h; exact ⟨_, List.mem_of_getElem? (i := 10) rfl⟩
    rw [show Nat.beq ix 168 = false from (by cases hb : Nat.beq ix 168 with | false => rfl | true => exact absurd (Nat.eq_of_beq_eq_true hb) e10)] at h
    by_cases e11 : ix = 53
    · subst e11; cases h; exact ⟨_, List.mem_of_getElem? (i := 11) rfl⟩
    rw [show Nat.beq ix 53 = false from (by cases hb : Nat.beq ix 53 with | false => rfl | true => exact absurd (Nat.eq_of_beq_eq_true hb) e11)] at h
    by_cases e12 : ix = 178
    · subst e12; cases h; exact ⟨_, List.mem_of_getElem? (i := 12) rfl⟩
    rw [show Nat.beq ix 178 = false from (by cases hb : Nat.beq ix 178 with | false => rfl | true => exact absurd (Nat.eq_of_beq_eq_true hb) e12)] at h
    by_cases e13 : ix = 60
    · subst e13; cases h; exact ⟨_, List.mem_of_getElem? (i := 13) rfl⟩
    rw [show Nat.beq ix 60 = false from (by cases hb : Nat.beq ix 60 with | false => rfl | true => exact absurd (Nat.eq_of_beq_eq_true hb) e13)] at h
    by_cases e14 : ix = 67
    · subst e14; cases h; exact ⟨_, List.mem_of_getElem? (i := 14) rfl⟩
    rw [show Nat.beq ix 67 = false from (by cases hb : Nat.beq ix 67 with | false => rfl | true => exact absurd (Nat.eq_of_beq_eq_true hb) e14)] at h
    by_cases e15 : ix = 186
    · subst e15; cases h; exact ⟨_, List.mem_of_getElem? (i := 15) rfl⟩
    rw [show Nat.beq ix 186 = false from (by cases hb : Nat.beq ix 186 with | false => rfl | true => exact absurd (Nat.eq_of_beq_eq_true hb) e15)] at h
    by_cases e16 : ix = 187
    · subst e16; cases h; exact ⟨_, List.mem_of_getElem? (i := 16) rfl⟩
    rw [show Nat.beq ix 187 = false from (by cases hb : Nat.beq ix 187 with | false => rfl | true => exact absurd (Nat.eq_of_beq_eq_true hb) e16)] at h
    by_cases e17 : ix = 74
    · subst e17; cases h; exact ⟨_, List.mem_of_getElem? (i := 17) rfl⟩
    rw [show Nat.beq ix 74 = false from (by cases hb : Nat.beq ix 74 with | false => rfl | true => exact absurd (Nat.eq_of_beq_eq_true hb) e17)] at h
    by_cases e18 : ix = 192
    · subst e18; cases h; exact ⟨_, List.mem_of_getElem? (i := 18) rfl⟩
    rw [show Nat.beq ix 192 = false from (by cases hb : Nat.beq ix 192 with | false => rfl | true => exact absurd (Nat.eq_of_beq_eq_true hb) e18)] at h
    cases h
  | 1, _ =>
    have h : (bif Nat.beq ix 9 then (some (1, 0)) else (bif Nat.beq ix 15 then (some (1, 1)) else (bif Nat.beq ix 19 then (some (1, 2)) else (none)))) = some (ci, j) := h
    by_cases e0 : ix = 9
    · subst e0; cases h; exact ⟨_, List.mem_of_getElem? (i := 19) rfl⟩
    rw [show Nat.beq ix 9 = false from (by cases hb : Nat.beq ix 9 with | false => rfl | true => exact absurd (Nat.eq_of_beq_eq_true hb) e0)] at h
    by_cases e1 : ix = 15
    · subst e1; cases h; exact ⟨_, List.mem_of_getElem? (i := 20) rfl⟩
    rw [show Nat.beq ix 15 = false from (by cases hb : Nat.beq ix 15 with | false => rfl | true => exact absurd (Nat.eq_of_beq_eq_true hb) e1)] at h
    by_cases e2 : ix = 19
    · subst e2; cases h; exact ⟨_, List.mem_of_getElem? (i := 21) rfl⟩
    rw [show Nat.beq ix 19 = false from (by cases hb : Nat.beq ix 19 with | false => rfl | true => exact absurd (Nat.eq_of_beq_eq_true hb) e2)] at h
    cases h
  | 2, _ =>
    have h : (bif Nat.beq ix 15 then (some (2, 2)) else (bif Nat.beq ix 19 then (some (2, 3)) else (bif Nat.beq ix 22 then (some (2, 4)) else (bif Nat.beq ix 37 then (some (2, 1)) else (bif Nat.beq ix 41 then (some (1, 1)) else (bif Nat.beq ix 34 then (some (2, 8)) else (bif Nat.beq ix 28 then (some (2, 6)) else (bif Nat.beq ix 31 then (some (2, 7)) else (bif Nat.beq ix 9 then (some (2, 0)) else (bif Nat.beq ix 25 then (some (2, 5)) else (bif Nat.beq ix 67 then (some (1, 2)) else (none)))))))))))) = some (ci, j) := h
    by_cases e0 : ix = 15
    · subst e0; cases h; exact ⟨_, List.mem_of_getElem? (i := 22) rfl⟩
    rw [show Nat.beq ix 15 = false from (by cases hb : Nat.beq ix 15 with | false => rfl | true => exact absurd (Nat.eq_of_beq_eq_true hb) e0)] at h
    by_cases e1 : ix = 19
    · subst e1; cases h; exact ⟨_, List.mem_of_getElem? (i := 23) rfl⟩
    rw [show Nat.beq ix 19 = false from (by cases hb : Nat.beq ix 19 with | false => rfl | true => exact absurd (Nat.eq_of_beq_eq_true hb) e1)] at h
    by_cases e2 : ix = 22
    · subst e2; cases h; exact ⟨_, List.mem_of_getElem? (i := 24) rfl⟩
    rw [show Nat.beq ix 22 = false from (by cases hb : Nat.beq ix 22 with | false => rfl | true => exact absurd (Nat.eq_of_beq_eq_true hb) e2)] at h
    by_cases e3 : ix = 37
    · subst e3; cases h; exact ⟨_, List.mem_of_getElem? (i := 25) rfl⟩
    rw [show Nat.beq ix 37 = false from (by cases hb : Nat.beq ix 37 with | false => rfl | true => exact absurd (Nat.eq_of_beq_eq_true hb) e3)] at h
    by_cases e4 : ix = 41
    · subst e4; cases h; exact ⟨_, List.mem_of_getElem? (i := 26) rfl⟩
    rw [show Nat.beq ix 41 = false from (by cases hb : Nat.beq ix 41 with | false => rfl | true => exact absurd (Nat.eq_of_beq_eq_true hb) e4)] at h
    by_cases e5 : ix = 34
    · subst e5; cases h; exact ⟨_, List.mem_of_getElem? (i := 27) rfl⟩
    rw [show Nat.beq ix 34 = false from (by cases hb : Nat.beq ix 34 with | false => rfl | true => exact absurd (Nat.eq_of_beq_eq_true hb) e5)] at h
    by_cases e6 : ix = 28
    · subst e6; cases h; exact ⟨_, List.mem_of_getElem? (i := 28) rfl⟩
    rw [show Nat.beq ix 28 = false from (by cases hb : Nat.beq ix 28 with | false => rfl | true => exact absurd (Nat.eq_of_beq_eq_true hb) e6)] at h
    by_cases e7 : ix = 31
    · subst e7; cases h; exact ⟨_, List.mem_of_getElem? (i := 29) rfl⟩
    rw [show Nat.beq ix 31 = false from (by cases hb : Nat.beq ix 31 with | false => rfl | true => exact absurd (Nat.eq_of_beq_eq_true hb) e7)] at h
    by_cases e8 : ix = 9
    · subst e8; cases h; exact ⟨_, List.mem_of_getElem? (i := 30) rfl⟩
    rw [show Nat.beq ix 9 = false from (by cases hb : Nat.beq ix 9 with | false => rfl | true => exact absurd (Nat.eq_of_beq_eq_true hb) e8)] at h
    by_cases e9 : ix = 25
    · subst e9; cases h; exact ⟨_, List.mem_of_getElem? (i := 31) rfl⟩
    rw [show Nat.beq ix 25 = false from (by cases hb : Nat.beq ix 25 with | false => rfl | true => exact absurd (Nat.eq_of_beq_eq_true hb) e9)] at h
    by_cases e10 : ix = 67
    · subst e10; cases h; exact ⟨_, List.mem_of_getElem? (i := 32) rfl⟩
    rw [show Nat.beq ix 67 = false from (by cases hb : Nat.beq ix 67 with | false => rfl | true => exact absurd (Nat.eq_of_beq_eq_true hb) e10)] at h
    cases h
  | 3, _ =>
    have h : (bif Nat.beq ix 15 then (some (3, 1)) else (bif Nat.beq ix 9 then (some (3, 0)) else (bif Nat.beq ix 19 then (some (3, 2)) else (bif Nat.beq ix 22 then (some (3, 3)) else (none))))) = some (ci, j) := h
    by_cases e0 : ix = 15
    · subst e0; cases h; exact ⟨_, List.mem_of_getElem? (i := 33) rfl⟩
    rw [show Nat.beq ix 15 = false from (by cases hb : Nat.beq ix 15 with | false => rfl | true => exact absurd (Nat.eq_of_beq_eq_true hb) e0)] at h
    by_cases e1 : ix = 9
    · subst e1; cases h; exact ⟨_, List.mem_of_getElem? (i := 34) rfl⟩
    rw [show Nat.beq ix 9 = false from (by cases hb : Nat.beq ix 9 with | false => rfl | true => exact absurd (Nat.eq_of_beq_eq_true hb) e1)] at h
    by_cases e2 : ix = 19
    · subst e2; cases h; exact ⟨_, List.mem_of_getElem? (i := 35) rfl⟩
    rw [show Nat.beq ix 19 = false from (by cases hb : Nat.beq ix 19 with | false => rfl | true => exact absurd (Nat.eq_of_beq_eq_true hb) e2)] at h
    by_cases e3 : ix = 22
    · subst e3; cases h; exact ⟨_, List.mem_of_getElem? (i := 36) rfl⟩
    rw [show Nat.beq ix 22 = false from (by cases hb : Nat.beq ix 22 with | false => rfl | true => exact absurd (Nat.eq_of_beq_eq_true hb) e3)] at h
    cases h
  | 4, _ =>
    have h : (bif Nat.beq ix 9 then (some (4, 0)) else (bif Nat.beq ix 15 then (some (4, 1)) else (bif Nat.beq ix 35 then (some (4, 7)) else (bif Nat.beq ix 32 then (some (4, 6)) else (bif Nat.beq ix 18 then (some (4, 2)) else (bif Nat.beq ix 22 then (some (4, 3)) else (bif Nat.beq ix 25 then (some (4, 4)) else (bif Nat.beq ix 29 then (some (4, 5)) else (bif Nat.beq ix 38 then (some (4, 8)) else (bif Nat.beq ix 41 then (some (4, 9)) else (none))))))))))) = some (ci, j) := h
    by_cases e0 : ix = 9
    · subst e0; cases h; exact ⟨_, List.mem_of_getElem? (i := 37) rfl⟩
    rw [show Nat.beq ix 9 = false from (by cases hb : Nat.beq ix 9 with | false => rfl | true => exact absurd (Nat.eq_of_beq_eq_true hb) e0)] at h
    by_cases e1 : ix = 15
    · subst e1; cases h; exact ⟨_, List.mem_of_getElem? (i := 38) rfl⟩
    rw [show Nat.beq ix 15 = false from (by cases hb : Nat.beq ix 15 with | false => rfl | true => exact absurd (Nat.eq_of_beq_eq_true hb) e1)] at h
    by_cases e2 : ix = 35
    · subst e2; cases h; exact ⟨_, List.mem_of_getElem? (i := 39) rfl⟩
    rw [show Nat.beq ix 35 = false from (by cases hb : Nat.beq ix 35 with | false => rfl | true => exact absurd (Nat.eq_of_beq_eq_true hb) e2)] at h
    by_cases e3 : ix = 32
    · subst e3; cases h; exact ⟨_, List.mem_of_getElem? (i := 40) rfl⟩
    rw [show Nat.beq ix 32 = false from (by cases hb : Nat.beq ix 32 with | false => rfl | true => exact absurd (Nat.eq_of_beq_eq_true hb) e3)] at h
    by_cases e4 : ix = 18
    · subst e4; cases h; exact ⟨_, List.mem_of_getElem? (i := 41) rfl⟩
    rw [show Nat.beq ix 18 = false from (by cases hb : Nat.beq ix 18 with | false => rfl | true => exact absurd (Nat.eq_of_beq_eq_true hb) e4)] at h
    by_cases e5 : ix = 22
    · subst e5; cases h; exact ⟨_, List.mem_of_getElem? (i := 42) rfl⟩
    rw [show Nat.beq ix 22 = false from (by cases hb : Nat.beq ix 22 with | false => rfl | true => exact absurd (Nat.eq_of_beq_eq_true hb) e5)] at h
    by_cases e6 : ix = 25
    · subst e6; cases h; exact ⟨_, List.mem_of_getElem? (i := 43) rfl⟩
    rw [show Nat.beq ix 25 = false from (by cases hb : Nat.beq ix 25 with | false => rfl | true => exact absurd (Nat.eq_of_beq_eq_true hb) e6)] at h
    by_cases e7 : ix = 29
    · subst e7; cases h; exact ⟨_, List.mem_of_getElem? (i := 44) rfl⟩
    rw [show Nat.beq ix 29 = false from (by cases hb : Nat.beq ix 29 with | false => rfl | true => exact absurd (Nat.eq_of_beq_eq_true hb) e7)] at h
    by_cases e8 : ix = 38
    · subst e8; cases h; exact ⟨_, List.mem_of_getElem? (i := 45) rfl⟩
    rw [show Nat.beq ix 38 = false from (by cases hb : Nat.beq ix 38 with | false => rfl | true => exact absurd (Nat.eq_of_beq_eq_true hb) e8)] at h
    by_cases e9 : ix = 41
    · subst e9; cases h; exact ⟨_, List.mem_of_getElem? (i := 46) rfl⟩
    rw [show Nat.beq ix 41 = false from (by cases hb : Nat.beq ix 41 with | false => rfl | true => exact absurd (Nat.eq_of_beq_eq_true hb) e9)] at h
    cases h
  | 5, _ =>
    have h : (bif Nat.beq ix 28 then (some (5, 8)) else (bif Nat.beq ix 15 then (some (5, 4)) else (bif Nat.beq ix 9 then (some (5, 3)) else (bif Nat.beq ix 40 then (some (5, 2)) else (bif Nat.beq ix 47 then (some (4, 0)) else (bif Nat.beq ix 24 then (some (5, 7)) else (bif Nat.beq ix 32 then (some (5, 0)) else (bif Nat.beq ix 70 then (some (1, 0)) else (bif Nat.beq ix 36 then (some (5, 1)) else (bif Nat.beq ix 18 then (some (5, 5)) else (bif Nat.beq ix 21 then (some (5, 6)) else (bif Nat.beq ix 113 then (some (1, 1)) else (bif Nat.beq ix 127 then (some (1, 2)) else (none)))))))))))))) = some (ci, j) := h
    by_cases e0 : ix = 28
    · subst e0; cases h; exact ⟨_, List.mem_of_getElem? (i := 47) rfl⟩
    rw [show Nat.beq ix 28 = false from (by cases hb : Nat.beq ix 28 with | false => rfl | true => exact absurd (Nat.eq_of_beq_eq_true hb) e0)] at h
    by_cases e1 : ix = 15
    · subst e1; cases h; exact ⟨_, List.mem_of_getElem? (i := 48) rfl⟩
    rw [show Nat.beq ix 15 = false from (by cases hb : Nat.beq ix 15 with | false => rfl | true => exact absurd (Nat.eq_of_beq_eq_true hb) e1)] at h
    by_cases e2 : ix = 9
    · subst e2; cases h; exact ⟨_, List.mem_of_getElem? (i := 49) rfl⟩
    rw [show Nat.beq ix 9 = false from (by cases hb : Nat.beq ix 9 with | false => rfl | true => exact absurd (Nat.eq_of_beq_eq_true hb) e2)] at h
    by_cases e3 : ix = 40
    · subst e3; cases h; exact ⟨_, List.mem_of_getElem? (i := 50) rfl⟩
    rw [show Nat.beq ix 40 = false from (by cases hb : Nat.beq ix 40 with | false => rfl | true => exact absurd (Nat.eq_of_beq_eq_true hb) e3)] at h
    by_cases e4 : ix = 47
    · subst e4; cases h; exact ⟨_, List.mem_of_getElem? (i := 51) rfl⟩
    rw [show Nat.beq ix 47 = false from (by cases hb : Nat.beq ix 47 with | false => rfl | true => exact absurd (Nat.eq_of_beq_eq_true hb) e4)] at h
    by_cases e5 : ix = 24
    · subst e5; cases h; exact ⟨_, List.mem_of_getElem? (i := 52) rfl⟩
    rw [show Nat.beq ix 24 = false from (by cases hb : Nat.beq ix 24 with | false => rfl | true => exact absurd (Nat.eq_of_beq_eq_true hb) e5)] at h
    by_cases e6 : ix = 32
    · subst e6; cases h; exact ⟨_, List.mem_of_getElem? (i := 53) rfl⟩
    rw [show Nat.beq ix 32 = false from (by cases hb : Nat.beq ix 32 with | false => rfl | true => exact absurd (Nat.eq_of_beq_eq_true hb) e6)] at h
    by_cases e7 : ix = 70
    · subst e7; cases h; exact ⟨_, List.mem_of_getElem? (i := 54) rfl⟩
    rw [show Nat.beq ix 70 = false from (by cases hb : Nat.beq ix 70 with | false => rfl | true => exact absurd (Nat.eq_of_beq_eq_true hb) e7)] at h
    by_cases e8 : ix = 36
    · subst e8; cases h; exact ⟨_, List.mem_of_getElem? (i := 55) rfl⟩
    rw [show Nat.beq ix 36 = false from (by cases hb : Nat.beq ix 36 with | false => rfl | true => exact absurd (Nat.eq_of_beq_eq_true hb) e8)] at h
    by_cases e9 : ix = 18
    · subst e9; cases h; exact ⟨_, List.mem_of_getElem? (i := 56) rfl⟩
    rw [show Nat.beq ix 18 = false from (by cases hb : Nat.beq ix 18 with | false => rfl | true => exact absurd (Nat.eq_of_beq_eq_true hb) e9)] at h
    by_cases e10 : ix = 21
    · subst e10; cases h; exact ⟨_, List.mem_of_getElem? (i := 57) rfl⟩
    rw [show Nat.beq ix 21 = false from (by cases hb : Nat.beq ix 21 with | false => rfl | true => exact absurd (Nat.eq_of_beq_eq_true hb) e10)] at h
    by_cases e11 : ix = 113
    · subst e11; cases h; exact ⟨_, List.mem_of_getElem? (i := 58) rfl⟩
    rw [show Nat.beq ix 113 = false from (by cases hb : Nat.beq ix 113 with | false => rfl | true => exact absurd (Nat.eq_of_beq_eq_true hb) e11)] at h
    by_cases e12 : ix = 127
    · subst e12; cases h; exact ⟨_, List.mem_of_getElem? (i := 59) rfl⟩
    rw [show Nat.beq ix 127 = false from (by cases hb : Nat.beq ix 127 with | false => rfl | true => exact absurd (Nat.eq_of_beq_eq_true hb) e12)] at h
    cases h
  | 6, _ =>
    have h : (bif Nat.beq ix 19 then (some (6, 3)) else (bif Nat.beq ix 9 then (some (6, 0)) else (bif Nat.beq ix 15 then (some (6, 2)) else (bif Nat.beq ix 23 then (some (6, 1)) else (bif Nat.beq ix 37 then (some (4, 2)) else (none)))))) = some (ci, j) := h
    by_cases e0 : ix = 19
    · subst e0; cases h; exact ⟨_, List.mem_of_getElem? (i := 60) rfl⟩
    rw [show Nat.beq ix 19 = false from (by cases hb : Nat.beq ix 19 with | false => rfl | true => exact absurd (Nat.eq_of_beq_eq_true hb) e0)] at h
    by_cases e1 : ix = 9
    · subst e1; cases h; exact ⟨_, List.mem_of_getElem? (i := 61) rfl⟩
    rw [show Nat.beq ix 9 = false from (by cases hb : Nat.beq ix 9 with | false => rfl | true => exact absurd (Nat.eq_of_beq_eq_true hb) e1)] at h
    by_cases e2 : ix = 15
    · subst e2; cases h; exact ⟨_, List.mem_of_getElem? (i := 62) rfl⟩
    rw [show Nat.beq ix 15 = false from (by cases hb : Nat.beq ix 15 with | false => rfl | true => exact absurd (Nat.eq_of_beq_eq_true hb) e2)] at h
    by_cases e3 : ix = 23
    · subst e3; cases h; exact ⟨_, List.mem_of_getElem? (i := 63) rfl⟩
    rw [show Nat.beq ix 23 = false from (by cases hb : Nat.beq ix 23 with | false => rfl | true => exact absurd (Nat.eq_of_beq_eq_true hb) e3)] at h
    by_cases e4 : ix = 37
    · subst e4; cases h; exact ⟨_, List.mem_of_getElem? (i := 64) rfl⟩
    rw [show Nat.beq ix 37 = false from (by cases hb : Nat.beq ix 37 with | false => rfl | true => exact absurd (Nat.eq_of_beq_eq_true hb) e4)] at h
    cases h
  | 7, _ =>
    have h : (bif Nat.beq ix 9 then (some (7, 1)) else (bif Nat.beq ix 18 then (some (7, 3)) else (bif Nat.beq ix 15 then (some (7, 2)) else (bif Nat.beq ix 22 then (some (7, 0)) else (bif Nat.beq ix 40 then (some (4, 2)) else (none)))))) = some (ci, j) := h
    by_cases e0 : ix = 9
    · subst e0; cases h; exact ⟨_, List.mem_of_getElem? (i := 65) rfl⟩
    rw [show Nat.beq ix 9 = false from (by cases hb : Nat.beq ix 9 with | false => rfl | true => exact absurd (Nat.eq_of_beq_eq_true hb) e0)] at h
    by_cases e1 : ix = 18
    · subst e1; cases h; exact ⟨_, List.mem_of_getElem? (i := 66) rfl⟩
    rw [show Nat.beq ix 18 = false from (by cases hb : Nat.beq ix 18 with | false => rfl | true => exact absurd (Nat.eq_of_beq_eq_true hb) e1)] at h
    by_cases e2 : ix = 15
    · subst e2; cases h; exact ⟨_, List.mem_of_getElem? (i := 67) rfl⟩
    rw [show Nat.beq ix 15 = false from (by cases hb : Nat.beq ix 15 with | false => rfl | true => exact absurd (Nat.eq_of_beq_eq_true hb) e2)] at h
    by_cases e3 : ix = 22
    · subst e3; cases h; exact ⟨_, List.mem_of_getElem? (i := 68) rfl⟩
    rw [show Nat.beq ix 22 = false from (by cases hb : Nat.beq ix 22 with | false => rfl | true => exact absurd (Nat.eq_of_beq_eq_true hb) e3)] at h
    by_cases e4 : ix = 40
    · subst e4; cases h; exact ⟨_, List.mem_of_getElem? (i := 69) rfl⟩
    rw [show Nat.beq ix 40 = false from (by cases hb : Nat.beq ix 40 with | false => rfl | true => exact absurd (Nat.eq_of_beq_eq_true hb) e4)] at h
    cases h
  | 8, _ =>
    have h : (bif Nat.beq ix 18 then (some (8, 3)) else (bif Nat.beq ix 11 then (some (8, 0)) else (bif Nat.beq ix 15 then (some (8, 1)) else (bif Nat.beq ix 33 then (some (8, 7)) else (bif Nat.beq ix 25 then (some (8, 5)) else (bif Nat.beq ix 29 then (some (8, 6)) else (bif Nat.beq ix 36 then (some (8, 2)) else (bif Nat.beq ix 67 then (some (4, 2)) else (bif Nat.beq ix 22 then (some (8, 4)) else (none)))))))))) = some (ci, j) := h
    by_cases e0 : ix = 18
    · subst e0; cases h; exact ⟨_, List.mem_of_getElem? (i := 70) rfl⟩
    rw [show Nat.beq ix 18 = false from (by cases hb : Nat.beq ix 18 with | false => rfl | true => exact absurd (Nat.eq_of_beq_eq_true hb) e0)] at h
    by_cases e1 : ix = 11
    · subst e1; cases h; exact ⟨_, List.mem_of_getElem? (i := 71) rfl⟩
    rw [show Nat.beq ix 11 = false from (by cases hb : Nat.beq ix 11 with | false => rfl | true => exact absurd (Nat.eq_of_beq_eq_true hb) e1)] at h
    by_cases e2 : ix = 15
    · subst e2; cases h; exact ⟨_, List.mem_of_getElem? (i := 72) rfl⟩
    rw [show Nat.beq ix 15 = false from (by cases hb : Nat.beq ix 15 with | false => rfl | true => exact absurd (Nat.eq_of_beq_eq_true hb) e2)] at h
    by_cases e3 : ix = 33
    · subst e3; cases h; exact ⟨_, List.mem_of_getElem? (i := 73) rfl⟩
    rw [show Nat.beq ix 33 = false from (by cases hb : Nat.beq ix 33 with | false => rfl | true => exact absurd (Nat.eq_of_beq_eq_true hb) e3)] at h
    by_cases e4 : ix = 25
    · subst e4; cases h; exact ⟨_, List.mem_of_getElem? (i := 74) rfl⟩
    rw [show Nat.beq ix 25 = false from (by cases hb : Nat.beq ix 25 with | false => rfl | true => exact absurd (Nat.eq_of_beq_eq_true hb) e4)] at h
    by_cases e5 : ix = 29
    · subst e5; cases h; exact ⟨_, List.mem_of_getElem? (i := 75) rfl⟩
    rw [show Nat.beq ix 29 = false from (by cases hb : Nat.beq ix 29 with | false => rfl | true => exact absurd (Nat.eq_of_beq_eq_true hb) e5)] at h
    by_cases e6 : ix = 36
    · subst e6; cases h; exact ⟨_, List.mem_of_getElem? (i := 76) rfl⟩
    rw [show Nat.beq ix 36 = false from (by cases hb : Nat.beq ix 36 with | false => rfl | true => exact absurd (Nat.eq_of_beq_eq_true hb) e6)] at h
    by_cases e7 : ix = 67
    · subst e7; cases h; exact ⟨_, List.mem_of_getElem? (i := 77) rfl⟩
    rw [show Nat.beq ix 67 = false from (by cases hb : Nat.beq ix 67 with | false => rfl | true => exact absurd (Nat.eq_of_beq_eq_true hb) e7)] at h
    by_cases e8 : ix = 22
    · subst e8; cases h; exact ⟨_, List.mem_of_getElem? (i := 78) rfl⟩
    rw [show Nat.beq ix 22 = false from (by cases hb : Nat.beq ix 22 with | false => rfl | true => exact absurd (Nat.eq_of_beq_eq_true hb) e8)] at h
    cases h
  | 9, _ =>
    have h : (bif Nat.beq ix 22 then (some (9, 4)) else (bif Nat.beq ix 29 then (some (9, 6)) else (bif Nat.beq ix 25 then (some (9, 5)) else (bif Nat.beq ix 19 then (some (9, 3)) else (bif Nat.beq ix 15 then (some (9, 2)) else (bif Nat.beq ix 9 then (some (9, 0)) else (bif Nat.beq ix 32 then (some (9, 1)) else (bif Nat.beq ix 58 then (some (4, 2)) else (bif Nat.beq ix 63 then (some (4, 3)) else (none)))))))))) = some (ci, j) := h
    by_cases e0 : ix = 22
    · subst e0; cases h; exact ⟨_, List.mem_of_getElem? (i := 79) rfl⟩
    rw [show Nat.beq ix 22 = false from (by cases hb : Nat.beq ix 22 with | false => rfl | true => exact absurd (Nat.eq_of_beq_eq_true hb) e0)] at h
    by_cases e1 : ix = 29
    · subst e1; cases h; exact ⟨_, List.mem_of_getElem? (i := 80) rfl⟩
    rw [show Nat.beq ix 29 = false from (by cases hb : Nat.beq ix 29 with | false => rfl | true => exact absurd (Nat.eq_of_beq_eq_true hb) e1)] at h
    by_cases e2 : ix = 25
    · subst e2; cases h; exact ⟨_, List.mem_of_getElem? (i := 81) rfl⟩
    rw [show Nat.beq ix 25 = false from (by cases hb : Nat.beq ix 25 with | false => rfl | true => exact absurd (Nat.eq_of_beq_eq_true hb) e2)] at h
    by_cases e3 : ix = 19
    · subst e3; cases h; exact ⟨_, List.mem_of_getElem? (i := 82) rfl⟩
    rw [show Nat.beq ix 19 = false from (by cases hb : Nat.beq ix 19 with | false => rfl | true => exact absurd (Nat.eq_of_beq_eq_true hb) e3)] at h
    by_cases e4 : ix = 15
    · subst e4; cases h; exact ⟨_, List.mem_of_getElem? (i := 83) rfl⟩
    rw [show Nat.beq ix 15 = false from (by cases hb : Nat.beq ix 15 with | false => rfl | true => exact absurd (Nat.eq_of_beq_eq_true hb) e4)] at h
    by_cases e5 : ix = 9
    · subst e5; cases h; exact ⟨_, List.mem_of_getElem? (i := 84) rfl⟩
    rw [show Nat.beq ix 9 = false from (by cases hb : Nat.beq ix 9 with | false => rfl | true => exact absurd (Nat.eq_of_beq_eq_true hb) e5)] at h
    by_cases e6 : ix = 32
    · subst e6; cases h; exact ⟨_, List.mem_of_getElem? (i := 85) rfl⟩
    rw [show Nat.beq ix 32 = false from (by cases hb : Nat.beq ix 32 with | false => rfl | true => exact absurd (Nat.eq_of_beq_eq_true hb) e6)] at h
    by_cases e7 : ix = 58
    · subst e7; cases h; exact ⟨_, List.mem_of_getElem? (i := 86) rfl⟩
    rw [show Nat.beq ix 58 = false from (by cases hb : Nat.beq ix 58 with | false => rfl | true => exact absurd (Nat.eq_of_beq_eq_true hb) e7)] at h
    by_cases e8 : ix = 63
    · subst e8; cases h; exact ⟨_, List.mem_of_getElem? (i := 87) rfl⟩
    rw [show Nat.beq ix 63 = false from (by cases hb : Nat.beq ix 63 with | false => rfl | true => exact absurd (Nat.eq_of_beq_eq_true hb) e8)] at h
    cases h
  | 10, _ =>
    have h : (bif Nat.beq ix 85 then (some (10, 0)) else (bif Nat.beq ix 89 then (some (10, 1)) else (bif Nat.beq ix 7 then (some (10, 2)) else (bif Nat.beq ix 13 then (some (10, 3)) else (bif Nat.beq ix 16 then (some (10, 4)) else (bif Nat.beq ix 37 then (some (10, 13)) else (bif Nat.beq ix 100 then (some (10, 14)) else (bif Nat.beq ix 31 then (some (10, 11)) else (bif Nat.beq ix 34 then (some (10, 12)) else (bif Nat.beq ix 111 then (some (10, 5)) else (bif Nat.beq ix 19 then (some (10, 6)) else (bif Nat.beq ix 22 then (some (10, 7)) else (bif Nat.beq ix 123 then (some (10, 8)) else (bif Nat.beq ix 25 then (some (10, 9)) else (bif Nat.beq ix 28 then (some (10, 10)) else (bif Nat.beq ix 40 then (some (10, 15)) else (bif Nat.beq ix 137 then (some (10, 18)) else (bif Nat.beq ix 46 then (some (10, 17)) else (bif Nat.beq ix 43 then (some (10, 16)) else (bif Nat.beq ix 49 then (some (10, 19)) else (bif Nat.beq ix 53 then (some (10, 20)) else (bif Nat.beq ix 56 then (some (10, 21)) else (bif Nat.beq ix 60 then (some (10, 22)) else (bif Nat.beq ix 66 then (some (10, 24)) else (bif Nat.beq ix 63 then (some (10, 23)) else (bif Nat.beq ix 179 then (some (10, 26)) else (bif Nat.beq ix 70 then (some (10, 25)) else (bif Nat.beq ix 197 then (some (10, 30)) else (bif Nat.beq ix 76 then (some (10, 29)) else (bif Nat.beq ix 79 then (some (10, 31)) else (bif Nat.beq ix 82 then (some (10, 32)) else (bif Nat.beq ix 73 then (some (10, 27)) else (bif Nat.beq ix 215 then (some (10, 28)) else (none)))))))))))))))))))))))))))))))))) = some (ci, j) := h
    by_cases e0 : ix = 85
    · subst e0; cases h; exact ⟨_, List.mem_of_getElem? (i := 88) rfl⟩
    rw [show Nat.beq ix 85 = false from (by cases hb : Nat.beq ix 85 with | false => rfl | true => exact absurd (Nat.eq_of_beq_eq_true hb) e0)] at h
    by_cases e1 : ix = 89
    · subst e1; cases h; exact ⟨_, List.mem_of_getElem? (i := 89) rfl⟩
    rw [show Nat.beq ix 89 = false from (by cases hb : Nat.beq ix 89 with | false => rfl | true => exact absurd (Nat.eq_of_beq_eq_true hb) e1)] at h
    by_cases e2 : ix = 7
    · subst e2; cases h; exact ⟨_, List.mem_of_getElem? (i := 90) rfl⟩
    rw [show Nat.beq ix 7 = false from (by cases hb : Nat.beq ix 7 with | false => rfl | true => exact absurd (Nat.eq_of_beq_eq_true hb) e2)] at h
    by_cases e3 : ix = 13
    · subst e3; cases h; exact ⟨_, List.mem_of_getElem? (i := 91) rfl⟩
    rw [show Nat.beq ix 13 = false from (by cases hb : Nat.beq ix 13 with | false => rfl | true => exact absurd (Nat.eq_of_beq_eq_true hb) e3)] at h
    by_cases e4 : ix = 16
    · subst e4; cases h; exact ⟨_, List.mem_of_getElem? (i := 92) rfl⟩
    rw [show Nat.beq ix 16 = false from (by cases hb : Nat.beq ix 16 with | false => rfl | true => exact absurd (Nat.eq_of_beq_eq_true hb) e4)] at h
    by_cases e5 : ix = 37
    · subst e5; cases h; exact ⟨_, List.mem_of_getElem? (i := 93) rfl⟩
    rw [show Nat.beq ix 37 = false from (by cases hb : Nat.beq ix 37 with | false => rfl | true => exact absurd (Nat.eq_of_beq_eq_true hb) e5)] at h
    by_cases e6 : ix = 100
    · subst e6; cases h; exact ⟨_, List.mem_of_getElem? (i := 94) rfl⟩
    rw [show Nat.beq ix 100 = false from (by cases hb : Nat.beq ix 100 with | false => rfl | true => exact absurd (Nat.eq_of_beq_eq_true hb) e6)] at h
    by_cases e7 : ix = 31
    · subst e7; cases h; exact ⟨_, List.mem_of_getElem? (i := 95) rfl⟩
    rw [show Nat.beq ix 31 = false from (by cases hb : Nat.beq ix 31 with | false => rfl | true => exact absurd (Nat.eq_of_beq_eq_true hb) e7)] at h
    by_cases e8 : ix = 34
    · subst e8; cases h; exact ⟨_, List.mem_of_getElem? (i := 96) rfl⟩
    rw [show Nat.beq ix 34 = false from (by cases hb : Nat.beq ix 34 with | false => rfl | true => exact absurd (Nat.eq_of_beq_eq_true hb) e8)] at h
    by_cases e9 : ix = 111
    · subst e9; cases h; exact ⟨_, List.mem_of_getElem? (i := 97) rfl⟩
    rw [show Nat.beq ix 111 = false from (by cases hb : Nat.beq ix 111 with | false => rfl | true => exact absurd (Nat.eq_of_beq_eq_true hb) e9)] at h
    by_cases e10 : ix = 19
    · subst e10; cases h; exact ⟨_, List.mem_of_getElem? (i := 98) rfl⟩
    rw [show Nat.beq ix 19 = false from (by cases hb : Nat.beq ix 19 with | false => rfl | true => exact absurd (Nat.eq_of_beq_eq_true hb) e10)] at h
    by_cases e11 : ix = 22
    · subst e11; cases h; exact ⟨_, List.mem_of_getElem? (i := 99) rfl⟩
    rw [show Nat.beq ix 22 = false from (by cases hb : Nat.beq ix 22 with | false => rfl | true => exact absurd (Nat.eq_of_beq_eq_true hb) e11)] at h
    by_cases e12 : ix = 123
    · subst e12; cases h; exact ⟨_, List.mem_of_getElem? (i := 100) rfl⟩
    rw [show Nat.beq ix 123 = false from (by cases hb : Nat.beq ix 123 with | false => rfl | true => exact absurd (Nat.eq_of_beq_eq_true hb) e12)] at h
    by_cases e13 : ix = 25
    · subst e13; cases h; exact ⟨_, List.mem_of_getElem? (i := 101) rfl⟩
    rw [show Nat.beq ix 25 = false from (by cases hb : Nat.beq ix 25 with | false => rfl | true => exact absurd (Nat.eq_of_beq_eq_true hb) e13)] at h
    by_cases e14 : ix = 28
    · subst e14; cases h; exact ⟨_, List.mem_of_getElem? (i := 102) rfl⟩
    rw [show Nat.beq ix 28 = false from (by cases hb : Nat.beq ix 28 with | false => rfl | true => exact absurd (Nat.eq_of_beq_eq_true hb) e14)] at h
    by_cases e15 : ix = 40
    · subst e15; cases h; exact ⟨_, List.mem_of_getElem? (i := 103) rfl⟩
    rw [show Nat.beq ix 40 = false from (by cases hb : Nat.beq ix 40 with | false => rfl | true => exact absurd (Nat.eq_of_beq_eq_true hb) e15)] at h
    by_cases e16 : ix = 137
    · subst e16; cases h; exact ⟨_, List.mem_of_getElem? (i := 104) rfl⟩
    rw [show Nat.beq ix 137 = false from (by cases hb : Nat.beq ix 137 with | false => rfl | true => exact absurd (Nat.eq_of_beq_eq_true hb) e16)] at h
    by_cases e17 : ix = 46
    · subst e17; cases h; exact ⟨_, List.mem_of_getElem? (i := 105) rfl⟩
    rw [show Nat.beq ix 46 = false from (by cases hb : Nat.beq ix 46 with | false => rfl | true => exact absurd (Nat.eq_of_beq_eq_true hb) e17)] at h
    by_cases e18 : ix = 43
    · subst e18; cases h; exact ⟨_, List.mem_of_getElem? (i := 106) rfl⟩
    rw [show Nat.beq ix 43 = false from (by cases hb : Nat.beq ix 43 with | false => rfl | true => exact absurd (Nat.eq_of_beq_eq_true hb) e18)] at h
    by_cases e19 : ix = 49
    · subst e19; cases h; exact ⟨_, List.mem_of_getElem? (i := 107) rfl⟩
    rw [show Nat.beq ix 49 = false from (by cases hb : Nat.beq ix 49 with | false => rfl | true => exact absurd (Nat.eq_of_beq_eq_true hb) e19)] at h
    by_cases e20 : ix = 53
    · subst e20; cases h; exact ⟨_, List.mem_of_getElem? (i := 108) rfl⟩
    rw [show Nat.beq ix 53 = false from (by cases hb : Nat.beq ix 53 with | false => rfl | true => exact absurd (Nat.eq_of_beq_eq_true hb) e20)] at h
    by_cases e21 : ix = 56
    · subst e21; cases h; exact ⟨_, List.mem_of_getElem? (i := 109) rfl⟩
    rw [show Nat.beq ix 56 = false from (by cases hb : Nat.beq ix 56 with | false => rfl | true => exact absurd (Nat.eq_of_beq_eq_true hb) e21)] at h
    by_cases e22 : ix = 60
    · subst e22; cases h; exact ⟨_, List.mem_of_getElem? (i := 110) rfl⟩
    rw [show Nat.beq ix 60 = false from (by cases hb : Nat.beq ix 60 with | false => rfl | true => exact absurd (Nat.eq_of_beq_eq_true hb) e22)] at h
    by_cases e23 : ix = 66
    · subst e23; cases h; exact ⟨_, List.mem_of_getElem? (i := 111) rfl⟩
    rw [show Nat.beq ix 66 = false from (by cases hb : Nat.beq ix 66 with | false => rfl | true => exact absurd (Nat.eq_of_beq_eq_true hb) e23)] at h
    by_cases e24 : ix = 63
    · subst e24; cases h; exact ⟨_, List.mem_of_getElem? (i := 112) rfl⟩
    rw [show Nat.beq ix 63 = false from (by cases hb : Nat.beq ix 63 with | false => rfl | true => exact absurd (Nat.eq_of_beq_eq_true hb) e24)] at h
    by_cases e25 : ix = 179
    · subst e25; cases h; exact ⟨_, List.mem_of_getElem? (i := 113) rfl⟩
    rw [show Nat.beq ix 179 = false from (by cases hb : Nat.beq ix 179 with | false => rfl | true => exact absurd (Nat.eq_of_beq_eq_true hb) e25)] at h
    by_cases e26 : ix = 70
    · subst e26; cases h; exact ⟨_, List.mem_of_getElem? (i := 114) rfl⟩
    rw [show Nat.beq ix 70 = false from (by cases hb : Nat.beq ix 70 with | false => rfl | true => exact absurd (Nat.eq_of_beq_eq_true hb) e26)] at h
    by_cases e27 : ix = 197
    · subst e27; cases h; exact ⟨_, List.mem_of_getElem? (i := 115) rfl⟩
    rw [show Nat.beq ix 197 = false from (by cases hb : Nat.beq ix 197 with | false => rfl | true => exact absurd (Nat.eq_of_beq_eq_true hb) e27)] at h
    by_cases e28 : ix = 76
    · subst e28; cases h; exact ⟨_, List.mem_of_getElem? (i := 116) rfl⟩
    rw [show Nat.beq ix 76 = false from (by cases hb : Nat.beq ix 76 with | false => rfl | true => exact absurd (Nat.eq_of_beq_eq_true hb) e28)] at h
    by_cases e29 : ix = 79
    · subst e29; cases h; exact ⟨_, List.mem_of_getElem? (i := 117) rfl⟩
    rw [show Nat.beq ix 79 = false from (by cases hb : Nat.beq ix 79 with | false => rfl | true => exact absurd (Nat.eq_of_beq_eq_true hb) e29)] at h
    by_cases e30 : ix = 82
    · subst e30; cases h; exact ⟨_, List.mem_of_getElem? (i := 118) rfl⟩
    rw [show Nat.beq ix 82 = false from (by cases hb : Nat.beq ix 82 with | false => rfl | true => exact absurd (Nat.eq_of_beq_eq_true hb) e30)] at h
    by_cases e31 : ix = 73
    · subst e31; cases h; exact ⟨_, List.mem_of_getElem? (i := 119) rfl⟩
    rw [show Nat.beq ix 73 = false from (by cases hb : Nat.beq ix 73 with | false => rfl | true => exact absurd (Nat.eq_of_beq_eq_true hb) e31)] at h
    by_cases e32 : ix = 215
    · subst e32; cases h; exact ⟨_, List.mem_of_getElem? (i := 120) rfl⟩
    rw [show Nat.beq ix 215 = false from (by cases hb : Nat.beq ix 215 with | false => rfl | true => exact absurd (Nat.eq_of_beq_eq_true hb) e32)] at h
    cases h
  | 11, _ =>
    cases h
  | 12, _ =>
    cases h
  | 13, _ =>
    cases h
theorem tf_fld_ok {oc ix ci j : Nat} (h : tf_fld oc ix = some (ci, j)) : ∃ (C : String) (T : u_T) (N : Nat), tf_cls[ci]? = some (C, T, N) ∧ j < N ∧ (∀ w ∈ u_ws C T N, w ∈ tf_gt) ∧ Cond.fieldLink (tf_cn oc) ix C (T j).2.1 (T j).2.2.1 ∈ tf_gt ∧ (T j).1 = C := by
  obtain ⟨k, hk⟩ := tf_fldM h
  have h1 := List.all_eq_true.mp tf_fckL _ hk
  unfold tf_fck at h1
  rw [Bool.and_eq_true, Bool.and_eq_true, Bool.and_eq_true] at h1
  obtain ⟨⟨⟨a1, a2⟩, a3⟩, a4⟩ := h1
  have a1 := of_decide_eq_true a1
  have a2 : j < tf_Nn ci := of_decide_eq_true a2
  have a3 : ci < 11 := of_decide_eq_true a3
  have a4 := of_decide_eq_true a4
  have a5 := tf_g k a1 rfl
  match ci, a3 with
  | 0, _ => exact ⟨_, _, _, rfl, a2, tf_uw0, a5, a4⟩
  | 1, _ => exact ⟨_, _, _, rfl, a2, tf_uw1, a5, a4⟩
  | 2, _ => exact ⟨_, _, _, rfl, a2, tf_uw2, a5, a4⟩
  | 3, _ => exact ⟨_, _, _, rfl, a2, tf_uw3, a5, a4⟩
  | 4, _ => exact ⟨_, _, _, rfl, a2, tf_uw4, a5, a4⟩
  | 5, _ => exact ⟨_, _, _, rfl, a2, tf_uw5, a5, a4⟩
  | 6, _ => exact ⟨_, _, _, rfl, a2, tf_uw6, a5, a4⟩
  | 7, _ => exact ⟨_, _, _, rfl, a2, tf_uw7, a5, a4⟩
  | 8, _ => exact ⟨_, _, _, rfl, a2, tf_uw8, a5, a4⟩
  | 9, _ => exact ⟨_, _, _, rfl, a2, tf_uw9, a5, a4⟩
  | 10, _ => exact ⟨_, _, _, rfl, a2, tf_uw10, a5, a4⟩
theorem tf_fpt_ok {ci j : Nat} {ty : FieldType} (h : tf_fpt ci j = some ty) {C : String} {T : u_T} {N : Nat} (hc : tf_cls[ci]? = some (C, T, N)) : ∃ ty0 : Nat → FieldType, (∀ k, k < N → parseFieldDescriptor (T k).2.2.1 = some (ty0 k)) ∧ (∀ a, a < N → ∀ b, b < N → a ≠ b → (T a).2.1 ≠ (T b).2.1) ∧ (T j).2.2.2 = false ∧ parseFieldDescriptor (T j).2.2.1 = some ty := by
  have hci : ci < 11 := (List.getElem?_eq_some_iff.mp hc).1
  match ci, hci with
  | 0, _ =>
    have hc : some ("TermForge", tf_T0, 10) = some (C, T, N) := hc
    cases hc
    refine ⟨tf_ty0, tf_tyok0, tf_nm0, ?_⟩
    have h : (bif Nat.beq j 9 then (some FieldType.int) else (none)) = some ty := h
    by_cases e0 : j = 9
    · subst e0; cases h; exact ⟨rfl, by decide +kernel⟩
    rw [show Nat.beq j 9 = false from (by cases hb : Nat.beq j 9 with | false => rfl | true => exact absurd (Nat.eq_of_beq_eq_true hb) e0)] at h
    cases h
  | 1, _ =>
    have hc : some ("TermForge$Terms", tf_T1, 3) = some (C, T, N) := hc
    cases hc
    refine ⟨tf_ty1, tf_tyok1, tf_nm1, ?_⟩
    have h : (bif Nat.beq j 0 then (some FieldType.int) else (none)) = some ty := h
    by_cases e0 : j = 0
    · subst e0; cases h; exact ⟨rfl, by decide +kernel⟩
    rw [show Nat.beq j 0 = false from (by cases hb : Nat.beq j 0 with | false => rfl | true => exact absurd (Nat.eq_of_beq_eq_true hb) e0)] at h
    cases h
  | 2, _ =>
    have hc : some ("TermForge$Classes", tf_T2, 9) = some (C, T, N) := hc
    cases hc
    refine ⟨tf_ty2, tf_tyok2, tf_nm2, ?_⟩
    have h : (bif Nat.beq j 0 then (some FieldType.int) else (bif Nat.beq j 8 then (some FieldType.int) else (none))) = some ty := h
    by_cases e0 : j = 0
    · subst e0; cases h; exact ⟨rfl, by decide +kernel⟩
    rw [show Nat.beq j 0 = false from (by cases hb : Nat.beq j 0 with | false => rfl | true => exact absurd (Nat.eq_of_beq_eq_true hb) e0)] at h
    by_cases e1 : j = 8
    · subst e1; cases h; exact ⟨rfl, by decide +kernel⟩
    rw [show Nat.beq j 8 = false from (by cases hb : Nat.beq j 8 with | false => rfl | true => exact absurd (Nat.eq_of_beq_eq_true hb) e1)] at h
    cases h
  | 3, _ =>
    have hc : some ("TermForge$Levels", tf_T3, 4) = some (C, T, N) := hc
    cases hc
    refine ⟨tf_ty3, tf_tyok3, tf_nm3, ?_⟩
    have h : (bif Nat.beq j 0 then (some FieldType.int) else (none)) = some ty := h
    by_cases e0 : j = 0
    · subst e0; cases h; exact ⟨rfl, by decide +kernel⟩
    rw [show Nat.beq j 0 = false from (by cases hb : Nat.beq j 0 with | false => rfl | true => exact absurd (Nat.eq_of_beq_eq_true hb) e0)] at h
    cases h
  | 4, _ =>
    have hc : some ("TermForge$Trees", tf_T4, 10) = some (C, T, N) := hc
    cases hc
    refine ⟨tf_ty4, tf_tyok4, tf_nm4, ?_⟩
    have h : (bif Nat.beq j 0 then (some FieldType.int) else (bif Nat.beq j 1 then (some FieldType.int) else (none))) = some ty := h
    by_cases e0 : j = 0
    · subst e0; cases h; exact ⟨rfl, by decide +kernel⟩
    rw [show Nat.beq j 0 = false from (by cases hb : Nat.beq j 0 with | false => rfl | true => exact absurd (Nat.eq_of_beq_eq_true hb) e0)] at h
    by_cases e1 : j = 1
    · subst e1; cases h; exact ⟨rfl, by decide +kernel⟩
    rw [show Nat.beq j 1 = false from (by cases hb : Nat.beq j 1 with | false => rfl | true => exact absurd (Nat.eq_of_beq_eq_true hb) e1)] at h
    cases h
  | 5, _ =>
    have hc : some ("TermForge$Finder", tf_T5, 9) = some (C, T, N) := hc
    cases hc
    refine ⟨tf_ty5, tf_tyok5, tf_nm5, ?_⟩
    have h : (bif Nat.beq j 7 then (some FieldType.int) else (bif Nat.beq j 8 then (some FieldType.boolean) else (none))) = some ty := h
    by_cases e0 : j = 7
    · subst e0; cases h; exact ⟨rfl, by decide +kernel⟩
    rw [show Nat.beq j 7 = false from (by cases hb : Nat.beq j 7 with | false => rfl | true => exact absurd (Nat.eq_of_beq_eq_true hb) e0)] at h
    by_cases e1 : j = 8
    · subst e1; cases h; exact ⟨rfl, by decide +kernel⟩
    rw [show Nat.beq j 8 = false from (by cases hb : Nat.beq j 8 with | false => rfl | true => exact absurd (Nat.eq_of_beq_eq_true hb) e1)] at h
    cases h
  | 6, _ =>
    have hc : some ("TermForge$Reach", tf_T6, 4) = some (C, T, N) := hc
    cases hc
    refine ⟨tf_ty6, tf_tyok6, tf_nm6, ?_⟩
    have h : (bif Nat.beq j 0 then (some FieldType.int) else (none)) = some ty := h
    by_cases e0 : j = 0
    · subst e0; cases h; exact ⟨rfl, by decide +kernel⟩
    rw [show Nat.beq j 0 = false from (by cases hb : Nat.beq j 0 with | false => rfl | true => exact absurd (Nat.eq_of_beq_eq_true hb) e0)] at h
    cases h
  | 7, _ =>
    have hc : some ("TermForge$Matching", tf_T7, 4) = some (C, T, N) := hc
    cases hc
    refine ⟨tf_ty7, tf_tyok7, tf_nm7, ?_⟩
    have h : (bif Nat.beq j 3 then (some FieldType.int) else (none)) = some ty := h
    by_cases e0 : j = 3
    · subst e0; cases h; exact ⟨rfl, by decide +kernel⟩
    rw [show Nat.beq j 3 = false from (by cases hb : Nat.beq j 3 with | false => rfl | true => exact absurd (Nat.eq_of_beq_eq_true hb) e0)] at h
    cases h
  | 8, _ =>
    have hc : some ("TermForge$Pairs", tf_T8, 8) = some (C, T, N) := hc
    cases hc
    refine ⟨tf_ty8, tf_tyok8, tf_nm8, ?_⟩
    have h : (bif Nat.beq j 0 then (some FieldType.int) else (bif Nat.beq j 1 then (some FieldType.int) else (bif Nat.beq j 7 then (some FieldType.int) else (none)))) = some ty := h
    by_cases e0 : j = 0
    · subst e0; cases h; exact ⟨rfl, by decide +kernel⟩
    rw [show Nat.beq j 0 = false from (by cases hb : Nat.beq j 0 with | false => rfl | true => exact absurd (Nat.eq_of_beq_eq_true hb) e0)] at h
    by_cases e1 : j = 1
    · subst e1; cases h; exact ⟨rfl, by decide +kernel⟩
    rw [show Nat.beq j 1 = false from (by cases hb : Nat.beq j 1 with | false => rfl | true => exact absurd (Nat.eq_of_beq_eq_true hb) e1)] at h
    by_cases e2 : j = 7
    · subst e2; cases h; exact ⟨rfl, by decide +kernel⟩
    rw [show Nat.beq j 7 = false from (by cases hb : Nat.beq j 7 with | false => rfl | true => exact absurd (Nat.eq_of_beq_eq_true hb) e2)] at h
    cases h
  | 9, _ =>
    have hc : some ("TermForge$Writing", tf_T9, 7) = some (C, T, N) := hc
    cases hc
    refine ⟨tf_ty9, tf_tyok9, tf_nm9, ?_⟩
    have h : (bif Nat.beq j 0 then (some FieldType.int) else (bif Nat.beq j 4 then (some FieldType.int) else (bif Nat.beq j 6 then (some FieldType.int) else (none)))) = some ty := h
    by_cases e0 : j = 0
    · subst e0; cases h; exact ⟨rfl, by decide +kernel⟩
    rw [show Nat.beq j 0 = false from (by cases hb : Nat.beq j 0 with | false => rfl | true => exact absurd (Nat.eq_of_beq_eq_true hb) e0)] at h
    by_cases e1 : j = 4
    · subst e1; cases h; exact ⟨rfl, by decide +kernel⟩
    rw [show Nat.beq j 4 = false from (by cases hb : Nat.beq j 4 with | false => rfl | true => exact absurd (Nat.eq_of_beq_eq_true hb) e1)] at h
    by_cases e2 : j = 6
    · subst e2; cases h; exact ⟨rfl, by decide +kernel⟩
    rw [show Nat.beq j 6 = false from (by cases hb : Nat.beq j 6 with | false => rfl | true => exact absurd (Nat.eq_of_beq_eq_true hb) e2)] at h
    cases h
  | 10, _ =>
    have hc : some ("TermForgeModel", tf_T10, 33) = some (C, T, N) := hc
    cases hc
    refine ⟨tf_ty10, tf_tyok10, tf_nm10, ?_⟩
    have h : (bif Nat.beq j 0 then (some FieldType.int) else (bif Nat.beq j 1 then (some FieldType.int) else (bif Nat.beq j 5 then (some FieldType.int) else (bif Nat.beq j 8 then (some FieldType.int) else (bif Nat.beq j 14 then (some FieldType.int) else (bif Nat.beq j 18 then (some FieldType.int) else (bif Nat.beq j 26 then (some FieldType.int) else (bif Nat.beq j 28 then (some FieldType.int) else (bif Nat.beq j 30 then (some FieldType.int) else (none)))))))))) = some ty := h
    by_cases e0 : j = 0
    · subst e0; cases h; exact ⟨rfl, by decide +kernel⟩
    rw [show Nat.beq j 0 = false from (by cases hb : Nat.beq j 0 with | false => rfl | true => exact absurd (Nat.eq_of_beq_eq_true hb) e0)] at h
    by_cases e1 : j = 1
    · subst e1; cases h; exact ⟨rfl, by decide +kernel⟩
    rw [show Nat.beq j 1 = false from (by cases hb : Nat.beq j 1 with | false => rfl | true => exact absurd (Nat.eq_of_beq_eq_true hb) e1)] at h
    by_cases e2 : j = 5
    · subst e2; cases h; exact ⟨rfl, by decide +kernel⟩
    rw [show Nat.beq j 5 = false from (by cases hb : Nat.beq j 5 with | false => rfl | true => exact absurd (Nat.eq_of_beq_eq_true hb) e2)] at h
    by_cases e3 : j = 8
    · subst e3; cases h; exact ⟨rfl, by decide +kernel⟩
    rw [show Nat.beq j 8 = false from (by cases hb : Nat.beq j 8 with | false => rfl | true => exact absurd (Nat.eq_of_beq_eq_true hb) e3)] at h
    by_cases e4 : j = 14
    · subst e4; cases h; exact ⟨rfl, by decide +kernel⟩
    rw [show Nat.beq j 14 = false from (by cases hb : Nat.beq j 14 with | false => rfl | true => exact absurd (Nat.eq_of_beq_eq_true hb) e4)] at h
    by_cases e5 : j = 18
    · subst e5; cases h; exact ⟨rfl, by decide +kernel⟩
    rw [show Nat.beq j 18 = false from (by cases hb : Nat.beq j 18 with | false => rfl | true => exact absurd (Nat.eq_of_beq_eq_true hb) e5)] at h
    by_cases e6 : j = 26
    · subst e6; cases h; exact ⟨rfl, by decide +kernel⟩
    rw [show Nat.beq j 26 = false from (by cases hb : Nat.beq j 26 with | false => rfl | true => exact absurd (Nat.eq_of_beq_eq_true hb) e6)] at h
    by_cases e7 : j = 28
    · subst e7; cases h; exact ⟨rfl, by decide +kernel⟩
    rw [show Nat.beq j 28 = false from (by cases hb : Nat.beq j 28 with | false => rfl | true => exact absurd (Nat.eq_of_beq_eq_true hb) e7)] at h
    by_cases e8 : j = 30
    · subst e8; cases h; exact ⟨rfl, by decide +kernel⟩
    rw [show Nat.beq j 30 = false from (by cases hb : Nat.beq j 30 with | false => rfl | true => exact absurd (Nat.eq_of_beq_eq_true hb) e8)] at h
    cases h
theorem tf_cst_ok {oc ix : Nat} {z : Int} (h : tf_cst oc ix = some z) : Cond.constant (tf_cn oc) ix (Int32.ofInt z) ∈ tf_gt := by
  have hoc : oc < 14 := by
    apply Classical.byContradiction
    intro hn
    have : Nat.blt oc 14 = false := by
      cases hb : Nat.blt oc 14 with
      | false => rfl
      | true => exact absurd (Nat.le_of_ble_eq_true hb) hn
    unfold tf_cst at h
    rw [this] at h
    cases h
  match oc, hoc with
  | 0, _ =>
    cases h
  | 1, _ =>
    cases h
  | 2, _ =>
    cases h
  | 3, _ =>
    cases h
  | 4, _ =>
    cases h
  | 5, _ =>
    cases h
  | 6, _ =>
    cases h
  | 7, _ =>
    cases h
  | 8, _ =>
    have h : (bif Nat.beq ix 50 then (some (90000)) else (none)) = some z := h
    by_cases e0 : ix = 50
    · subst e0; cases h; exact tf_g 736 (by decide +kernel) rfl
    rw [show Nat.beq ix 50 = false from (by cases hb : Nat.beq ix 50 with | false => rfl | true => exact absurd (Nat.eq_of_beq_eq_true hb) e0)] at h
    cases h
  | 9, _ =>
    cases h
  | 10, _ =>
    cases h
  | 11, _ =>
    cases h
  | 12, _ =>
    cases h
  | 13, _ =>
    cases h
theorem tf_csl_ok {oc ix : Nat} {z : Int} (h : tf_csl oc ix = some z) : Cond.constantLong (tf_cn oc) ix (Int64.ofInt z) ∈ tf_gt := by
  have hoc : oc < 14 := by
    apply Classical.byContradiction
    intro hn
    have : Nat.blt oc 14 = false := by
      cases hb : Nat.blt oc 14 with
      | false => rfl
      | true => exact absurd (Nat.le_of_ble_eq_true hb) hn
    unfold tf_csl at h
    rw [this] at h
    cases h
  match oc, hoc with
  | 0, _ =>
    have h : (bif Nat.beq ix 166 then (some (-1)) else (none)) = some z := h
    by_cases e0 : ix = 166
    · subst e0; cases h; exact tf_g 649 (by decide +kernel) rfl
    rw [show Nat.beq ix 166 = false from (by cases hb : Nat.beq ix 166 with | false => rfl | true => exact absurd (Nat.eq_of_beq_eq_true hb) e0)] at h
    cases h
  | 1, _ =>
    cases h
  | 2, _ =>
    cases h
  | 3, _ =>
    cases h
  | 4, _ =>
    have h : (bif Nat.beq ix 62 then (some (1000000000000)) else (none)) = some z := h
    by_cases e0 : ix = 62
    · subst e0; cases h; exact tf_g 607 (by decide +kernel) rfl
    rw [show Nat.beq ix 62 = false from (by cases hb : Nat.beq ix 62 with | false => rfl | true => exact absurd (Nat.eq_of_beq_eq_true hb) e0)] at h
    cases h
  | 5, _ =>
    cases h
  | 6, _ =>
    cases h
  | 7, _ =>
    cases h
  | 8, _ =>
    cases h
  | 9, _ =>
    have h : (bif Nat.beq ix 53 then (some (255)) else (none)) = some z := h
    by_cases e0 : ix = 53
    · subst e0; cases h; exact tf_g 827 (by decide +kernel) rfl
    rw [show Nat.beq ix 53 = false from (by cases hb : Nat.beq ix 53 with | false => rfl | true => exact absurd (Nat.eq_of_beq_eq_true hb) e0)] at h
    cases h
  | 10, _ =>
    have h : (bif Nat.beq ix 155 then (some (1000000000000)) else (bif Nat.beq ix 169 then (some (-1)) else (none))) = some z := h
    by_cases e0 : ix = 155
    · subst e0; cases h; exact tf_g 1056 (by decide +kernel) rfl
    rw [show Nat.beq ix 155 = false from (by cases hb : Nat.beq ix 155 with | false => rfl | true => exact absurd (Nat.eq_of_beq_eq_true hb) e0)] at h
    by_cases e1 : ix = 169
    · subst e1; cases h; exact tf_g 1065 (by decide +kernel) rfl
    rw [show Nat.beq ix 169 = false from (by cases hb : Nat.beq ix 169 with | false => rfl | true => exact absurd (Nat.eq_of_beq_eq_true hb) e1)] at h
    cases h
  | 11, _ =>
    cases h
  | 12, _ =>
    cases h
  | 13, _ =>
    have h : (bif Nat.beq ix 314 then (some (6148914691236517205)) else (bif Nat.beq ix 316 then (some (3689348814741910323)) else (bif Nat.beq ix 318 then (some (1085102592571150095)) else (none)))) = some z := h
    by_cases e0 : ix = 314
    · subst e0; cases h; exact tf_g 747 (by decide +kernel) rfl
    rw [show Nat.beq ix 314 = false from (by cases hb : Nat.beq ix 314 with | false => rfl | true => exact absurd (Nat.eq_of_beq_eq_true hb) e0)] at h
    by_cases e1 : ix = 316
    · subst e1; cases h; exact tf_g 748 (by decide +kernel) rfl
    rw [show Nat.beq ix 316 = false from (by cases hb : Nat.beq ix 316 with | false => rfl | true => exact absurd (Nat.eq_of_beq_eq_true hb) e1)] at h
    by_cases e2 : ix = 318
    · subst e2; cases h; exact tf_g 749 (by decide +kernel) rfl
    rw [show Nat.beq ix 318 = false from (by cases hb : Nat.beq ix 318 with | false => rfl | true => exact absurd (Nat.eq_of_beq_eq_true hb) e2)] at h
    cases h
