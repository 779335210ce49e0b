-- the law's own instructions, decoded: printed by wip/whole/tool/emit.py
theorem tf_dl0 : ((tf_c152.drop 0).take 25).all (tf_ck code) = true := by decide +kernel
theorem tf_dl1 : ((tf_c152.drop 25).take 25).all (tf_ck code) = true := by decide +kernel
theorem tf_dl2 : ((tf_c152.drop 50).take 25).all (tf_ck code) = true := by decide +kernel
theorem tf_dl3 : ((tf_c152.drop 75).take 25).all (tf_ck code) = true := by decide +kernel
theorem tf_dl4 : ((tf_c152.drop 100).take 25).all (tf_ck code) = true := by decide +kernel
theorem tf_dl5 : ((tf_c152.drop 125).take 25).all (tf_ck code) = true := by decide +kernel
theorem tf_dl6 : ((tf_c152.drop 150).take 25).all (tf_ck code) = true := by decide +kernel
theorem tf_dl7 : ((tf_c152.drop 175).take 25).all (tf_ck code) = true := by decide +kernel
theorem tf_dl8 : ((tf_c152.drop 200).take 25).all (tf_ck code) = true := by decide +kernel
theorem tf_dl9 : ((tf_c152.drop 225).take 25).all (tf_ck code) = true := by decide +kernel
theorem tf_dl10 : ((tf_c152.drop 250).take 25).all (tf_ck code) = true := by decide +kernel
theorem tf_dl11 : ((tf_c152.drop 275).take 25).all (tf_ck code) = true := by decide +kernel
theorem tf_dl12 : ((tf_c152.drop 300).take 25).all (tf_ck code) = true := by decide +kernel
theorem tf_dl13 : ((tf_c152.drop 325).take 25).all (tf_ck code) = true := by decide +kernel
theorem tf_dl14 : ((tf_c152.drop 350).take 25).all (tf_ck code) = true := by decide +kernel
theorem tf_dl15 : ((tf_c152.drop 375).take 25).all (tf_ck code) = true := by decide +kernel
theorem tf_dl16 : ((tf_c152.drop 400).take 25).all (tf_ck code) = true := by decide +kernel
theorem tf_dl17 : ((tf_c152.drop 425).take 25).all (tf_ck code) = true := by decide +kernel
theorem tf_dl18 : ((tf_c152.drop 450).take 25).all (tf_ck code) = true := by decide +kernel
theorem tf_dl19 : ((tf_c152.drop 475).take 25).all (tf_ck code) = true := by decide +kernel
theorem tf_dl20 : ((tf_c152.drop 500).take 25).all (tf_ck code) = true := by decide +kernel
theorem tf_dl21 : ((tf_c152.drop 525).take 25).all (tf_ck code) = true := by decide +kernel
theorem tf_dl22 : ((tf_c152.drop 550).take 25).all (tf_ck code) = true := by decide +kernel
theorem tf_dl23 : ((tf_c152.drop 575).take 25).all (tf_ck code) = true := by decide +kernel
theorem tf_dl24 : ((tf_c152.drop 600).take 25).all (tf_ck code) = true := by decide +kernel
theorem tf_dl25 : ((tf_c152.drop 625).take 25).all (tf_ck code) = true := by decide +kernel
theorem tf_dl26 : ((tf_c152.drop 650).take 25).all (tf_ck code) = true := by decide +kernel
theorem tf_dl27 : ((tf_c152.drop 675).take 25).all (tf_ck code) = true := by decide +kernel
theorem tf_dl28 : ((tf_c152.drop 700).take 25).all (tf_ck code) = true := by decide +kernel
theorem tf_dl29 : ((tf_c152.drop 725).take 25).all (tf_ck code) = true := by decide +kernel
theorem tf_dl30 : ((tf_c152.drop 750).take 25).all (tf_ck code) = true := by decide +kernel
theorem tf_dlen : tf_c152.length = 755 := by decide +kernel
theorem tf_d152 : tf_c152.all (tf_ck code) = true := by
  rw [List.all_eq_true]
  intro x hx
  obtain ⟨i, hi⟩ := List.getElem?_of_mem hx
  have hl : i < 755 := by
    have h := (List.getElem?_eq_some_iff.mp hi).1
    rw [tf_dlen] at h
    exact h
  have key : ∀ y : Nat, y < 31 → ((tf_c152.drop (25 * y)).take 25).all (tf_ck code) = true := by
    intro y hy
    by_cases h0_31 : y < 15
    · skip
      by_cases h0_15 : y < 7
      · skip
        by_cases h0_7 : y < 3
        · skip
          by_cases h0_3 : y < 1
          · skip
            have e : y = 0 := by omega
            subst e
            exact tf_dl0
          · skip
            by_cases h1_3 : y < 2
            · skip
              have e : y = 1 := by omega
              subst e
              exact tf_dl1
            · skip
              have e : y = 2 := by omega
              subst e
              exact tf_dl2
        · skip
          by_cases h3_7 : y < 5
          · skip
            by_cases h3_5 : y < 4
            · skip
              have e : y = 3 := by omega
              subst e
              exact tf_dl3
            · skip
              have e : y = 4 := by omega
              subst e
              exact tf_dl4
          · skip
            by_cases h5_7 : y < 6
            · skip
              have e : y = 5 := by omega
              subst e
              exact tf_dl5
            · skip
              have e : y = 6 := by omega
              subst e
              exact tf_dl6
      · skip
        by_cases h7_15 : y < 11
        · skip
          by_cases h7_11 : y < 9
          · skip
            by_cases h7_9 : y < 8
            · skip
              have e : y = 7 := by omega
              subst e
              exact tf_dl7
            · skip
              have e : y = 8 := by omega
              subst e
              exact tf_dl8
          · skip
            by_cases h9_11 : y < 10
            · skip
              have e : y = 9 := by omega
              subst e
              exact tf_dl9
            · skip
              have e : y = 10 := by omega
              subst e
              exact tf_dl10
        · skip
          by_cases h11_15 : y < 13
          · skip
            by_cases h11_13 : y < 12
            · skip
              have e : y = 11 := by omega
              subst e
              exact tf_dl11
            · skip
              have e : y = 12 := by omega
              subst e
              exact tf_dl12
          · skip
            by_cases h13_15 : y < 14
            · skip
              have e : y = 13 := by omega
              subst e
              exact tf_dl13
            · skip
              have e : y = 14 := by omega
              subst e
              exact tf_dl14
    · skip
      by_cases h15_31 : y < 23
      · skip
        by_cases h15_23 : y < 19
        · skip
          by_cases h15_19 : y < 17
          · skip
            by_cases h15_17 : y < 16
            · skip
              have e : y = 15 := by omega
              subst e
              exact tf_dl15
            · skip
              have e : y = 16 := by omega
              subst e
              exact tf_dl16
          · skip
            by_cases h17_19 : y < 18
            · skip
              have e : y = 17 := by omega
              subst e
              exact tf_dl17
            · skip
              have e : y = 18 := by omega
              subst e
              exact tf_dl18
        · skip
          by_cases h19_23 : y < 21
          · skip
            by_cases h19_21 : y < 20
            · skip
              have e : y = 19 := by omega
              subst e
              exact tf_dl19
            · skip
              have e : y = 20 := by omega
              subst e
              exact tf_dl20
          · skip
            by_cases h21_23 : y < 22
            · skip
              have e : y = 21 := by omega
              subst e
              exact tf_dl21
            · skip
              have e : y = 22 := by omega
              subst e
              exact tf_dl22
      · skip
        by_cases h23_31 : y < 27
        · skip
          by_cases h23_27 : y < 25
          · skip
            by_cases h23_25 : y < 24
            · skip
              have e : y = 23 := by omega
              subst e
              exact tf_dl23
            · skip
              have e : y = 24 := by omega
              subst e
              exact tf_dl24
          · skip
            by_cases h25_27 : y < 26
            · skip
              have e : y = 25 := by omega
              subst e
              exact tf_dl25
            · skip
              have e : y = 26 := by omega
              subst e
              exact tf_dl26
        · skip
          by_cases h27_31 : y < 29
          · skip
            by_cases h27_29 : y < 28
            · skip
              have e : y = 27 := by omega
              subst e
              exact tf_dl27
            · skip
              have e : y = 28 := by omega
              subst e
              exact tf_dl28
          · skip
            by_cases h29_31 : y < 30
            · skip
              have e : y = 29 := by omega
              subst e
              exact tf_dl29
            · skip
              have e : y = 30 := by omega
              subst e
              exact tf_dl30
  refine List.all_eq_true.mp (key (i / 25) (by omega)) x (List.mem_of_getElem? (i := i % 25) ?_)
  rw [List.getElem?_take_of_lt (by omega), List.getElem?_drop, show 25 * (i / 25) + i % 25 = i by omega]
  exact hi
