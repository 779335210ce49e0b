-- printed by wip/whole/tool/emit3.py
-- 0: X_variable()I
set_option maxRecDepth 8000 in
theorem vc_0 {l : Launch} {Post : tf_Out → tf_Sto → Prop} {G : tf_Sto} (h : (0 + 1 ≤ 1 ∧ 0 + 6 ≤ 6) ∧ tf_RUN l 19 [tf_r 0] G (fun o1 G2 => (o1 = .inl none ∧ (tf_RUN l 25 [tf_r 1, tf_i (-1), tf_i 0, tf_i 0, tf_i 0] G2 (fun o4 G5 => ∃ r6 : Int, o4 = .inl (some (tf_i r6)) ∧ (tf_RUN l 18 [tf_r 0, tf_i r6] G5 (fun o7 G8 => ∃ r9 : Int, o7 = .inl (some (tf_i r9)) ∧ (Post (.inl (some (tf_i r9))) G8)))))) ∨ (o1 = .inr 0 ∧ (Post (.inr 0) G2)) ∨ (o1 = .inr 1 ∧ (Post (.inr 1) G2)) ∨ (o1 = .inr 2 ∧ (Post (.inr 2) G2)))) : tf_RUN l 0 [tf_r 0] G Post :=
  tf_run rfl rfl (tf_vc_ok (cuts := []) (f := 17) h)
-- 1: X_sign(IIIII)I
set_option maxRecDepth 8000 in
theorem vc_1 {l : Launch} {Post : tf_Out → tf_Sto → Prop} {G : tf_Sto} {v1 v2 v3 v4 v5 : Int} (h : (v1 < 0 → ((0 + 1 ≤ 5 ∧ 0 + 6 ≤ 30) ∧ Post (.inr 0) G)) ∧ (0 ≤ v1 → ((v1 < (16 : Int) → ((v2 < 0 → ((0 + 1 ≤ 5 ∧ 0 + 6 ≤ 30) ∧ Post (.inr 0) G)) ∧ (0 ≤ v2 → ((v2 ≤ (3 : Int) → ((v2 ≤ 0 → ((v2 ≤ (1 : Int) → ((v2 ≤ (2 : Int) → ((0 + 1 ≤ 5 ∧ 0 + 6 ≤ 30) ∧ tf_RUN l 19 [tf_r 0] G (fun o1 G2 => (o1 = .inl none ∧ (tf_RUN l 22 [tf_i v1, tf_i v2] G2 (fun o4 G5 => ∃ r6 : Int, o4 = .inl (some (tf_i r6)) ∧ (tf_RUN l 25 [tf_r 1, tf_i r6, tf_i v3, tf_i v4, tf_i v5] G5 (fun o7 G8 => ∃ r9 : Int, o7 = .inl (some (tf_i r9)) ∧ (tf_RUN l 18 [tf_r 0, tf_i r9] G8 (fun o10 G11 => ∃ r12 : Int, o10 = .inl (some (tf_i r12)) ∧ (Post (.inl (some (tf_i r12))) G11)))))))) ∨ (o1 = .inr 0 ∧ (Post (.inr 0) G2)) ∨ (o1 = .inr 1 ∧ (Post (.inr 1) G2)) ∨ (o1 = .inr 2 ∧ (Post (.inr 2) G2))))) ∧ ((2 : Int) < v2 → ((0 + 1 ≤ 5 ∧ 0 + 6 ≤ 30) ∧ tf_RUN l 20 [tf_r 0, tf_i v5] G (fun o13 G14 => (o13 = .inl none ∧ ((0 + 1 + 1 ≤ 5 ∧ 0 + 6 + 6 ≤ 30) ∧ tf_RUN l 19 [tf_r 0] G14 (fun o16 G17 => (o16 = .inl none ∧ (tf_RUN l 22 [tf_i v1, tf_i v2] G17 (fun o19 G20 => ∃ r21 : Int, o19 = .inl (some (tf_i r21)) ∧ (tf_RUN l 25 [tf_r 1, tf_i r21, tf_i v3, tf_i v4, tf_i v5] G20 (fun o22 G23 => ∃ r24 : Int, o22 = .inl (some (tf_i r24)) ∧ (tf_RUN l 18 [tf_r 0, tf_i r24] G23 (fun o25 G26 => ∃ r27 : Int, o25 = .inl (some (tf_i r27)) ∧ (Post (.inl (some (tf_i r27))) G26)))))))) ∨ (o16 = .inr 0 ∧ (Post (.inr 0) G17)) ∨ (o16 = .inr 1 ∧ (Post (.inr 1) G17)) ∨ (o16 = .inr 2 ∧ (Post (.inr 2) G17))))) ∨ (o13 = .inr 0 ∧ (Post (.inr 0) G14)) ∨ (o13 = .inr 1 ∧ (Post (.inr 1) G14)) ∨ (o13 = .inr 2 ∧ (Post (.inr 2) G14))))))) ∧ ((1 : Int) < v2 → ((0 + 1 ≤ 5 ∧ 0 + 6 ≤ 30) ∧ tf_RUN l 20 [tf_r 0, tf_i v4] G (fun o28 G29 => (o28 = .inl none ∧ ((v2 ≤ (2 : Int) → ((0 + 1 + 1 ≤ 5 ∧ 0 + 6 + 6 ≤ 30) ∧ tf_RUN l 19 [tf_r 0] G29 (fun o31 G32 => (o31 = .inl none ∧ (tf_RUN l 22 [tf_i v1, tf_i v2] G32 (fun o34 G35 => ∃ r36 : Int, o34 = .inl (some (tf_i r36)) ∧ (tf_RUN l 25 [tf_r 1, tf_i r36, tf_i v3, tf_i v4, tf_i v5] G35 (fun o37 G38 => ∃ r39 : Int, o37 = .inl (some (tf_i r39)) ∧ (tf_RUN l 18 [tf_r 0, tf_i r39] G38 (fun o40 G41 => ∃ r42 : Int, o40 = .inl (some (tf_i r42)) ∧ (Post (.inl (some (tf_i r42))) G41)))))))) ∨ (o31 = .inr 0 ∧ (Post (.inr 0) G32)) ∨ (o31 = .inr 1 ∧ (Post (.inr 1) G32)) ∨ (o31 = .inr 2 ∧ (Post (.inr 2) G32))))) ∧ ((2 : Int) < v2 → ((0 + 1 + 1 ≤ 5 ∧ 0 + 6 + 6 ≤ 30) ∧ tf_RUN l 20 [tf_r 0, tf_i v5] G29 (fun o43 G44 => (o43 = .inl none ∧ ((0 + 1 + 1 + 1 ≤ 5 ∧ 0 + 6 + 6 + 6 ≤ 30) ∧ tf_RUN l 19 [tf_r 0] G44 (fun o46 G47 => (o46 = .inl none ∧ (tf_RUN l 22 [tf_i v1, tf_i v2] G47 (fun o49 G50 => ∃ r51 : Int, o49 = .inl (some (tf_i r51)) ∧ (tf_RUN l 25 [tf_r 1, tf_i r51, tf_i v3, tf_i v4, tf_i v5] G50 (fun o52 G53 => ∃ r54 : Int, o52 = .inl (some (tf_i r54)) ∧ (tf_RUN l 18 [tf_r 0, tf_i r54] G53 (fun o55 G56 => ∃ r57 : Int, o55 = .inl (some (tf_i r57)) ∧ (Post (.inl (some (tf_i r57))) G56)))))))) ∨ (o46 = .inr 0 ∧ (Post (.inr 0) G47)) ∨ (o46 = .inr 1 ∧ (Post (.inr 1) G47)) ∨ (o46 = .inr 2 ∧ (Post (.inr 2) G47))))) ∨ (o43 = .inr 0 ∧ (Post (.inr 0) G44)) ∨ (o43 = .inr 1 ∧ (Post (.inr 1) G44)) ∨ (o43 = .inr 2 ∧ (Post (.inr 2) G44))))))) ∨ (o28 = .inr 0 ∧ (Post (.inr 0) G29)) ∨ (o28 = .inr 1 ∧ (Post (.inr 1) G29)) ∨ (o28 = .inr 2 ∧ (Post (.inr 2) G29))))))) ∧ (0 < v2 → ((0 + 1 ≤ 5 ∧ 0 + 6 ≤ 30) ∧ tf_RUN l 20 [tf_r 0, tf_i v3] G (fun o58 G59 => (o58 = .inl none ∧ ((v2 ≤ (1 : Int) → ((v2 ≤ (2 : Int) → ((0 + 1 + 1 ≤ 5 ∧ 0 + 6 + 6 ≤ 30) ∧ tf_RUN l 19 [tf_r 0] G59 (fun o61 G62 => (o61 = .inl none ∧ (tf_RUN l 22 [tf_i v1, tf_i v2] G62 (fun o64 G65 => ∃ r66 : Int, o64 = .inl (some (tf_i r66)) ∧ (tf_RUN l 25 [tf_r 1, tf_i r66, tf_i v3, tf_i v4, tf_i v5] G65 (fun o67 G68 => ∃ r69 : Int, o67 = .inl (some (tf_i r69)) ∧ (tf_RUN l 18 [tf_r 0, tf_i r69] G68 (fun o70 G71 => ∃ r72 : Int, o70 = .inl (some (tf_i r72)) ∧ (Post (.inl (some (tf_i r72))) G71)))))))) ∨ (o61 = .inr 0 ∧ (Post (.inr 0) G62)) ∨ (o61 = .inr 1 ∧ (Post (.inr 1) G62)) ∨ (o61 = .inr 2 ∧ (Post (.inr 2) G62))))) ∧ ((2 : Int) < v2 → ((0 + 1 + 1 ≤ 5 ∧ 0 + 6 + 6 ≤ 30) ∧ tf_RUN l 20 [tf_r 0, tf_i v5] G59 (fun o73 G74 => (o73 = .inl none ∧ ((0 + 1 + 1 + 1 ≤ 5 ∧ 0 + 6 + 6 + 6 ≤ 30) ∧ tf_RUN l 19 [tf_r 0] G74 (fun o76 G77 => (o76 = .inl none ∧ (tf_RUN l 22 [tf_i v1, tf_i v2] G77 (fun o79 G80 => ∃ r81 : Int, o79 = .inl (some (tf_i r81)) ∧ (tf_RUN l 25 [tf_r 1, tf_i r81, tf_i v3, tf_i v4, tf_i v5] G80 (fun o82 G83 => ∃ r84 : Int, o82 = .inl (some (tf_i r84)) ∧ (tf_RUN l 18 [tf_r 0, tf_i r84] G83 (fun o85 G86 => ∃ r87 : Int, o85 = .inl (some (tf_i r87)) ∧ (Post (.inl (some (tf_i r87))) G86)))))))) ∨ (o76 = .inr 0 ∧ (Post (.inr 0) G77)) ∨ (o76 = .inr 1 ∧ (Post (.inr 1) G77)) ∨ (o76 = .inr 2 ∧ (Post (.inr 2) G77))))) ∨ (o73 = .inr 0 ∧ (Post (.inr 0) G74)) ∨ (o73 = .inr 1 ∧ (Post (.inr 1) G74)) ∨ (o73 = .inr 2 ∧ (Post (.inr 2) G74))))))) ∧ ((1 : Int) < v2 → ((0 + 1 + 1 ≤ 5 ∧ 0 + 6 + 6 ≤ 30) ∧ tf_RUN l 20 [tf_r 0, tf_i v4] G59 (fun o88 G89 => (o88 = .inl none ∧ ((v2 ≤ (2 : Int) → ((0 + 1 + 1 + 1 ≤ 5 ∧ 0 + 6 + 6 + 6 ≤ 30) ∧ tf_RUN l 19 [tf_r 0] G89 (fun o91 G92 => (o91 = .inl none ∧ (tf_RUN l 22 [tf_i v1, tf_i v2] G92 (fun o94 G95 => ∃ r96 : Int, o94 = .inl (some (tf_i r96)) ∧ (tf_RUN l 25 [tf_r 1, tf_i r96, tf_i v3, tf_i v4, tf_i v5] G95 (fun o97 G98 => ∃ r99 : Int, o97 = .inl (some (tf_i r99)) ∧ (tf_RUN l 18 [tf_r 0, tf_i r99] G98 (fun o100 G101 => ∃ r102 : Int, o100 = .inl (some (tf_i r102)) ∧ (Post (.inl (some (tf_i r102))) G101)))))))) ∨ (o91 = .inr 0 ∧ (Post (.inr 0) G92)) ∨ (o91 = .inr 1 ∧ (Post (.inr 1) G92)) ∨ (o91 = .inr 2 ∧ (Post (.inr 2) G92))))) ∧ ((2 : Int) < v2 → ((0 + 1 + 1 + 1 ≤ 5 ∧ 0 + 6 + 6 + 6 ≤ 30) ∧ tf_RUN l 20 [tf_r 0, tf_i v5] G89 (fun o103 G104 => (o103 = .inl none ∧ ((0 + 1 + 1 + 1 + 1 ≤ 5 ∧ 0 + 6 + 6 + 6 + 6 ≤ 30) ∧ tf_RUN l 19 [tf_r 0] G104 (fun o106 G107 => (o106 = .inl none ∧ (tf_RUN l 22 [tf_i v1, tf_i v2] G107 (fun o109 G110 => ∃ r111 : Int, o109 = .inl (some (tf_i r111)) ∧ (tf_RUN l 25 [tf_r 1, tf_i r111, tf_i v3, tf_i v4, tf_i v5] G110 (fun o112 G113 => ∃ r114 : Int, o112 = .inl (some (tf_i r114)) ∧ (tf_RUN l 18 [tf_r 0, tf_i r114] G113 (fun o115 G116 => ∃ r117 : Int, o115 = .inl (some (tf_i r117)) ∧ (Post (.inl (some (tf_i r117))) G116)))))))) ∨ (o106 = .inr 0 ∧ (Post (.inr 0) G107)) ∨ (o106 = .inr 1 ∧ (Post (.inr 1) G107)) ∨ (o106 = .inr 2 ∧ (Post (.inr 2) G107))))) ∨ (o103 = .inr 0 ∧ (Post (.inr 0) G104)) ∨ (o103 = .inr 1 ∧ (Post (.inr 1) G104)) ∨ (o103 = .inr 2 ∧ (Post (.inr 2) G104))))))) ∨ (o88 = .inr 0 ∧ (Post (.inr 0) G89)) ∨ (o88 = .inr 1 ∧ (Post (.inr 1) G89)) ∨ (o88 = .inr 2 ∧ (Post (.inr 2) G89))))))) ∨ (o58 = .inr 0 ∧ (Post (.inr 0) G59)) ∨ (o58 = .inr 1 ∧ (Post (.inr 1) G59)) ∨ (o58 = .inr 2 ∧ (Post (.inr 2) G59))))))) ∧ ((3 : Int) < v2 → ((0 + 1 ≤ 5 ∧ 0 + 6 ≤ 30) ∧ Post (.inr 0) G)))))) ∧ ((16 : Int) ≤ v1 → ((0 + 1 ≤ 5 ∧ 0 + 6 ≤ 30) ∧ Post (.inr 0) G))))) : tf_RUN l 1 [tf_r 0, tf_i v1, tf_i v2, tf_i v3, tf_i v4, tf_i v5] G Post :=
  tf_run rfl rfl (tf_vc_ok (cuts := []) (f := 56) h)
-- 2: X_join(II)Z
set_option maxRecDepth 8000 in
theorem vc_2 {l : Launch} {Post : tf_Out → tf_Sto → Prop} {G : tf_Sto} {v1 v2 : Int} (h : (0 + 2 ≤ 2 ∧ 0 + 12 ≤ 12) ∧ tf_RUN l 21 [tf_r 0, tf_i v1, tf_i v2] G (fun o1 G2 => (o1 = .inl none ∧ (tf_RUN l 30 [tf_r 4, tf_i v1, tf_i v2] G2 (fun o4 G5 => ∃ r6 : Int, o4 = .inl (some (tf_i r6)) ∧ ((r6 ≠ 0 → ((-2147483648 ≤ (G5 0 9) + 1 ∧ (G5 0 9) + 1 ≤ 2147483647) ∧ (((G5 4 0) ≤ (G2 4 0) → (((1 : Int) = 0 ∨ (1 : Int) = 1) ∧ Post (.inl (some (tf_i 1))) (tf_up G5 0 9 ((G5 0 9) + 1)))) ∧ ((G2 4 0) < (G5 4 0) → (tf_RUN l 50 [tf_r 24] (tf_up G5 0 9 ((G5 0 9) + 1)) (fun o7 G8 => o7 = .inl none ∧ (((1 : Int) = 0 ∨ (1 : Int) = 1) ∧ Post (.inl (some (tf_i 1))) G8))))))) ∧ (r6 = 0 → (tf_RUN l 31 [tf_r 4, tf_i (G2 4 0)] G5 (fun o10 G11 => o10 = .inl none ∧ (((0 : Int) = 0 ∨ (0 : Int) = 1) ∧ Post (.inl (some (tf_i 0))) G11)))))))) ∨ (o1 = .inr 0 ∧ (Post (.inr 0) G2)) ∨ (o1 = .inr 1 ∧ (Post (.inr 1) G2)) ∨ (o1 = .inr 2 ∧ (Post (.inr 2) G2)))) : tf_RUN l 2 [tf_r 0, tf_i v1, tf_i v2] G Post :=
  tf_run rfl rfl (tf_vc_ok (cuts := []) (f := 41) h)
-- 3: X_could(II)Z
set_option maxRecDepth 8000 in
theorem vc_3 {l : Launch} {Post : tf_Out → tf_Sto → Prop} {G : tf_Sto} {v1 v2 : Int} (h : (0 + 2 ≤ 2 ∧ 0 + 12 ≤ 12) ∧ tf_RUN l 21 [tf_r 0, tf_i v1, tf_i v2] G (fun o1 G2 => (o1 = .inl none ∧ (tf_RUN l 30 [tf_r 4, tf_i v1, tf_i v2] G2 (fun o4 G5 => ∃ r6 : Int, o4 = .inl (some (tf_i r6)) ∧ (tf_RUN l 31 [tf_r 4, tf_i (G2 4 0)] G5 (fun o7 G8 => o7 = .inl none ∧ ((r6 = 0 ∨ r6 = 1) ∧ Post (.inl (some (tf_i r6))) G8)))))) ∨ (o1 = .inr 0 ∧ (Post (.inr 0) G2)) ∨ (o1 = .inr 1 ∧ (Post (.inr 1) G2)) ∨ (o1 = .inr 2 ∧ (Post (.inr 2) G2)))) : tf_RUN l 3 [tf_r 0, tf_i v1, tf_i v2] G Post :=
  tf_run rfl rfl (tf_vc_ok (cuts := []) (f := 25) h)
-- 4: X_mark()I
set_option maxRecDepth 8000 in
theorem vc_4 {l : Launch} {Post : tf_Out → tf_Sto → Prop} {G : tf_Sto} (h : ((G 11 0) < (20 : Int) → (tf_RUN l 36 [tf_r 11, tf_i (G 1 0), tf_i (G 0 9), tf_i (G 4 0)] G (fun o1 G2 => o1 = .inl none ∧ (Post (.inl (some (tf_i (G2 11 0)))) G2)))) ∧ ((20 : Int) ≤ (G 11 0) → ((0 + 1 ≤ 1 ∧ 0 + 6 ≤ 6) ∧ Post (.inr 1) G))) : tf_RUN l 4 [tf_r 0] G Post :=
  tf_run rfl rfl (tf_vc_ok (cuts := []) (f := 30) h)
-- 5: X_undo()I
set_option maxRecDepth 8000 in
theorem vc_5 {l : Launch} {Post : tf_Out → tf_Sto → Prop} {G : tf_Sto} (h : (0 < (G 11 0) → (tf_RUN l 37 [tf_r 11] G (fun o1 G2 => o1 = .inl none ∧ (tf_RUN l 39 [tf_r 11] G2 (fun o4 G5 => ∃ r6 : Int, o4 = .inl (some (tf_i r6)) ∧ ((-2147483648 ≤ (G2 0 9) - r6 ∧ (G2 0 9) - r6 ≤ 2147483647) ∧ (tf_RUN l 39 [tf_r 11] G5 (fun o7 G8 => ∃ r9 : Int, o7 = .inl (some (tf_i r9)) ∧ (tf_RUN l 40 [tf_r 11] (tf_up G8 0 9 r9) (fun o10 G11 => ∃ r12 : Int, o10 = .inl (some (tf_i r12)) ∧ (tf_RUN l 31 [tf_r 4, tf_i r12] G11 (fun o13 G14 => o13 = .inl none ∧ (tf_RUN l 38 [tf_r 11] G14 (fun o16 G17 => ∃ r18 : Int, o16 = .inl (some (tf_i r18)) ∧ (tf_RUN l 50 [tf_r 24] (tf_up G17 1 0 r18) (fun o19 G20 => o19 = .inl none ∧ (Post (.inl (some (tf_i ((G2 0 9) - r6)))) G20))))))))))))))))) ∧ ((G 11 0) ≤ 0 → ((0 + 1 ≤ 1 ∧ 0 + 6 ≤ 6) ∧ Post (.inr 1) G))) : tf_RUN l 5 [tf_r 0] G Post :=
  tf_run rfl rfl (tf_vc_ok (cuts := []) (f := 46) h)
-- 6: X_same(II)Z
set_option maxRecDepth 8000 in
theorem vc_6 {l : Launch} {Post : tf_Out → tf_Sto → Prop} {G : tf_Sto} {v1 v2 : Int} (h : (0 + 2 ≤ 2 ∧ 0 + 12 ≤ 12) ∧ tf_RUN l 21 [tf_r 0, tf_i v1, tf_i v2] G (fun o1 G2 => (o1 = .inl none ∧ (tf_RUN l 51 [tf_r 24, tf_i v1] G2 (fun o4 G5 => ∃ r6 : Int, o4 = .inl (some (tf_i r6)) ∧ (tf_RUN l 51 [tf_r 24, tf_i v2] G5 (fun o7 G8 => ∃ r9 : Int, o7 = .inl (some (tf_i r9)) ∧ ((r6 ≠ r9 → (((0 : Int) = 0 ∨ (0 : Int) = 1) ∧ Post (.inl (some (tf_i 0))) G8)) ∧ (r6 = r9 → (((1 : Int) = 0 ∨ (1 : Int) = 1) ∧ Post (.inl (some (tf_i 1))) G8)))))))) ∨ (o1 = .inr 0 ∧ (Post (.inr 0) G2)) ∨ (o1 = .inr 1 ∧ (Post (.inr 1) G2)) ∨ (o1 = .inr 2 ∧ (Post (.inr 2) G2)))) : tf_RUN l 6 [tf_r 0, tf_i v1, tf_i v2] G Post :=
  tf_run rfl rfl (tf_vc_ok (cuts := []) (f := 22) h)
-- 7: X_isFinite(I)Z
set_option maxRecDepth 8000 in
theorem vc_7 {l : Launch} {Post : tf_Out → tf_Sto → Prop} {G : tf_Sto} {v1 : Int} (h : (0 + 1 ≤ 1 ∧ 0 + 6 ≤ 6) ∧ tf_RUN l 20 [tf_r 0, tf_i v1] G (fun o1 G2 => (o1 = .inl none ∧ (tf_RUN l 51 [tf_r 24, tf_i v1] G2 (fun o4 G5 => ∃ r6 : Int, o4 = .inl (some (tf_i r6)) ∧ (tf_RUN l 42 [tf_r 15, tf_i r6] G5 (fun o7 G8 => ∃ r9 : Int, o7 = .inl (some (tf_i r9)) ∧ ((r9 = 0 ∨ r9 = 1) ∧ Post (.inl (some (tf_i r9))) G8)))))) ∨ (o1 = .inr 0 ∧ (Post (.inr 0) G2)) ∨ (o1 = .inr 1 ∧ (Post (.inr 1) G2)) ∨ (o1 = .inr 2 ∧ (Post (.inr 2) G2)))) : tf_RUN l 7 [tf_r 0, tf_i v1] G Post :=
  tf_run rfl rfl (tf_vc_ok (cuts := []) (f := 16) h)
-- 8: X_size(I)J
set_option maxRecDepth 8000 in
theorem vc_8 {l : Launch} {Post : tf_Out → tf_Sto → Prop} {G : tf_Sto} {v1 : Int} (h : (0 + 1 ≤ 1 ∧ 0 + 6 ≤ 6) ∧ tf_RUN l 20 [tf_r 0, tf_i v1] G (fun o1 G2 => (o1 = .inl none ∧ (tf_RUN l 51 [tf_r 24, tf_i v1] G2 (fun o4 G5 => ∃ r6 : Int, o4 = .inl (some (tf_i r6)) ∧ (tf_RUN l 42 [tf_r 15, tf_i r6] G5 (fun o7 G8 => ∃ r9 : Int, o7 = .inl (some (tf_i r9)) ∧ ((r9 = 0 → (Post (.inl (some (tf_l (-1)))) G8)) ∧ (r9 ≠ 0 → ((0 ≤ r6 ∧ r6 < 300) ∧ (Post (.inl (some (tf_l (G8 18 r6)))) G8))))))))) ∨ (o1 = .inr 0 ∧ (Post (.inr 0) G2)) ∨ (o1 = .inr 1 ∧ (Post (.inr 1) G2)) ∨ (o1 = .inr 2 ∧ (Post (.inr 2) G2)))) : tf_RUN l 8 [tf_r 0, tf_i v1] G Post :=
  tf_run rfl rfl (tf_vc_ok (cuts := []) (f := 26) h)
-- 9: X_depth(I)I
set_option maxRecDepth 8000 in
theorem vc_9 {l : Launch} {Post : tf_Out → tf_Sto → Prop} {G : tf_Sto} {v1 : Int} (h : (0 + 1 ≤ 1 ∧ 0 + 6 ≤ 6) ∧ tf_RUN l 20 [tf_r 0, tf_i v1] G (fun o1 G2 => (o1 = .inl none ∧ (tf_RUN l 51 [tf_r 24, tf_i v1] G2 (fun o4 G5 => ∃ r6 : Int, o4 = .inl (some (tf_i r6)) ∧ (tf_RUN l 42 [tf_r 15, tf_i r6] G5 (fun o7 G8 => ∃ r9 : Int, o7 = .inl (some (tf_i r9)) ∧ ((r9 = 0 → (Post (.inl (some (tf_i (-1)))) G8)) ∧ (r9 ≠ 0 → ((0 ≤ r6 ∧ r6 < 300) ∧ (Post (.inl (some (tf_i (G8 19 r6)))) G8))))))))) ∨ (o1 = .inr 0 ∧ (Post (.inr 0) G2)) ∨ (o1 = .inr 1 ∧ (Post (.inr 1) G2)) ∨ (o1 = .inr 2 ∧ (Post (.inr 2) G2)))) : tf_RUN l 9 [tf_r 0, tf_i v1] G Post :=
  tf_run rfl rfl (tf_vc_ok (cuts := []) (f := 26) h)
-- 10: X_variables(I)I
set_option maxRecDepth 8000 in
theorem vc_10 {l : Launch} {Post : tf_Out → tf_Sto → Prop} {G : tf_Sto} {v1 : Int} (h : (0 + 1 ≤ 1 ∧ 0 + 6 ≤ 6) ∧ tf_RUN l 20 [tf_r 0, tf_i v1] G (fun o1 G2 => (o1 = .inl none ∧ (tf_RUN l 51 [tf_r 24, tf_i v1] G2 (fun o4 G5 => ∃ r6 : Int, o4 = .inl (some (tf_i r6)) ∧ (tf_RUN l 62 [tf_r 29, tf_i r6] G5 (fun o7 G8 => o7 = .inl none ∧ (tf_RUN l 63 [tf_r 29] G8 (fun o10 G11 => ∃ r12 : Int, o10 = .inl (some (tf_i r12)) ∧ (Post (.inl (some (tf_i r12))) G11)))))))) ∨ (o1 = .inr 0 ∧ (Post (.inr 0) G2)) ∨ (o1 = .inr 1 ∧ (Post (.inr 1) G2)) ∨ (o1 = .inr 2 ∧ (Post (.inr 2) G2)))) : tf_RUN l 10 [tf_r 0, tf_i v1] G Post :=
  tf_run rfl rfl (tf_vc_ok (cuts := []) (f := 19) h)
-- 11: X_parts(I)I
set_option maxRecDepth 8000 in
theorem vc_11 {l : Launch} {Post : tf_Out → tf_Sto → Prop} {G : tf_Sto} {v1 : Int} (h : (0 + 1 ≤ 1 ∧ 0 + 6 ≤ 6) ∧ tf_RUN l 20 [tf_r 0, tf_i v1] G (fun o1 G2 => (o1 = .inl none ∧ (tf_RUN l 51 [tf_r 24, tf_i v1] G2 (fun o4 G5 => ∃ r6 : Int, o4 = .inl (some (tf_i r6)) ∧ (tf_RUN l 62 [tf_r 29, tf_i r6] G5 (fun o7 G8 => o7 = .inl none ∧ (Post (.inl (some (tf_i (G8 29 0)))) G8)))))) ∨ (o1 = .inr 0 ∧ (Post (.inr 0) G2)) ∨ (o1 = .inr 1 ∧ (Post (.inr 1) G2)) ∨ (o1 = .inr 2 ∧ (Post (.inr 2) G2)))) : tf_RUN l 11 [tf_r 0, tf_i v1] G Post :=
  tf_run rfl rfl (tf_vc_ok (cuts := []) (f := 19) h)
-- 12: X_instance(II)Z
set_option maxRecDepth 8000 in
theorem vc_12 {l : Launch} {Post : tf_Out → tf_Sto → Prop} {G : tf_Sto} {v1 v2 : Int} (h : (0 + 2 ≤ 2 ∧ 0 + 12 ≤ 12) ∧ tf_RUN l 21 [tf_r 0, tf_i v1, tf_i v2] G (fun o1 G2 => (o1 = .inl none ∧ (tf_RUN l 51 [tf_r 24, tf_i v1] G2 (fun o4 G5 => ∃ r6 : Int, o4 = .inl (some (tf_i r6)) ∧ (tf_RUN l 51 [tf_r 24, tf_i v2] G5 (fun o7 G8 => ∃ r9 : Int, o7 = .inl (some (tf_i r9)) ∧ (tf_RUN l 65 [tf_r 32, tf_i r6, tf_i r9] G8 (fun o10 G11 => ∃ r12 : Int, o10 = .inl (some (tf_i r12)) ∧ ((r12 = 0 ∨ r12 = 1) ∧ Post (.inl (some (tf_i r12))) G11)))))))) ∨ (o1 = .inr 0 ∧ (Post (.inr 0) G2)) ∨ (o1 = .inr 1 ∧ (Post (.inr 1) G2)) ∨ (o1 = .inr 2 ∧ (Post (.inr 2) G2)))) : tf_RUN l 12 [tf_r 0, tf_i v1, tf_i v2] G Post :=
  tf_run rfl rfl (tf_vc_ok (cuts := []) (f := 21) h)
-- 13: X_variant(II)Z
set_option maxRecDepth 8000 in
theorem vc_13 {l : Launch} {Post : tf_Out → tf_Sto → Prop} {G : tf_Sto} {v1 v2 : Int} (h : (0 + 2 ≤ 2 ∧ 0 + 12 ≤ 12) ∧ tf_RUN l 21 [tf_r 0, tf_i v1, tf_i v2] G (fun o1 G2 => (o1 = .inl none ∧ (tf_RUN l 51 [tf_r 24, tf_i v1] G2 (fun o4 G5 => ∃ r6 : Int, o4 = .inl (some (tf_i r6)) ∧ (tf_RUN l 51 [tf_r 24, tf_i v2] G5 (fun o7 G8 => ∃ r9 : Int, o7 = .inl (some (tf_i r9)) ∧ (tf_RUN l 65 [tf_r 32, tf_i r6, tf_i r9] G8 (fun o10 G11 => ∃ r12 : Int, o10 = .inl (some (tf_i r12)) ∧ ((r12 = 0 → (((0 : Int) = 0 ∨ (0 : Int) = 1) ∧ Post (.inl (some (tf_i 0))) G11)) ∧ (r12 ≠ 0 → (tf_RUN l 65 [tf_r 32, tf_i r9, tf_i r6] G11 (fun o13 G14 => ∃ r15 : Int, o13 = .inl (some (tf_i r15)) ∧ ((r15 = 0 → (((0 : Int) = 0 ∨ (0 : Int) = 1) ∧ Post (.inl (some (tf_i 0))) G14)) ∧ (r15 ≠ 0 → (((1 : Int) = 0 ∨ (1 : Int) = 1) ∧ Post (.inl (some (tf_i 1))) G14)))))))))))))) ∨ (o1 = .inr 0 ∧ (Post (.inr 0) G2)) ∨ (o1 = .inr 1 ∧ (Post (.inr 1) G2)) ∨ (o1 = .inr 2 ∧ (Post (.inr 2) G2)))) : tf_RUN l 13 [tf_r 0, tf_i v1, tf_i v2] G Post :=
  tf_run rfl rfl (tf_vc_ok (cuts := []) (f := 35) h)
-- 14: X_common(III)I
set_option maxRecDepth 8000 in
theorem vc_14 {l : Launch} {Post : tf_Out → tf_Sto → Prop} {G : tf_Sto} {v1 v2 v3 : Int} (h : (0 + 2 ≤ 3 ∧ 0 + 12 ≤ 18) ∧ tf_RUN l 21 [tf_r 0, tf_i v1, tf_i v2] G (fun o1 G2 => (o1 = .inl none ∧ ((v3 = 0 → (tf_RUN l 51 [tf_r 24, tf_i v1] G2 (fun o4 G5 => ∃ r6 : Int, o4 = .inl (some (tf_i r6)) ∧ (tf_RUN l 51 [tf_r 24, tf_i v2] G5 (fun o7 G8 => ∃ r9 : Int, o7 = .inl (some (tf_i r9)) ∧ (tf_RUN l 68 [tf_r 35, tf_i r6, tf_i r9] G8 (fun o10 G11 => o10 = .inl none ∧ ((v3 ≠ 0 → (Post (.inl (some (tf_i (G11 35 1)))) G11)) ∧ (v3 = 0 → (Post (.inl (some (tf_i (G11 35 0)))) G11)))))))))) ∧ (v3 ≠ 0 → ((v3 = (1 : Int) → (tf_RUN l 51 [tf_r 24, tf_i v1] G2 (fun o13 G14 => ∃ r15 : Int, o13 = .inl (some (tf_i r15)) ∧ (tf_RUN l 51 [tf_r 24, tf_i v2] G14 (fun o16 G17 => ∃ r18 : Int, o16 = .inl (some (tf_i r18)) ∧ (tf_RUN l 68 [tf_r 35, tf_i r15, tf_i r18] G17 (fun o19 G20 => o19 = .inl none ∧ ((v3 ≠ 0 → (Post (.inl (some (tf_i (G20 35 1)))) G20)) ∧ (v3 = 0 → (Post (.inl (some (tf_i (G20 35 0)))) G20)))))))))) ∧ (v3 ≠ (1 : Int) → ((0 + 2 + 1 ≤ 3 ∧ 0 + 12 + 6 ≤ 18) ∧ Post (.inr 0) G2)))))) ∨ (o1 = .inr 0 ∧ (Post (.inr 0) G2)) ∨ (o1 = .inr 1 ∧ (Post (.inr 1) G2)) ∨ (o1 = .inr 2 ∧ (Post (.inr 2) G2)))) : tf_RUN l 14 [tf_r 0, tf_i v1, tf_i v2, tf_i v3] G Post :=
  tf_run rfl rfl (tf_vc_ok (cuts := []) (f := 40) h)
-- 15: X_text(I)I
set_option maxRecDepth 8000 in
theorem vc_15 {l : Launch} {Post : tf_Out → tf_Sto → Prop} {G : tf_Sto} {v1 : Int} (h : (0 + 1 ≤ 1 ∧ 0 + 6 ≤ 6) ∧ tf_RUN l 20 [tf_r 0, tf_i v1] G (fun o1 G2 => (o1 = .inl none ∧ (tf_RUN l 51 [tf_r 24, tf_i v1] G2 (fun o4 G5 => ∃ r6 : Int, o4 = .inl (some (tf_i r6)) ∧ (tf_RUN l 42 [tf_r 15, tf_i r6] G5 (fun o7 G8 => ∃ r9 : Int, o7 = .inl (some (tf_i r9)) ∧ ((r9 = 0 → (Post (.inl (some (tf_i (-1)))) G8)) ∧ (r9 ≠ 0 → (tf_RUN l 71 [tf_r 38, tf_i r6] G8 (fun o10 G11 => ∃ r12 : Int, o10 = .inl (some (tf_i r12)) ∧ ((r12 ≠ 0 → (Post (.inl (some (tf_i (G11 38 0)))) G11)) ∧ (r12 = 0 → (Post (.inl (some (tf_i (-1)))) G11)))))))))))) ∨ (o1 = .inr 0 ∧ (Post (.inr 0) G2)) ∨ (o1 = .inr 1 ∧ (Post (.inr 1) G2)) ∨ (o1 = .inr 2 ∧ (Post (.inr 2) G2)))) : tf_RUN l 15 [tf_r 0, tf_i v1] G Post :=
  tf_run rfl rfl (tf_vc_ok (cuts := []) (f := 29) h)
-- 16: X_out(I)J
set_option maxRecDepth 8000 in
theorem vc_16 {l : Launch} {Post : tf_Out → tf_Sto → Prop} {G : tf_Sto} {v1 : Int} (h : (v1 < 0 → ((0 + 1 ≤ 1 ∧ 0 + 6 ≤ 6) ∧ Post (.inr 2) G)) ∧ (0 ≤ v1 → ((v1 < (G 38 0) → (tf_RUN l 72 [tf_r 38, tf_i v1] G (fun o1 G2 => ∃ r3 : Int, o1 = .inl (some (tf_l r3)) ∧ (Post (.inl (some (tf_l r3))) G2)))) ∧ ((G 38 0) ≤ v1 → ((0 + 1 ≤ 1 ∧ 0 + 6 ≤ 6) ∧ Post (.inr 2) G))))) : tf_RUN l 16 [tf_r 0, tf_i v1] G Post :=
  tf_run rfl rfl (tf_vc_ok (cuts := []) (f := 22) h)
-- 17: X_look(I)I
set_option maxRecDepth 8000 in
theorem vc_17 {l : Launch} {Post : tf_Out → tf_Sto → Prop} {G : tf_Sto} {v1 : Int} (h : (v1 < 0 ∨ 4 < v1 → ((0 + 1 ≤ 1 ∧ 0 + 6 ≤ 6) ∧ Post (.inr 0) G)) ∧ ((v1 = 0 → (Post (.inl (some (tf_i (G 1 0)))) G)) ∧ ((v1 = 1 → (Post (.inl (some (tf_i (G 0 9)))) G)) ∧ ((v1 = 2 → (Post (.inl (some (tf_i (G 11 0)))) G)) ∧ ((v1 = 3 → (tf_RUN l 52 [tf_r 24] G (fun o1 G2 => ∃ r3 : Int, o1 = .inl (some (tf_i r3)) ∧ (Post (.inl (some (tf_i r3))) G2)))) ∧ ((v1 = 4 → (Post (.inl (some (tf_i (G 38 0)))) G)) ∧ True)))))) : tf_RUN l 17 [tf_r 0, tf_i v1] G Post :=
  tf_run rfl rfl (tf_vc_ok (cuts := []) (f := 31) h)
-- 18: X_newTerm(I)I
set_option maxRecDepth 8000 in
theorem vc_18 {l : Launch} {Post : tf_Out → tf_Sto → Prop} {G : tf_Sto} {v1 : Int} (h : tf_RUN l 27 [tf_r 4, tf_i v1] G (fun o1 G2 => o1 = .inl none ∧ (tf_RUN l 50 [tf_r 24] G2 (fun o4 G5 => o4 = .inl none ∧ (Post (.inl (some (tf_i v1))) G5))))) : tf_RUN l 18 [tf_r 0, tf_i v1] G Post :=
  tf_run rfl rfl (tf_vc_ok (cuts := []) (f := 14) h)
-- 19: X_needRoom()V
set_option maxRecDepth 8000 in
theorem vc_19 {l : Launch} {Post : tf_Out → tf_Sto → Prop} {G : tf_Sto} (h : ((G 1 0) < (300 : Int) → (Post (.inl none) G)) ∧ ((300 : Int) ≤ (G 1 0) → ((0 + 1 ≤ 1 ∧ 0 + 6 ≤ 6) ∧ Post (.inr 1) G))) : tf_RUN l 19 [tf_r 0] G Post :=
  tf_run rfl rfl (tf_vc_ok (cuts := []) (f := 16) h)
-- 20: X_needTerm(I)V
set_option maxRecDepth 8000 in
theorem vc_20 {l : Launch} {Post : tf_Out → tf_Sto → Prop} {G : tf_Sto} {v1 : Int} (h : (v1 < 0 → ((0 + 1 ≤ 1 ∧ 0 + 6 ≤ 6) ∧ Post (.inr 0) G)) ∧ (0 ≤ v1 → ((v1 < (G 1 0) → (Post (.inl none) G)) ∧ ((G 1 0) ≤ v1 → ((0 + 1 ≤ 1 ∧ 0 + 6 ≤ 6) ∧ Post (.inr 0) G))))) : tf_RUN l 20 [tf_r 0, tf_i v1] G Post :=
  tf_run rfl rfl (tf_vc_ok (cuts := []) (f := 18) h)
-- 21: X_needTerms(II)V
set_option maxRecDepth 8000 in
theorem vc_21 {l : Launch} {Post : tf_Out → tf_Sto → Prop} {G : tf_Sto} {v1 v2 : Int} (h : (0 + 1 ≤ 2 ∧ 0 + 6 ≤ 12) ∧ tf_RUN l 20 [tf_r 0, tf_i v1] G (fun o1 G2 => (o1 = .inl none ∧ ((0 + 1 + 1 ≤ 2 ∧ 0 + 6 + 6 ≤ 12) ∧ tf_RUN l 20 [tf_r 0, tf_i v2] G2 (fun o4 G5 => (o4 = .inl none ∧ (Post (.inl none) G5)) ∨ (o4 = .inr 0 ∧ (Post (.inr 0) G5)) ∨ (o4 = .inr 1 ∧ (Post (.inr 1) G5)) ∨ (o4 = .inr 2 ∧ (Post (.inr 2) G5))))) ∨ (o1 = .inr 0 ∧ (Post (.inr 0) G2)) ∨ (o1 = .inr 1 ∧ (Post (.inr 1) G2)) ∨ (o1 = .inr 2 ∧ (Post (.inr 2) G2)))) : tf_RUN l 21 [tf_r 0, tf_i v1, tf_i v2] G Post :=
  tf_run rfl rfl (tf_vc_ok (cuts := []) (f := 12) h)
-- 22: X_headOf(II)I
set_option maxRecDepth 8000 in
theorem vc_22 {l : Launch} {Post : tf_Out → tf_Sto → Prop} {G : tf_Sto} {v0 v1 : Int} (h : (-2147483648 ≤ v0 * 4 ∧ v0 * 4 ≤ 2147483647) ∧ ((-2147483648 ≤ (v0 * 4) + v1 ∧ (v0 * 4) + v1 ≤ 2147483647) ∧ (Post (.inl (some (tf_i ((v0 * 4) + v1)))) G))) : tf_RUN l 22 [tf_i v0, tf_i v1] G Post :=
  tf_run rfl rfl (tf_vc_ok (cuts := []) (f := 11) h)
-- 23: X_signOf(I)I
set_option maxRecDepth 8000 in
theorem vc_23 {l : Launch} {Post : tf_Out → tf_Sto → Prop} {G : tf_Sto} {v0 : Int} (h : (0 ≤ v0 ∧ 0 < (4 : Int)) ∧ (Post (.inl (some (tf_i (v0 / 4)))) G)) : tf_RUN l 23 [tf_i v0] G Post :=
  tf_run rfl rfl (tf_vc_ok (cuts := []) (f := 9) h)
-- 24: X_countBelow(I)I
set_option maxRecDepth 8000 in
theorem vc_24 {l : Launch} {Post : tf_Out → tf_Sto → Prop} {G : tf_Sto} {v0 : Int} (h : (v0 ≠ ((-1) : Int) → ((0 ≤ v0 ∧ 0 < (4 : Int)) ∧ (Post (.inl (some (tf_i (v0 % 4)))) G))) ∧ (v0 = ((-1) : Int) → (Post (.inl (some (tf_i 0))) G))) : tf_RUN l 24 [tf_i v0] G Post :=
  tf_run rfl rfl (tf_vc_ok (cuts := []) (f := 14) h)
-- 25: Terms_add(IIII)I
set_option maxRecDepth 8000 in
theorem vc_25 {l : Launch} {Post : tf_Out → tf_Sto → Prop} {G : tf_Sto} {v1 v2 v3 v4 : Int} (h : (0 ≤ (G 1 0) ∧ (G 1 0) < 300) ∧ ((-2147483648 ≤ (G 1 0) * 3 ∧ (G 1 0) * 3 ≤ 2147483647) ∧ ((0 ≤ ((G 1 0) * 3) ∧ ((G 1 0) * 3) < 900) ∧ ((-2147483648 ≤ (G 1 0) * 3 ∧ (G 1 0) * 3 ≤ 2147483647) ∧ ((-2147483648 ≤ ((G 1 0) * 3) + 1 ∧ ((G 1 0) * 3) + 1 ≤ 2147483647) ∧ ((0 ≤ (((G 1 0) * 3) + 1) ∧ (((G 1 0) * 3) + 1) < 900) ∧ ((-2147483648 ≤ (G 1 0) * 3 ∧ (G 1 0) * 3 ≤ 2147483647) ∧ ((-2147483648 ≤ ((G 1 0) * 3) + 2 ∧ ((G 1 0) * 3) + 2 ≤ 2147483647) ∧ ((0 ≤ (((G 1 0) * 3) + 2) ∧ (((G 1 0) * 3) + 2) < 900) ∧ ((-2147483648 ≤ (G 1 0) + 1 ∧ (G 1 0) + 1 ≤ 2147483647) ∧ (Post (.inl (some (tf_i (G 1 0)))) (tf_up (tf_up (tf_up (tf_up (tf_up G 2 (G 1 0) v1) 3 ((G 1 0) * 3) v2) 3 (((G 1 0) * 3) + 1) v3) 3 (((G 1 0) * 3) + 2) v4) 1 0 ((G 1 0) + 1))))))))))))) : tf_RUN l 25 [tf_r 1, tf_i v1, tf_i v2, tf_i v3, tf_i v4] G Post :=
  tf_run rfl rfl (tf_vc_ok (cuts := []) (f := 46) h)
-- 26: Terms_below(II)I
set_option maxRecDepth 8000 in
theorem vc_26 {l : Launch} {Post : tf_Out → tf_Sto → Prop} {G : tf_Sto} {v1 v2 : Int} (h : (-2147483648 ≤ v1 * 3 ∧ v1 * 3 ≤ 2147483647) ∧ ((-2147483648 ≤ (v1 * 3) + v2 ∧ (v1 * 3) + v2 ≤ 2147483647) ∧ ((0 ≤ ((v1 * 3) + v2) ∧ ((v1 * 3) + v2) < 900) ∧ (Post (.inl (some (tf_i (G 3 ((v1 * 3) + v2))))) G)))) : tf_RUN l 26 [tf_r 1, tf_i v1, tf_i v2] G Post :=
  tf_run rfl rfl (tf_vc_ok (cuts := []) (f := 14) h)
-- 27: Classes_begin(I)V
set_option maxRecDepth 8000 in
theorem vc_27 {l : Launch} {Post : tf_Out → tf_Sto → Prop} {G : tf_Sto} {v1 : Int} (h : (0 ≤ v1 ∧ v1 < 300) ∧ ((0 ≤ v1 ∧ v1 < 300) ∧ ((0 ≤ v1 ∧ v1 < 300) ∧ (((G 2 v1) ≠ ((-1) : Int) → ((0 ≤ v1 ∧ v1 < 300) ∧ (Post (.inl none) (tf_up (tf_up (tf_up G 5 v1 v1) 6 v1 1) 7 v1 v1)))) ∧ ((G 2 v1) = ((-1) : Int) → ((0 ≤ v1 ∧ v1 < 300) ∧ (Post (.inl none) (tf_up (tf_up (tf_up G 5 v1 v1) 6 v1 1) 7 v1 (-1))))))))) : tf_RUN l 27 [tf_r 4, tf_i v1] G Post :=
  tf_run rfl rfl (tf_vc_ok (cuts := []) (f := 30) h)
-- 28: Classes_rootOf(I)I
set_option maxRecDepth 8000 in
theorem vc_28 {l : Launch} {Post : tf_Out → tf_Sto → Prop} {G : tf_Sto} {v1 : Int} (h : tf_AW l 28 none Post 4 [(0, tf_r 4), (2, tf_i v1), (3, tf_i 0)] [] (none, false) G) : tf_RUN l 28 [tf_r 4, tf_i v1] G Post :=
  tf_run rfl rfl (tf_vc_ok (cuts := [(4, [0, 2, 3])]) (f := 27) h)
set_option maxRecDepth 8000 in
theorem vc_28_4 {l : Launch} {Post : tf_Out → tf_Sto → Prop} {G : tf_Sto} {v2 v3 : Int} (h : ((300 : Int) ≤ v3 → (Post (.inl (some (tf_i v2))) G)) ∧ (v3 < (300 : Int) → ((0 ≤ v2 ∧ v2 < 300) ∧ (((G 5 v2) = v2 → (Post (.inl (some (tf_i v2))) G)) ∧ ((G 5 v2) ≠ v2 → ((0 ≤ v2 ∧ v2 < 300) ∧ ((-2147483648 ≤ v3 + 1 ∧ v3 + 1 ≤ 2147483647) ∧ (tf_AW l 28 none Post 4 [(0, tf_r 4), (2, tf_i (G 5 v2)), (3, tf_i (v3 + 1))] [] (none, false) G)))))))) : tf_AW l 28 none Post 4 [(0, tf_r 4), (2, tf_i v2), (3, tf_i v3)] [] (none, false) G :=
  tf_vc_ok (cuts := [(4, [0, 2, 3])]) (f := 27) h
-- 29: Classes_shapeOf(I)I
set_option maxRecDepth 8000 in
theorem vc_29 {l : Launch} {Post : tf_Out → tf_Sto → Prop} {G : tf_Sto} {v1 : Int} (h : (0 ≤ v1 ∧ v1 < 300) ∧ (Post (.inl (some (tf_i (G 7 v1)))) G)) : tf_RUN l 29 [tf_r 4, tf_i v1] G Post :=
  tf_run rfl rfl (tf_vc_ok (cuts := []) (f := 10) h)
-- 30: Classes_unify(II)Z
set_option maxRecDepth 8000 in
theorem vc_30 {l : Launch} {Post : tf_Out → tf_Sto → Prop} {G : tf_Sto} {v1 v2 : Int} (h : tf_RUN l 32 [tf_r 4, tf_i v1, tf_i v2] (tf_up G 4 8 0) (fun o1 G2 => o1 = .inl none ∧ (tf_AW l 30 none Post 13 [(0, tf_r 4), (3, tf_i 0)] [] (none, false) G2))) : tf_RUN l 30 [tf_r 4, tf_i v1, tf_i v2] G Post :=
  tf_run rfl rfl (tf_vc_ok (cuts := [(13, [0, 3])]) (f := 42) h)
set_option maxRecDepth 8000 in
theorem vc_30_13 {l : Launch} {Post : tf_Out → tf_Sto → Prop} {G : tf_Sto} {v3 : Int} (h : ((G 4 8) ≤ v3 → (((1 : Int) = 0 ∨ (1 : Int) = 1) ∧ Post (.inl (some (tf_i 1))) G)) ∧ (v3 < (G 4 8) → (((901 : Int) ≤ v3 → (((1 : Int) = 0 ∨ (1 : Int) = 1) ∧ Post (.inl (some (tf_i 1))) G)) ∧ (v3 < (901 : Int) → ((0 ≤ v3 ∧ v3 < 901) ∧ (tf_RUN l 28 [tf_r 4, tf_i (G 9 v3)] G (fun o1 G2 => ∃ r3 : Int, o1 = .inl (some (tf_i r3)) ∧ ((0 ≤ v3 ∧ v3 < 901) ∧ (tf_RUN l 28 [tf_r 4, tf_i (G2 10 v3)] G2 (fun o4 G5 => ∃ r6 : Int, o4 = .inl (some (tf_i r6)) ∧ (tf_RUN l 33 [tf_r 4, tf_i r3, tf_i r6] G5 (fun o7 G8 => ∃ r9 : Int, o7 = .inl (some (tf_i r9)) ∧ ((r9 ≠ 0 → ((-2147483648 ≤ v3 + 1 ∧ v3 + 1 ≤ 2147483647) ∧ (tf_AW l 30 none Post 13 [(0, tf_r 4), (3, tf_i (v3 + 1))] [] (none, false) G8))) ∧ (r9 = 0 → (((0 : Int) = 0 ∨ (0 : Int) = 1) ∧ Post (.inl (some (tf_i 0))) G8))))))))))))))) : tf_AW l 30 none Post 13 [(0, tf_r 4), (3, tf_i v3)] [] (none, false) G :=
  tf_vc_ok (cuts := [(13, [0, 3])]) (f := 42) h
-- 31: Classes_goBack(I)V
set_option maxRecDepth 8000 in
theorem vc_31 {l : Launch} {Post : tf_Out → tf_Sto → Prop} {G : tf_Sto} {v1 : Int} (h : (-2147483648 ≤ (G 4 0) - 1 ∧ (G 4 0) - 1 ≤ 2147483647) ∧ (tf_AW l 31 none Post 7 [(0, tf_r 4), (1, tf_i v1), (2, tf_i ((G 4 0) - 1))] [] (none, false) G)) : tf_RUN l 31 [tf_r 4, tf_i v1] G Post :=
  tf_run rfl rfl (tf_vc_ok (cuts := [(7, [0, 1, 2])]) (f := 59) h)
set_option maxRecDepth 8000 in
theorem vc_31_7 {l : Launch} {Post : tf_Out → tf_Sto → Prop} {G : tf_Sto} {v1 v2 : Int} (h : (v2 < v1 → (Post (.inl none) (tf_up G 4 0 v1))) ∧ (v1 ≤ v2 → ((0 ≤ v2 ∧ v2 < 300) ∧ ((0 ≤ (G 8 v2) ∧ (G 8 v2) < 300) ∧ ((0 ≤ (G 8 v2) ∧ (G 8 v2) < 300) ∧ ((0 ≤ (G 5 (G 8 v2)) ∧ (G 5 (G 8 v2)) < 300) ∧ ((0 ≤ (G 8 v2) ∧ (G 8 v2) < 300) ∧ ((-2147483648 ≤ (G 6 (G 5 (G 8 v2))) - (G 6 (G 8 v2)) ∧ (G 6 (G 5 (G 8 v2))) - (G 6 (G 8 v2)) ≤ 2147483647) ∧ ((0 ≤ (G 5 (G 8 v2)) ∧ (G 5 (G 8 v2)) < 300) ∧ ((0 ≤ (G 5 (G 8 v2)) ∧ (G 5 (G 8 v2)) < 300) ∧ ((0 ≤ (G 8 v2) ∧ (G 8 v2) < 300) ∧ (((G 7 (G 5 (G 8 v2))) ≠ (G 7 (G 8 v2)) → ((-2147483648 ≤ v2 + (-1) ∧ v2 + (-1) ≤ 2147483647) ∧ (tf_AW l 31 none Post 7 [(0, tf_r 4), (1, tf_i v1), (2, tf_i (v2 + (-1)))] [] (none, false) (tf_up (tf_up G 5 (G 8 v2) (G 8 v2)) 6 (G 5 (G 8 v2)) ((G 6 (G 5 (G 8 v2))) - (G 6 (G 8 v2))))))) ∧ ((G 7 (G 5 (G 8 v2))) = (G 7 (G 8 v2)) → ((0 ≤ (G 5 (G 8 v2)) ∧ (G 5 (G 8 v2)) < 300) ∧ ((-2147483648 ≤ v2 + (-1) ∧ v2 + (-1) ≤ 2147483647) ∧ (tf_AW l 31 none Post 7 [(0, tf_r 4), (1, tf_i v1), (2, tf_i (v2 + (-1)))] [] (none, false) (tf_up (tf_up (tf_up G 5 (G 8 v2) (G 8 v2)) 6 (G 5 (G 8 v2)) ((G 6 (G 5 (G 8 v2))) - (G 6 (G 8 v2)))) 7 (G 5 (G 8 v2)) (-1)))))))))))))))))) : tf_AW l 31 none Post 7 [(0, tf_r 4), (1, tf_i v1), (2, tf_i v2)] [] (none, false) G :=
  tf_vc_ok (cuts := [(7, [0, 1, 2])]) (f := 59) h
-- 32: Classes_await(II)V
set_option maxRecDepth 8000 in
theorem vc_32 {l : Launch} {Post : tf_Out → tf_Sto → Prop} {G : tf_Sto} {v1 v2 : Int} (h : ((901 : Int) ≤ (G 4 8) → (Post (.inl none) G)) ∧ ((G 4 8) < (901 : Int) → ((0 ≤ (G 4 8) ∧ (G 4 8) < 901) ∧ ((0 ≤ (G 4 8) ∧ (G 4 8) < 901) ∧ ((-2147483648 ≤ (G 4 8) + 1 ∧ (G 4 8) + 1 ≤ 2147483647) ∧ (Post (.inl none) (tf_up (tf_up (tf_up G 9 (G 4 8) v1) 10 (G 4 8) v2) 4 8 ((G 4 8) + 1)))))))) : tf_RUN l 32 [tf_r 4, tf_i v1, tf_i v2] G Post :=
  tf_run rfl rfl (tf_vc_ok (cuts := []) (f := 28) h)
-- 33: Classes_mergeTwo(II)Z
set_option maxRecDepth 8000 in
theorem vc_33 {l : Launch} {Post : tf_Out → tf_Sto → Prop} {G : tf_Sto} {v1 v2 : Int} (h : (v1 ≠ v2 → ((0 ≤ v1 ∧ v1 < 300) ∧ ((0 ≤ v2 ∧ v2 < 300) ∧ (((G 7 v1) = ((-1) : Int) → ((0 ≤ v1 ∧ v1 < 300) ∧ ((0 ≤ v2 ∧ v2 < 300) ∧ (((G 6 v2) ≤ (G 6 v1) → (tf_RUN l 35 [tf_r 4, tf_i v2, tf_i v1] G (fun o1 G2 => o1 = .inl none ∧ (((1 : Int) = 0 ∨ (1 : Int) = 1) ∧ Post (.inl (some (tf_i 1))) G2)))) ∧ ((G 6 v1) < (G 6 v2) → (tf_RUN l 35 [tf_r 4, tf_i v1, tf_i v2] G (fun o4 G5 => o4 = .inl none ∧ (((1 : Int) = 0 ∨ (1 : Int) = 1) ∧ Post (.inl (some (tf_i 1))) G5)))))))) ∧ ((G 7 v1) ≠ ((-1) : Int) → (((G 7 v2) = ((-1) : Int) → ((0 ≤ v1 ∧ v1 < 300) ∧ ((0 ≤ v2 ∧ v2 < 300) ∧ (((G 6 v2) ≤ (G 6 v1) → (tf_RUN l 35 [tf_r 4, tf_i v2, tf_i v1] G (fun o7 G8 => o7 = .inl none ∧ (((1 : Int) = 0 ∨ (1 : Int) = 1) ∧ Post (.inl (some (tf_i 1))) G8)))) ∧ ((G 6 v1) < (G 6 v2) → (tf_RUN l 35 [tf_r 4, tf_i v1, tf_i v2] G (fun o10 G11 => o10 = .inl none ∧ (((1 : Int) = 0 ∨ (1 : Int) = 1) ∧ Post (.inl (some (tf_i 1))) G11)))))))) ∧ ((G 7 v2) ≠ ((-1) : Int) → ((0 ≤ (G 7 v1) ∧ (G 7 v1) < 300) ∧ ((0 ≤ (G 7 v2) ∧ (G 7 v2) < 300) ∧ (((G 2 (G 7 v1)) = (G 2 (G 7 v2)) → (tf_RUN l 34 [tf_r 4, tf_i (G 7 v1), tf_i (G 7 v2)] G (fun o13 G14 => o13 = .inl none ∧ ((0 ≤ v1 ∧ v1 < 300) ∧ ((0 ≤ v2 ∧ v2 < 300) ∧ (((G14 6 v2) ≤ (G14 6 v1) → (tf_RUN l 35 [tf_r 4, tf_i v2, tf_i v1] G14 (fun o16 G17 => o16 = .inl none ∧ (((1 : Int) = 0 ∨ (1 : Int) = 1) ∧ Post (.inl (some (tf_i 1))) G17)))) ∧ ((G14 6 v1) < (G14 6 v2) → (tf_RUN l 35 [tf_r 4, tf_i v1, tf_i v2] G14 (fun o19 G20 => o19 = .inl none ∧ (((1 : Int) = 0 ∨ (1 : Int) = 1) ∧ Post (.inl (some (tf_i 1))) G20)))))))))) ∧ ((G 2 (G 7 v1)) ≠ (G 2 (G 7 v2)) → (((0 : Int) = 0 ∨ (0 : Int) = 1) ∧ Post (.inl (some (tf_i 0))) G)))))))))))) ∧ (v1 = v2 → (((1 : Int) = 0 ∨ (1 : Int) = 1) ∧ Post (.inl (some (tf_i 1))) G))) : tf_RUN l 33 [tf_r 4, tf_i v1, tf_i v2] G Post :=
  tf_run rfl rfl (tf_vc_ok (cuts := []) (f := 63) h)
-- 34: Classes_awaitBelow(II)V
set_option maxRecDepth 8000 in
theorem vc_34 {l : Launch} {Post : tf_Out → tf_Sto → Prop} {G : tf_Sto} {v1 v2 : Int} (h : (0 ≤ v1 ∧ v1 < 300) ∧ (tf_RUN l 24 [tf_i (G 2 v1)] G (fun o1 G2 => ∃ r3 : Int, o1 = .inl (some (tf_i r3)) ∧ (tf_AW l 34 none Post 16 [(0, tf_r 4), (1, tf_i v1), (2, tf_i v2), (3, tf_i r3), (4, tf_i 0)] [] (none, false) G2)))) : tf_RUN l 34 [tf_r 4, tf_i v1, tf_i v2] G Post :=
  tf_run rfl rfl (tf_vc_ok (cuts := [(16, [0, 1, 2, 3, 4])]) (f := 32) h)
set_option maxRecDepth 8000 in
theorem vc_34_16 {l : Launch} {Post : tf_Out → tf_Sto → Prop} {G : tf_Sto} {v1 v2 v3 v4 : Int} (h : (v3 ≤ v4 → (Post (.inl none) G)) ∧ (v4 < v3 → (tf_RUN l 26 [tf_r 1, tf_i v1, tf_i v4] G (fun o1 G2 => ∃ r3 : Int, o1 = .inl (some (tf_i r3)) ∧ (tf_RUN l 26 [tf_r 1, tf_i v2, tf_i v4] G2 (fun o4 G5 => ∃ r6 : Int, o4 = .inl (some (tf_i r6)) ∧ (tf_RUN l 32 [tf_r 4, tf_i r3, tf_i r6] G5 (fun o7 G8 => o7 = .inl none ∧ ((-2147483648 ≤ v4 + 1 ∧ v4 + 1 ≤ 2147483647) ∧ (tf_AW l 34 none Post 16 [(0, tf_r 4), (1, tf_i v1), (2, tf_i v2), (3, tf_i v3), (4, tf_i (v4 + 1))] [] (none, false) G8)))))))))) : tf_AW l 34 none Post 16 [(0, tf_r 4), (1, tf_i v1), (2, tf_i v2), (3, tf_i v3), (4, tf_i v4)] [] (none, false) G :=
  tf_vc_ok (cuts := [(16, [0, 1, 2, 3, 4])]) (f := 32) h
-- 35: Classes_attach(II)V
set_option maxRecDepth 8000 in
theorem vc_35 {l : Launch} {Post : tf_Out → tf_Sto → Prop} {G : tf_Sto} {v1 v2 : Int} (h : (0 ≤ v1 ∧ v1 < 300) ∧ ((0 ≤ v2 ∧ v2 < 300) ∧ ((0 ≤ v1 ∧ v1 < 300) ∧ ((-2147483648 ≤ (G 6 v2) + (G 6 v1) ∧ (G 6 v2) + (G 6 v1) ≤ 2147483647) ∧ ((0 ≤ v2 ∧ v2 < 300) ∧ ((0 ≤ v2 ∧ v2 < 300) ∧ (((G 7 v2) ≠ ((-1) : Int) → ((0 ≤ (G 4 0) ∧ (G 4 0) < 300) ∧ ((-2147483648 ≤ (G 4 0) + 1 ∧ (G 4 0) + 1 ≤ 2147483647) ∧ (Post (.inl none) (tf_up (tf_up (tf_up (tf_up G 5 v1 v2) 6 v2 ((G 6 v2) + (G 6 v1))) 8 (G 4 0) v1) 4 0 ((G 4 0) + 1)))))) ∧ ((G 7 v2) = ((-1) : Int) → ((0 ≤ v1 ∧ v1 < 300) ∧ ((0 ≤ v2 ∧ v2 < 300) ∧ ((0 ≤ (G 4 0) ∧ (G 4 0) < 300) ∧ ((-2147483648 ≤ (G 4 0) + 1 ∧ (G 4 0) + 1 ≤ 2147483647) ∧ (Post (.inl none) (tf_up (tf_up (tf_up (tf_up (tf_up G 5 v1 v2) 6 v2 ((G 6 v2) + (G 6 v1))) 7 v2 (G 7 v1)) 8 (G 4 0) v1) 4 0 ((G 4 0) + 1))))))))))))))) : tf_RUN l 35 [tf_r 4, tf_i v1, tf_i v2] G Post :=
  tf_run rfl rfl (tf_vc_ok (cuts := []) (f := 48) h)
-- 36: Levels_begin(III)V
set_option maxRecDepth 8000 in
theorem vc_36 {l : Launch} {Post : tf_Out → tf_Sto → Prop} {G : tf_Sto} {v1 v2 v3 : Int} (h : (0 ≤ (G 11 0) ∧ (G 11 0) < 20) ∧ ((0 ≤ (G 11 0) ∧ (G 11 0) < 20) ∧ ((0 ≤ (G 11 0) ∧ (G 11 0) < 20) ∧ ((-2147483648 ≤ (G 11 0) + 1 ∧ (G 11 0) + 1 ≤ 2147483647) ∧ (Post (.inl none) (tf_up (tf_up (tf_up (tf_up G 12 (G 11 0) v1) 13 (G 11 0) v2) 14 (G 11 0) v3) 11 0 ((G 11 0) + 1))))))) : tf_RUN l 36 [tf_r 11, tf_i v1, tf_i v2, tf_i v3] G Post :=
  tf_run rfl rfl (tf_vc_ok (cuts := []) (f := 30) h)
-- 37: Levels_end()V
set_option maxRecDepth 8000 in
theorem vc_37 {l : Launch} {Post : tf_Out → tf_Sto → Prop} {G : tf_Sto} (h : (-2147483648 ≤ (G 11 0) - 1 ∧ (G 11 0) - 1 ≤ 2147483647) ∧ (Post (.inl none) (tf_up G 11 0 ((G 11 0) - 1)))) : tf_RUN l 37 [tf_r 11] G Post :=
  tf_run rfl rfl (tf_vc_ok (cuts := []) (f := 12) h)
-- 38: Levels_termsBefore()I
set_option maxRecDepth 8000 in
theorem vc_38 {l : Launch} {Post : tf_Out → tf_Sto → Prop} {G : tf_Sto} (h : (0 ≤ (G 11 0) ∧ (G 11 0) < 20) ∧ (Post (.inl (some (tf_i (G 12 (G 11 0))))) G)) : tf_RUN l 38 [tf_r 11] G Post :=
  tf_run rfl rfl (tf_vc_ok (cuts := []) (f := 11) h)
-- 39: Levels_equationsBefore()I
set_option maxRecDepth 8000 in
theorem vc_39 {l : Launch} {Post : tf_Out → tf_Sto → Prop} {G : tf_Sto} (h : (0 ≤ (G 11 0) ∧ (G 11 0) < 20) ∧ (Post (.inl (some (tf_i (G 13 (G 11 0))))) G)) : tf_RUN l 39 [tf_r 11] G Post :=
  tf_run rfl rfl (tf_vc_ok (cuts := []) (f := 11) h)
-- 40: Levels_mergesBefore()I
set_option maxRecDepth 8000 in
theorem vc_40 {l : Launch} {Post : tf_Out → tf_Sto → Prop} {G : tf_Sto} (h : (0 ≤ (G 11 0) ∧ (G 11 0) < 20) ∧ (Post (.inl (some (tf_i (G 14 (G 11 0))))) G)) : tf_RUN l 40 [tf_r 11] G Post :=
  tf_run rfl rfl (tf_vc_ok (cuts := []) (f := 11) h)
-- 41: Trees_clear()V
set_option maxRecDepth 8000 in
theorem vc_41 {l : Launch} {Post : tf_Out → tf_Sto → Prop} {G : tf_Sto} (h : tf_RUN l 146 [tf_r 21, tf_i (-1)] (tf_up (tf_up G 15 0 0) 15 1 0) (fun o1 G2 => o1 = .inl none ∧ (Post (.inl none) G2))) : tf_RUN l 41 [tf_r 15] G Post :=
  tf_run rfl rfl (tf_vc_ok (cuts := []) (f := 16) h)
-- 42: Trees_hasEnd(I)Z
set_option maxRecDepth 8000 in
theorem vc_42 {l : Launch} {Post : tf_Out → tf_Sto → Prop} {G : tf_Sto} {v1 : Int} (h : ((G 15 1) ≤ v1 → (((0 : Int) = 0 ∨ (0 : Int) = 1) ∧ Post (.inl (some (tf_i 0))) G)) ∧ (v1 < (G 15 1) → (((1 : Int) = 0 ∨ (1 : Int) = 1) ∧ Post (.inl (some (tf_i 1))) G))) : tf_RUN l 42 [tf_r 15, tf_i v1] G Post :=
  tf_run rfl rfl (tf_vc_ok (cuts := []) (f := 13) h)
-- 43: Trees_below(II)I
set_option maxRecDepth 8000 in
theorem vc_43 {l : Launch} {Post : tf_Out → tf_Sto → Prop} {G : tf_Sto} {v1 v2 : Int} (h : (-2147483648 ≤ v1 * 3 ∧ v1 * 3 ≤ 2147483647) ∧ ((-2147483648 ≤ (v1 * 3) + v2 ∧ (v1 * 3) + v2 ≤ 2147483647) ∧ ((0 ≤ ((v1 * 3) + v2) ∧ ((v1 * 3) + v2) < 900) ∧ (Post (.inl (some (tf_i (G 20 ((v1 * 3) + v2))))) G)))) : tf_RUN l 43 [tf_r 15, tf_i v1, tf_i v2] G Post :=
  tf_run rfl rfl (tf_vc_ok (cuts := []) (f := 14) h)
-- 44: Trees_addLeaf(I)I
set_option maxRecDepth 8000 in
theorem vc_44 {l : Launch} {Post : tf_Out → tf_Sto → Prop} {G : tf_Sto} {v1 : Int} (h : (0 ≤ (G 15 0) ∧ (G 15 0) < 300) ∧ ((0 ≤ (G 15 0) ∧ (G 15 0) < 300) ∧ ((0 ≤ (G 15 0) ∧ (G 15 0) < 300) ∧ ((0 ≤ (G 15 0) ∧ (G 15 0) < 300) ∧ ((-2147483648 ≤ (G 15 0) + 1 ∧ (G 15 0) + 1 ≤ 2147483647) ∧ (Post (.inl (some (tf_i (G 15 0)))) (tf_up (tf_up (tf_up (tf_up (tf_up G 16 (G 15 0) (-1)) 17 (G 15 0) v1) 18 (G 15 0) 1) 19 (G 15 0) 0) 15 0 ((G 15 0) + 1)))))))) : tf_RUN l 44 [tf_r 15, tf_i v1] G Post :=
  tf_run rfl rfl (tf_vc_ok (cuts := []) (f := 36) h)
-- 45: Trees_find(IIII)I
set_option maxRecDepth 8000 in
theorem vc_45 {l : Launch} {Post : tf_Out → tf_Sto → Prop} {G : tf_Sto} {v1 v2 v3 v4 : Int} (h : (-2147483648 ≤ v1 * 31 ∧ v1 * 31 ≤ 2147483647) ∧ ((-2147483648 ≤ (v1 * 31) + v2 ∧ (v1 * 31) + v2 ≤ 2147483647) ∧ ((-2147483648 ≤ ((v1 * 31) + v2) * 37 ∧ ((v1 * 31) + v2) * 37 ≤ 2147483647) ∧ ((-2147483648 ≤ (((v1 * 31) + v2) * 37) + v3 ∧ (((v1 * 31) + v2) * 37) + v3 ≤ 2147483647) ∧ ((-2147483648 ≤ ((((v1 * 31) + v2) * 37) + v3) * 41 ∧ ((((v1 * 31) + v2) * 37) + v3) * 41 ≤ 2147483647) ∧ ((-2147483648 ≤ (((((v1 * 31) + v2) * 37) + v3) * 41) + v4 ∧ (((((v1 * 31) + v2) * 37) + v3) * 41) + v4 ≤ 2147483647) ∧ ((0 ≤ (tf_and (tf_xor ((((((v1 * 31) + v2) * 37) + v3) * 41) + v4) (tf_ushr ((((((v1 * 31) + v2) * 37) + v3) * 41) + v4) 9)) 511) ∧ (tf_and (tf_xor ((((((v1 * 31) + v2) * 37) + v3) * 41) + v4) (tf_ushr ((((((v1 * 31) + v2) * 37) + v3) * 41) + v4) 9)) 511) < 512) ∧ (tf_AW l 45 none Post 45 [(0, tf_r 15), (1, tf_i v1), (2, tf_i v2), (3, tf_i v3), (4, tf_i v4), (6, tf_i (tf_and (tf_xor ((((((v1 * 31) + v2) * 37) + v3) * 41) + v4) (tf_ushr ((((((v1 * 31) + v2) * 37) + v3) * 41) + v4) 9)) 511)), (7, tf_i (G 21 (tf_and (tf_xor ((((((v1 * 31) + v2) * 37) + v3) * 41) + v4) (tf_ushr ((((((v1 * 31) + v2) * 37) + v3) * 41) + v4) 9)) 511))), (8, tf_i 0)] [] (none, false) G)))))))) : tf_RUN l 45 [tf_r 15, tf_i v1, tf_i v2, tf_i v3, tf_i v4] G Post :=
  tf_run rfl rfl (tf_vc_ok (cuts := [(45, [0, 1, 2, 3, 4, 6, 7, 8])]) (f := 141) h)
set_option maxRecDepth 8000 in
theorem vc_45_45 {l : Launch} {Post : tf_Out → tf_Sto → Prop} {G : tf_Sto} {v1 v2 v3 v4 v6 v7 v8 : Int} (h : ((G 15 0) ≤ v8 → ((0 ≤ (G 15 0) ∧ (G 15 0) < 300) ∧ ((-2147483648 ≤ (G 15 0) * 3 ∧ (G 15 0) * 3 ≤ 2147483647) ∧ ((0 ≤ ((G 15 0) * 3) ∧ ((G 15 0) * 3) < 900) ∧ ((-2147483648 ≤ (G 15 0) * 3 ∧ (G 15 0) * 3 ≤ 2147483647) ∧ ((-2147483648 ≤ ((G 15 0) * 3) + 1 ∧ ((G 15 0) * 3) + 1 ≤ 2147483647) ∧ ((0 ≤ (((G 15 0) * 3) + 1) ∧ (((G 15 0) * 3) + 1) < 900) ∧ ((-2147483648 ≤ (G 15 0) * 3 ∧ (G 15 0) * 3 ≤ 2147483647) ∧ ((-2147483648 ≤ ((G 15 0) * 3) + 2 ∧ ((G 15 0) * 3) + 2 ≤ 2147483647) ∧ ((0 ≤ (((G 15 0) * 3) + 2) ∧ (((G 15 0) * 3) + 2) < 900) ∧ ((0 ≤ (G 15 0) ∧ (G 15 0) < 300) ∧ ((0 ≤ v6 ∧ v6 < 512) ∧ ((0 ≤ (G 15 0) ∧ (G 15 0) < 300) ∧ ((0 ≤ v6 ∧ v6 < 512) ∧ ((-2147483648 ≤ (G 15 0) + 1 ∧ (G 15 0) + 1 ≤ 2147483647) ∧ (Post (.inl (some (tf_i (G 15 0)))) (tf_up (tf_up (tf_up (tf_up (tf_up (tf_up (tf_up (tf_up G 16 (G 15 0) v1) 20 ((G 15 0) * 3) v2) 20 (((G 15 0) * 3) + 1) v3) 20 (((G 15 0) * 3) + 2) v4) 23 (G 15 0) v6) 22 (G 15 0) (G 21 v6)) 21 v6 (G 15 0)) 15 0 ((G 15 0) + 1)))))))))))))))))) ∧ (v8 < (G 15 0) → ((v7 = ((-1) : Int) → ((0 ≤ (G 15 0) ∧ (G 15 0) < 300) ∧ ((-2147483648 ≤ (G 15 0) * 3 ∧ (G 15 0) * 3 ≤ 2147483647) ∧ ((0 ≤ ((G 15 0) * 3) ∧ ((G 15 0) * 3) < 900) ∧ ((-2147483648 ≤ (G 15 0) * 3 ∧ (G 15 0) * 3 ≤ 2147483647) ∧ ((-2147483648 ≤ ((G 15 0) * 3) + 1 ∧ ((G 15 0) * 3) + 1 ≤ 2147483647) ∧ ((0 ≤ (((G 15 0) * 3) + 1) ∧ (((G 15 0) * 3) + 1) < 900) ∧ ((-2147483648 ≤ (G 15 0) * 3 ∧ (G 15 0) * 3 ≤ 2147483647) ∧ ((-2147483648 ≤ ((G 15 0) * 3) + 2 ∧ ((G 15 0) * 3) + 2 ≤ 2147483647) ∧ ((0 ≤ (((G 15 0) * 3) + 2) ∧ (((G 15 0) * 3) + 2) < 900) ∧ ((0 ≤ (G 15 0) ∧ (G 15 0) < 300) ∧ ((0 ≤ v6 ∧ v6 < 512) ∧ ((0 ≤ (G 15 0) ∧ (G 15 0) < 300) ∧ ((0 ≤ v6 ∧ v6 < 512) ∧ ((-2147483648 ≤ (G 15 0) + 1 ∧ (G 15 0) + 1 ≤ 2147483647) ∧ (Post (.inl (some (tf_i (G 15 0)))) (tf_up (tf_up (tf_up (tf_up (tf_up (tf_up (tf_up (tf_up G 16 (G 15 0) v1) 20 ((G 15 0) * 3) v2) 20 (((G 15 0) * 3) + 1) v3) 20 (((G 15 0) * 3) + 2) v4) 23 (G 15 0) v6) 22 (G 15 0) (G 21 v6)) 21 v6 (G 15 0)) 15 0 ((G 15 0) + 1)))))))))))))))))) ∧ (v7 ≠ ((-1) : Int) → ((-2147483648 ≤ v7 * 3 ∧ v7 * 3 ≤ 2147483647) ∧ ((0 ≤ v7 ∧ v7 < 300) ∧ (((G 16 v7) ≠ v1 → ((0 ≤ v7 ∧ v7 < 300) ∧ ((-2147483648 ≤ v8 + 1 ∧ v8 + 1 ≤ 2147483647) ∧ (tf_AW l 45 none Post 45 [(0, tf_r 15), (1, tf_i v1), (2, tf_i v2), (3, tf_i v3), (4, tf_i v4), (6, tf_i v6), (7, tf_i (G 22 v7)), (8, tf_i (v8 + 1))] [] (none, false) G)))) ∧ ((G 16 v7) = v1 → ((0 ≤ (v7 * 3) ∧ (v7 * 3) < 900) ∧ (((G 20 (v7 * 3)) ≠ v2 → ((0 ≤ v7 ∧ v7 < 300) ∧ ((-2147483648 ≤ v8 + 1 ∧ v8 + 1 ≤ 2147483647) ∧ (tf_AW l 45 none Post 45 [(0, tf_r 15), (1, tf_i v1), (2, tf_i v2), (3, tf_i v3), (4, tf_i v4), (6, tf_i v6), (7, tf_i (G 22 v7)), (8, tf_i (v8 + 1))] [] (none, false) G)))) ∧ ((G 20 (v7 * 3)) = v2 → ((-2147483648 ≤ (v7 * 3) + 1 ∧ (v7 * 3) + 1 ≤ 2147483647) ∧ ((0 ≤ ((v7 * 3) + 1) ∧ ((v7 * 3) + 1) < 900) ∧ (((G 20 ((v7 * 3) + 1)) ≠ v3 → ((0 ≤ v7 ∧ v7 < 300) ∧ ((-2147483648 ≤ v8 + 1 ∧ v8 + 1 ≤ 2147483647) ∧ (tf_AW l 45 none Post 45 [(0, tf_r 15), (1, tf_i v1), (2, tf_i v2), (3, tf_i v3), (4, tf_i v4), (6, tf_i v6), (7, tf_i (G 22 v7)), (8, tf_i (v8 + 1))] [] (none, false) G)))) ∧ ((G 20 ((v7 * 3) + 1)) = v3 → ((-2147483648 ≤ (v7 * 3) + 2 ∧ (v7 * 3) + 2 ≤ 2147483647) ∧ ((0 ≤ ((v7 * 3) + 2) ∧ ((v7 * 3) + 2) < 900) ∧ (((G 20 ((v7 * 3) + 2)) ≠ v4 → ((0 ≤ v7 ∧ v7 < 300) ∧ ((-2147483648 ≤ v8 + 1 ∧ v8 + 1 ≤ 2147483647) ∧ (tf_AW l 45 none Post 45 [(0, tf_r 15), (1, tf_i v1), (2, tf_i v2), (3, tf_i v3), (4, tf_i v4), (6, tf_i v6), (7, tf_i (G 22 v7)), (8, tf_i (v8 + 1))] [] (none, false) G)))) ∧ ((G 20 ((v7 * 3) + 2)) = v4 → (Post (.inl (some (tf_i v7))) G)))))))))))))))))))) : tf_AW l 45 none Post 45 [(0, tf_r 15), (1, tf_i v1), (2, tf_i v2), (3, tf_i v3), (4, tf_i v4), (6, tf_i v6), (7, tf_i v7), (8, tf_i v8)] [] (none, false) G :=
  tf_vc_ok (cuts := [(45, [0, 1, 2, 3, 4, 6, 7, 8])]) (f := 141) h
-- 46: Trees_measure(I)V
set_option maxRecDepth 8000 in
theorem vc_46 {l : Launch} {Post : tf_Out → tf_Sto → Prop} {G : tf_Sto} {v1 : Int} (h : (0 ≤ v1 ∧ v1 < 300) ∧ (tf_RUN l 24 [tf_i (G 16 v1)] G (fun o1 G2 => ∃ r3 : Int, o1 = .inl (some (tf_i r3)) ∧ (tf_AW l 46 none Post 19 [(0, tf_r 15), (1, tf_i v1), (2, tf_l 1), (4, tf_i 0), (5, tf_i r3), (6, tf_i 0)] [] (none, false) G2)))) : tf_RUN l 46 [tf_r 15, tf_i v1] G Post :=
  tf_run rfl rfl (tf_vc_ok (cuts := [(19, [0, 1, 2, 4, 5, 6])]) (f := 57) h)
set_option maxRecDepth 8000 in
theorem vc_46_19 {l : Launch} {Post : tf_Out → tf_Sto → Prop} {G : tf_Sto} {v1 v2 v4 v5 v6 : Int} (h : (v5 ≤ v6 → ((0 ≤ v1 ∧ v1 < 300) ∧ ((-2147483648 ≤ v4 + 1 ∧ v4 + 1 ≤ 2147483647) ∧ ((0 ≤ v1 ∧ v1 < 300) ∧ (Post (.inl none) (tf_up (tf_up G 18 v1 (if 1000000000000 < v2 then 1000000000000 else v2)) 19 v1 (v4 + 1))))))) ∧ (v6 < v5 → (tf_RUN l 43 [tf_r 15, tf_i v1, tf_i v6] G (fun o1 G2 => ∃ r3 : Int, o1 = .inl (some (tf_i r3)) ∧ ((0 ≤ r3 ∧ r3 < 300) ∧ ((-9223372036854775808 ≤ v2 + (G2 18 r3) ∧ v2 + (G2 18 r3) ≤ 9223372036854775807) ∧ (tf_RUN l 43 [tf_r 15, tf_i v1, tf_i v6] G2 (fun o4 G5 => ∃ r6 : Int, o4 = .inl (some (tf_i r6)) ∧ ((0 ≤ r6 ∧ r6 < 300) ∧ ((-2147483648 ≤ v6 + 1 ∧ v6 + 1 ≤ 2147483647) ∧ (tf_AW l 46 none Post 19 [(0, tf_r 15), (1, tf_i v1), (2, tf_l (v2 + (G2 18 r3))), (4, tf_i (if v4 < (G5 19 r6) then (G5 19 r6) else v4)), (5, tf_i v5), (6, tf_i (v6 + 1))] [] (none, false) G5))))))))))) : tf_AW l 46 none Post 19 [(0, tf_r 15), (1, tf_i v1), (2, tf_l v2), (4, tf_i v4), (5, tf_i v5), (6, tf_i v6)] [] (none, false) G :=
  tf_vc_ok (cuts := [(19, [0, 1, 2, 4, 5, 6])]) (f := 57) h
-- 47: Trees_closeFinite()V
set_option maxRecDepth 8000 in
theorem vc_47 {l : Launch} {Post : tf_Out → tf_Sto → Prop} {G : tf_Sto} (h : Post (.inl none) (tf_up G 15 1 (G 15 0))) : tf_RUN l 47 [tf_r 15] G Post :=
  tf_run rfl rfl (tf_vc_ok (cuts := []) (f := 10) h)
-- 48: Trees_countEndless()I
set_option maxRecDepth 8000 in
theorem vc_48 {l : Launch} {Post : tf_Out → tf_Sto → Prop} {G : tf_Sto} (h : (-2147483648 ≤ (G 15 0) - (G 15 1) ∧ (G 15 0) - (G 15 1) ≤ 2147483647) ∧ (Post (.inl (some (tf_i ((G 15 0) - (G 15 1))))) G)) : tf_RUN l 48 [tf_r 15] G Post :=
  tf_run rfl rfl (tf_vc_ok (cuts := []) (f := 11) h)
-- 49: Trees_dropEndless()V
set_option maxRecDepth 8000 in
theorem vc_49 {l : Launch} {Post : tf_Out → tf_Sto → Prop} {G : tf_Sto} (h : (-2147483648 ≤ (G 15 0) - 1 ∧ (G 15 0) - 1 ≤ 2147483647) ∧ (tf_AW l 49 none Post 7 [(0, tf_r 15), (1, tf_i ((G 15 0) - 1))] [] (none, false) G)) : tf_RUN l 49 [tf_r 15] G Post :=
  tf_run rfl rfl (tf_vc_ok (cuts := [(7, [0, 1])]) (f := 32) h)
set_option maxRecDepth 8000 in
theorem vc_49_7 {l : Launch} {Post : tf_Out → tf_Sto → Prop} {G : tf_Sto} {v1 : Int} (h : (v1 < (G 15 1) → (Post (.inl none) (tf_up G 15 0 (G 15 1)))) ∧ ((G 15 1) ≤ v1 → ((0 ≤ v1 ∧ v1 < 300) ∧ ((0 ≤ v1 ∧ v1 < 300) ∧ ((0 ≤ (G 23 v1) ∧ (G 23 v1) < 512) ∧ ((-2147483648 ≤ v1 + (-1) ∧ v1 + (-1) ≤ 2147483647) ∧ (tf_AW l 49 none Post 7 [(0, tf_r 15), (1, tf_i (v1 + (-1)))] [] (none, false) (tf_up G 21 (G 23 v1) (G 22 v1))))))))) : tf_AW l 49 none Post 7 [(0, tf_r 15), (1, tf_i v1)] [] (none, false) G :=
  tf_vc_ok (cuts := [(7, [0, 1])]) (f := 32) h
-- 50: Finder_forget()V
set_option maxRecDepth 8000 in
theorem vc_50 {l : Launch} {Post : tf_Out → tf_Sto → Prop} {G : tf_Sto} (h : ((0 : Int) = 0 ∨ (0 : Int) = 1) ∧ (Post (.inl none) (tf_up G 24 8 0))) : tf_RUN l 50 [tf_r 24] G Post :=
  tf_run rfl rfl (tf_vc_ok (cuts := []) (f := 9) h)
-- 51: Finder_treeOf(I)I
set_option maxRecDepth 8000 in
theorem vc_51 {l : Launch} {Post : tf_Out → tf_Sto → Prop} {G : tf_Sto} {v1 : Int} (h : tf_RUN l 53 [tf_r 24] G (fun o1 G2 => o1 = .inl none ∧ ((0 ≤ v1 ∧ v1 < 300) ∧ ((0 ≤ (G2 25 v1) ∧ (G2 25 v1) < 300) ∧ (Post (.inl (some (tf_i (G2 26 (G2 25 v1))))) G2))))) : tf_RUN l 51 [tf_r 24, tf_i v1] G Post :=
  tf_run rfl rfl (tf_vc_ok (cuts := []) (f := 15) h)
-- 52: Finder_allTrees()I
set_option maxRecDepth 8000 in
theorem vc_52 {l : Launch} {Post : tf_Out → tf_Sto → Prop} {G : tf_Sto} (h : tf_RUN l 53 [tf_r 24] G (fun o1 G2 => o1 = .inl none ∧ (Post (.inl (some (tf_i (G2 15 0)))) G2))) : tf_RUN l 52 [tf_r 24] G Post :=
  tf_run rfl rfl (tf_vc_ok (cuts := []) (f := 11) h)
-- 53: Finder_findAll()V
set_option maxRecDepth 8000 in
theorem vc_53 {l : Launch} {Post : tf_Out → tf_Sto → Prop} {G : tf_Sto} (h : ((G 24 8) = 0 → (tf_RUN l 41 [tf_r 15] G (fun o1 G2 => o1 = .inl none ∧ (tf_RUN l 54 [tf_r 24] G2 (fun o4 G5 => o4 = .inl none ∧ (tf_RUN l 55 [tf_r 24] G5 (fun o7 G8 => o7 = .inl none ∧ (tf_RUN l 57 [tf_r 24] G8 (fun o10 G11 => o10 = .inl none ∧ (((1 : Int) = 0 ∨ (1 : Int) = 1) ∧ (Post (.inl none) (tf_up G11 24 8 1)))))))))))) ∧ ((G 24 8) ≠ 0 → (Post (.inl none) G))) : tf_RUN l 53 [tf_r 24] G Post :=
  tf_run rfl rfl (tf_vc_ok (cuts := []) (f := 22) h)
-- 54: Finder_findLeaves()V
set_option maxRecDepth 8000 in
theorem vc_54 {l : Launch} {Post : tf_Out → tf_Sto → Prop} {G : tf_Sto} (h : tf_RUN l 146 [tf_r 26, tf_i (-1)] G (fun o1 G2 => o1 = .inl none ∧ (tf_AW l 54 none Post 15 [(0, tf_r 24), (1, tf_i 0)] [] (none, false) (tf_up G2 24 7 0)))) : tf_RUN l 54 [tf_r 24] G Post :=
  tf_run rfl rfl (tf_vc_ok (cuts := [(15, [0, 1])]) (f := 68) h)
set_option maxRecDepth 8000 in
theorem vc_54_15 {l : Launch} {Post : tf_Out → tf_Sto → Prop} {G : tf_Sto} {v1 : Int} (h : ((G 1 0) ≤ v1 → (Post (.inl none) G)) ∧ (v1 < (G 1 0) → (tf_RUN l 28 [tf_r 4, tf_i v1] G (fun o1 G2 => ∃ r3 : Int, o1 = .inl (some (tf_i r3)) ∧ ((0 ≤ v1 ∧ v1 < 300) ∧ (tf_RUN l 29 [tf_r 4, tf_i r3] (tf_up G2 25 v1 r3) (fun o4 G5 => ∃ r6 : Int, o4 = .inl (some (tf_i r6)) ∧ ((r6 = ((-1) : Int) → ((0 ≤ r3 ∧ r3 < 300) ∧ (((G5 26 r3) ≠ ((-1) : Int) → ((-2147483648 ≤ v1 + 1 ∧ v1 + 1 ≤ 2147483647) ∧ (tf_AW l 54 none Post 15 [(0, tf_r 24), (1, tf_i (v1 + 1))] [] (none, false) G5))) ∧ ((G5 26 r3) = ((-1) : Int) → (tf_RUN l 44 [tf_r 15, tf_i v1] G5 (fun o7 G8 => ∃ r9 : Int, o7 = .inl (some (tf_i r9)) ∧ ((0 ≤ r3 ∧ r3 < 300) ∧ ((-2147483648 ≤ v1 + 1 ∧ v1 + 1 ≤ 2147483647) ∧ (tf_AW l 54 none Post 15 [(0, tf_r 24), (1, tf_i (v1 + 1))] [] (none, false) (tf_up G8 26 r3 r9)))))))))) ∧ (r6 ≠ ((-1) : Int) → ((r3 ≠ v1 → ((-2147483648 ≤ v1 + 1 ∧ v1 + 1 ≤ 2147483647) ∧ (tf_AW l 54 none Post 15 [(0, tf_r 24), (1, tf_i (v1 + 1))] [] (none, false) G5))) ∧ (r3 = v1 → ((0 ≤ (G5 24 7) ∧ (G5 24 7) < 300) ∧ ((-2147483648 ≤ (G5 24 7) + 1 ∧ (G5 24 7) + 1 ≤ 2147483647) ∧ ((-2147483648 ≤ v1 + 1 ∧ v1 + 1 ≤ 2147483647) ∧ (tf_AW l 54 none Post 15 [(0, tf_r 24), (1, tf_i (v1 + 1))] [] (none, false) (tf_up (tf_up G5 27 (G5 24 7) r3) 24 7 ((G5 24 7) + 1))))))))))))))))) : tf_AW l 54 none Post 15 [(0, tf_r 24), (1, tf_i v1)] [] (none, false) G :=
  tf_vc_ok (cuts := [(15, [0, 1])]) (f := 68) h
-- 55: Finder_findFinite()V
set_option maxRecDepth 8000 in
theorem vc_55 {l : Launch} {Post : tf_Out → tf_Sto → Prop} {G : tf_Sto} (h : tf_AW l 55 none Post 4 [(0, tf_r 24), (1, tf_i 1), (2, tf_i 0)] [] (none, false) G) : tf_RUN l 55 [tf_r 24] G Post :=
  tf_run rfl rfl (tf_vc_ok (cuts := [(4, [0, 1, 2])]) (f := 23) h)
set_option maxRecDepth 8000 in
theorem vc_55_4 {l : Launch} {Post : tf_Out → tf_Sto → Prop} {G : tf_Sto} {v1 v2 : Int} (h : ((300 : Int) < v2 → (tf_RUN l 47 [tf_r 15] G (fun o1 G2 => o1 = .inl none ∧ (Post (.inl none) G2)))) ∧ (v2 ≤ (300 : Int) → ((v1 = 0 → (tf_RUN l 47 [tf_r 15] G (fun o4 G5 => o4 = .inl none ∧ (Post (.inl none) G5)))) ∧ (v1 ≠ 0 → (tf_RUN l 56 [tf_r 24] G (fun o7 G8 => ∃ r9 : Int, o7 = .inl (some (tf_i r9)) ∧ ((-2147483648 ≤ v2 + 1 ∧ v2 + 1 ≤ 2147483647) ∧ (tf_AW l 55 none Post 4 [(0, tf_r 24), (1, tf_i r9), (2, tf_i (v2 + 1))] [] (none, false) G8)))))))) : tf_AW l 55 none Post 4 [(0, tf_r 24), (1, tf_i v1), (2, tf_i v2)] [] (none, false) G :=
  tf_vc_ok (cuts := [(4, [0, 1, 2])]) (f := 23) h
-- 56: Finder_sweepOpen()Z
set_option maxRecDepth 8000 in
theorem vc_56 {l : Launch} {Post : tf_Out → tf_Sto → Prop} {G : tf_Sto} (h : tf_AW l 56 none Post 4 [(0, tf_r 24), (1, tf_i 0), (2, tf_i 0)] [] (none, false) G) : tf_RUN l 56 [tf_r 24] G Post :=
  tf_run rfl rfl (tf_vc_ok (cuts := [(4, [0, 1, 2])]) (f := 57) h)
set_option maxRecDepth 8000 in
theorem vc_56_4 {l : Launch} {Post : tf_Out → tf_Sto → Prop} {G : tf_Sto} {v1 v2 : Int} (h : ((G 24 7) ≤ v2 → (((G 24 7) ≤ v1 → (((0 : Int) = 0 ∨ (0 : Int) = 1) ∧ Post (.inl (some (tf_i 0))) (tf_up G 24 7 v1))) ∧ (v1 < (G 24 7) → (((1 : Int) = 0 ∨ (1 : Int) = 1) ∧ Post (.inl (some (tf_i 1))) (tf_up G 24 7 v1))))) ∧ (v2 < (G 24 7) → ((0 ≤ v2 ∧ v2 < 300) ∧ (tf_RUN l 59 [tf_r 24, tf_i (G 27 v2)] G (fun o1 G2 => ∃ r3 : Int, o1 = .inl (some (tf_i r3)) ∧ ((r3 = 0 → ((0 ≤ v1 ∧ v1 < 300) ∧ ((-2147483648 ≤ v1 + 1 ∧ v1 + 1 ≤ 2147483647) ∧ ((-2147483648 ≤ v2 + 1 ∧ v2 + 1 ≤ 2147483647) ∧ (tf_AW l 56 none Post 4 [(0, tf_r 24), (1, tf_i (v1 + 1)), (2, tf_i (v2 + 1))] [] (none, false) (tf_up G2 27 v1 (G 27 v2))))))) ∧ (r3 ≠ 0 → (tf_RUN l 60 [tf_r 24, tf_i (G 27 v2)] G2 (fun o4 G5 => ∃ r6 : Int, o4 = .inl (some (tf_i r6)) ∧ (tf_RUN l 46 [tf_r 15, tf_i r6] G5 (fun o7 G8 => o7 = .inl none ∧ ((0 ≤ (G 27 v2) ∧ (G 27 v2) < 300) ∧ ((-2147483648 ≤ v2 + 1 ∧ v2 + 1 ≤ 2147483647) ∧ (tf_AW l 56 none Post 4 [(0, tf_r 24), (1, tf_i v1), (2, tf_i (v2 + 1))] [] (none, false) (tf_up G8 26 (G 27 v2) r6))))))))))))))) : tf_AW l 56 none Post 4 [(0, tf_r 24), (1, tf_i v1), (2, tf_i v2)] [] (none, false) G :=
  tf_vc_ok (cuts := [(4, [0, 1, 2])]) (f := 57) h
-- 57: Finder_findEndless()V
set_option maxRecDepth 8000 in
theorem vc_57 {l : Launch} {Post : tf_Out → tf_Sto → Prop} {G : tf_Sto} (h : tf_AW l 57 none Post 2 [(0, tf_r 24), (1, tf_i 0)] [] (none, false) G) : tf_RUN l 57 [tf_r 24] G Post :=
  tf_run rfl rfl (tf_vc_ok (cuts := [(2, [0, 1]), (38, [0, 1, 2])]) (f := 44) h)
set_option maxRecDepth 8000 in
theorem vc_57_2 {l : Launch} {Post : tf_Out → tf_Sto → Prop} {G : tf_Sto} {v1 : Int} (h : ((G 24 7) ≤ v1 → (tf_AW l 57 none Post 38 [(0, tf_r 24), (1, tf_i (-1)), (2, tf_i 0)] [] (none, false) G)) ∧ (v1 < (G 24 7) → ((0 ≤ v1 ∧ v1 < 300) ∧ ((0 ≤ (G 27 v1) ∧ (G 27 v1) < 300) ∧ ((-2147483648 ≤ v1 + 1 ∧ v1 + 1 ≤ 2147483647) ∧ (tf_AW l 57 none Post 2 [(0, tf_r 24), (1, tf_i (v1 + 1))] [] (none, false) (tf_up G 26 (G 27 v1) (G 15 0)))))))) : tf_AW l 57 none Post 2 [(0, tf_r 24), (1, tf_i v1)] [] (none, false) G :=
  tf_vc_ok (cuts := [(2, [0, 1]), (38, [0, 1, 2])]) (f := 44) h
set_option maxRecDepth 8000 in
theorem vc_57_38 {l : Launch} {Post : tf_Out → tf_Sto → Prop} {G : tf_Sto} {v1 v2 : Int} (h : ((301 : Int) < v2 → (Post (.inl none) G)) ∧ (v2 ≤ (301 : Int) → (tf_RUN l 48 [tf_r 15] G (fun o1 G2 => ∃ r3 : Int, o1 = .inl (some (tf_i r3)) ∧ ((r3 = v1 → (Post (.inl none) G2)) ∧ (r3 ≠ v1 → (tf_RUN l 48 [tf_r 15] G2 (fun o4 G5 => ∃ r6 : Int, o4 = .inl (some (tf_i r6)) ∧ (tf_RUN l 58 [tf_r 24] G5 (fun o7 G8 => o7 = .inl none ∧ ((-2147483648 ≤ v2 + 1 ∧ v2 + 1 ≤ 2147483647) ∧ (tf_AW l 57 none Post 38 [(0, tf_r 24), (1, tf_i r6), (2, tf_i (v2 + 1))] [] (none, false) G8)))))))))))) : tf_AW l 57 none Post 38 [(0, tf_r 24), (1, tf_i v1), (2, tf_i v2)] [] (none, false) G :=
  tf_vc_ok (cuts := [(2, [0, 1]), (38, [0, 1, 2])]) (f := 44) h
-- 58: Finder_refine()V
set_option maxRecDepth 8000 in
theorem vc_58 {l : Launch} {Post : tf_Out → tf_Sto → Prop} {G : tf_Sto} (h : tf_RUN l 49 [tf_r 15] G (fun o1 G2 => o1 = .inl none ∧ (tf_AW l 58 none Post 9 [(0, tf_r 24), (1, tf_i 0)] [] (none, false) G2))) : tf_RUN l 58 [tf_r 24] G Post :=
  tf_run rfl rfl (tf_vc_ok (cuts := [(9, [0, 1]), (41, [0, 1])]) (f := 46) h)
set_option maxRecDepth 8000 in
theorem vc_58_9 {l : Launch} {Post : tf_Out → tf_Sto → Prop} {G : tf_Sto} {v1 : Int} (h : ((G 24 7) ≤ v1 → (tf_AW l 58 none Post 41 [(0, tf_r 24), (1, tf_i 0)] [] (none, false) G)) ∧ (v1 < (G 24 7) → ((0 ≤ v1 ∧ v1 < 300) ∧ (tf_RUN l 60 [tf_r 24, tf_i (G 27 v1)] G (fun o1 G2 => ∃ r3 : Int, o1 = .inl (some (tf_i r3)) ∧ ((0 ≤ v1 ∧ v1 < 300) ∧ ((-2147483648 ≤ v1 + 1 ∧ v1 + 1 ≤ 2147483647) ∧ (tf_AW l 58 none Post 9 [(0, tf_r 24), (1, tf_i (v1 + 1))] [] (none, false) (tf_up G2 28 v1 r3))))))))) : tf_AW l 58 none Post 9 [(0, tf_r 24), (1, tf_i v1)] [] (none, false) G :=
  tf_vc_ok (cuts := [(9, [0, 1]), (41, [0, 1])]) (f := 46) h
set_option maxRecDepth 8000 in
theorem vc_58_41 {l : Launch} {Post : tf_Out → tf_Sto → Prop} {G : tf_Sto} {v1 : Int} (h : ((G 24 7) ≤ v1 → (Post (.inl none) G)) ∧ (v1 < (G 24 7) → ((0 ≤ v1 ∧ v1 < 300) ∧ ((0 ≤ v1 ∧ v1 < 300) ∧ ((0 ≤ (G 27 v1) ∧ (G 27 v1) < 300) ∧ ((-2147483648 ≤ v1 + 1 ∧ v1 + 1 ≤ 2147483647) ∧ (tf_AW l 58 none Post 41 [(0, tf_r 24), (1, tf_i (v1 + 1))] [] (none, false) (tf_up G 26 (G 27 v1) (G 28 v1))))))))) : tf_AW l 58 none Post 41 [(0, tf_r 24), (1, tf_i v1)] [] (none, false) G :=
  tf_vc_ok (cuts := [(9, [0, 1]), (41, [0, 1])]) (f := 46) h
-- 59: Finder_knowsBelow(I)Z
set_option maxRecDepth 8000 in
theorem vc_59 {l : Launch} {Post : tf_Out → tf_Sto → Prop} {G : tf_Sto} {v1 : Int} (h : tf_RUN l 29 [tf_r 4, tf_i v1] G (fun o1 G2 => ∃ r3 : Int, o1 = .inl (some (tf_i r3)) ∧ ((0 ≤ r3 ∧ r3 < 300) ∧ (tf_RUN l 24 [tf_i (G2 2 r3)] G2 (fun o4 G5 => ∃ r6 : Int, o4 = .inl (some (tf_i r6)) ∧ (tf_AW l 59 none Post 25 [(0, tf_r 24), (2, tf_i r3), (3, tf_i r6), (4, tf_i 0)] [] (none, false) G5)))))) : tf_RUN l 59 [tf_r 24, tf_i v1] G Post :=
  tf_run rfl rfl (tf_vc_ok (cuts := [(25, [0, 2, 3, 4])]) (f := 34) h)
set_option maxRecDepth 8000 in
theorem vc_59_25 {l : Launch} {Post : tf_Out → tf_Sto → Prop} {G : tf_Sto} {v2 v3 v4 : Int} (h : (v3 ≤ v4 → (((1 : Int) = 0 ∨ (1 : Int) = 1) ∧ Post (.inl (some (tf_i 1))) G)) ∧ (v4 < v3 → (tf_RUN l 61 [tf_r 24, tf_i v2, tf_i v4] G (fun o1 G2 => ∃ r3 : Int, o1 = .inl (some (tf_i r3)) ∧ ((r3 ≠ ((-1) : Int) → ((-2147483648 ≤ v4 + 1 ∧ v4 + 1 ≤ 2147483647) ∧ (tf_AW l 59 none Post 25 [(0, tf_r 24), (2, tf_i v2), (3, tf_i v3), (4, tf_i (v4 + 1))] [] (none, false) G2))) ∧ (r3 = ((-1) : Int) → (((0 : Int) = 0 ∨ (0 : Int) = 1) ∧ Post (.inl (some (tf_i 0))) G2))))))) : tf_AW l 59 none Post 25 [(0, tf_r 24), (2, tf_i v2), (3, tf_i v3), (4, tf_i v4)] [] (none, false) G :=
  tf_vc_ok (cuts := [(25, [0, 2, 3, 4])]) (f := 34) h
-- 60: Finder_findTree(I)I
set_option maxRecDepth 8000 in
theorem vc_60 {l : Launch} {Post : tf_Out → tf_Sto → Prop} {G : tf_Sto} {v1 : Int} (h : tf_RUN l 29 [tf_r 4, tf_i v1] G (fun o1 G2 => ∃ r3 : Int, o1 = .inl (some (tf_i r3)) ∧ ((0 ≤ r3 ∧ r3 < 300) ∧ (tf_RUN l 24 [tf_i (G2 2 r3)] G2 (fun o4 G5 => ∃ r6 : Int, o4 = .inl (some (tf_i r6)) ∧ ((r6 ≤ 0 → ((r6 ≤ (1 : Int) → ((r6 ≤ (2 : Int) → (tf_RUN l 45 [tf_r 15, tf_i (G2 2 r3), tf_i (-1), tf_i (-1), tf_i (-1)] G5 (fun o7 G8 => ∃ r9 : Int, o7 = .inl (some (tf_i r9)) ∧ (Post (.inl (some (tf_i r9))) G8)))) ∧ ((2 : Int) < r6 → (tf_RUN l 61 [tf_r 24, tf_i r3, tf_i 2] G5 (fun o10 G11 => ∃ r12 : Int, o10 = .inl (some (tf_i r12)) ∧ (tf_RUN l 45 [tf_r 15, tf_i (G2 2 r3), tf_i (-1), tf_i (-1), tf_i r12] G11 (fun o13 G14 => ∃ r15 : Int, o13 = .inl (some (tf_i r15)) ∧ (Post (.inl (some (tf_i r15))) G14)))))))) ∧ ((1 : Int) < r6 → (tf_RUN l 61 [tf_r 24, tf_i r3, tf_i 1] G5 (fun o16 G17 => ∃ r18 : Int, o16 = .inl (some (tf_i r18)) ∧ ((r6 ≤ (2 : Int) → (tf_RUN l 45 [tf_r 15, tf_i (G2 2 r3), tf_i (-1), tf_i r18, tf_i (-1)] G17 (fun o19 G20 => ∃ r21 : Int, o19 = .inl (some (tf_i r21)) ∧ (Post (.inl (some (tf_i r21))) G20)))) ∧ ((2 : Int) < r6 → (tf_RUN l 61 [tf_r 24, tf_i r3, tf_i 2] G17 (fun o22 G23 => ∃ r24 : Int, o22 = .inl (some (tf_i r24)) ∧ (tf_RUN l 45 [tf_r 15, tf_i (G2 2 r3), tf_i (-1), tf_i r18, tf_i r24] G23 (fun o25 G26 => ∃ r27 : Int, o25 = .inl (some (tf_i r27)) ∧ (Post (.inl (some (tf_i r27))) G26)))))))))))) ∧ (0 < r6 → (tf_RUN l 61 [tf_r 24, tf_i r3, tf_i 0] G5 (fun o28 G29 => ∃ r30 : Int, o28 = .inl (some (tf_i r30)) ∧ ((r6 ≤ (1 : Int) → ((r6 ≤ (2 : Int) → (tf_RUN l 45 [tf_r 15, tf_i (G2 2 r3), tf_i r30, tf_i (-1), tf_i (-1)] G29 (fun o31 G32 => ∃ r33 : Int, o31 = .inl (some (tf_i r33)) ∧ (Post (.inl (some (tf_i r33))) G32)))) ∧ ((2 : Int) < r6 → (tf_RUN l 61 [tf_r 24, tf_i r3, tf_i 2] G29 (fun o34 G35 => ∃ r36 : Int, o34 = .inl (some (tf_i r36)) ∧ (tf_RUN l 45 [tf_r 15, tf_i (G2 2 r3), tf_i r30, tf_i (-1), tf_i r36] G35 (fun o37 G38 => ∃ r39 : Int, o37 = .inl (some (tf_i r39)) ∧ (Post (.inl (some (tf_i r39))) G38)))))))) ∧ ((1 : Int) < r6 → (tf_RUN l 61 [tf_r 24, tf_i r3, tf_i 1] G29 (fun o40 G41 => ∃ r42 : Int, o40 = .inl (some (tf_i r42)) ∧ ((r6 ≤ (2 : Int) → (tf_RUN l 45 [tf_r 15, tf_i (G2 2 r3), tf_i r30, tf_i r42, tf_i (-1)] G41 (fun o43 G44 => ∃ r45 : Int, o43 = .inl (some (tf_i r45)) ∧ (Post (.inl (some (tf_i r45))) G44)))) ∧ ((2 : Int) < r6 → (tf_RUN l 61 [tf_r 24, tf_i r3, tf_i 2] G41 (fun o46 G47 => ∃ r48 : Int, o46 = .inl (some (tf_i r48)) ∧ (tf_RUN l 45 [tf_r 15, tf_i (G2 2 r3), tf_i r30, tf_i r42, tf_i r48] G47 (fun o49 G50 => ∃ r51 : Int, o49 = .inl (some (tf_i r51)) ∧ (Post (.inl (some (tf_i r51))) G50)))))))))))))))))))) : tf_RUN l 60 [tf_r 24, tf_i v1] G Post :=
  tf_run rfl rfl (tf_vc_ok (cuts := []) (f := 56) h)
-- 61: Finder_treeBelow(II)I
set_option maxRecDepth 8000 in
theorem vc_61 {l : Launch} {Post : tf_Out → tf_Sto → Prop} {G : tf_Sto} {v1 v2 : Int} (h : tf_RUN l 26 [tf_r 1, tf_i v1, tf_i v2] G (fun o1 G2 => ∃ r3 : Int, o1 = .inl (some (tf_i r3)) ∧ ((0 ≤ r3 ∧ r3 < 300) ∧ ((0 ≤ (G2 25 r3) ∧ (G2 25 r3) < 300) ∧ (Post (.inl (some (tf_i (G2 26 (G2 25 r3))))) G2))))) : tf_RUN l 61 [tf_r 24, tf_i v1, tf_i v2] G Post :=
  tf_run rfl rfl (tf_vc_ok (cuts := []) (f := 17) h)
-- 62: Reach_walk(I)V
set_option maxRecDepth 8000 in
theorem vc_62 {l : Launch} {Post : tf_Out → tf_Sto → Prop} {G : tf_Sto} {v1 : Int} (h : tf_RUN l 147 [tf_r 31, tf_i 0] G (fun o1 G2 => o1 = .inl none ∧ (tf_RUN l 64 [tf_r 29, tf_i v1] (tf_up G2 29 0 0) (fun o4 G5 => o4 = .inl none ∧ (tf_AW l 62 none Post 20 [(0, tf_r 29), (2, tf_i 0)] [] (none, false) G5))))) : tf_RUN l 62 [tf_r 29, tf_i v1] G Post :=
  tf_run rfl rfl (tf_vc_ok (cuts := [(20, [0, 2]), (59, [0, 2, 3, 4, 5])]) (f := 53) h)
set_option maxRecDepth 8000 in
theorem vc_62_20 {l : Launch} {Post : tf_Out → tf_Sto → Prop} {G : tf_Sto} {v2 : Int} (h : ((G 29 0) ≤ v2 → (Post (.inl none) G)) ∧ (v2 < (G 29 0) → (((300 : Int) ≤ v2 → (Post (.inl none) G)) ∧ (v2 < (300 : Int) → ((0 ≤ v2 ∧ v2 < 300) ∧ ((0 ≤ (G 30 v2) ∧ (G 30 v2) < 300) ∧ (tf_RUN l 24 [tf_i (G 16 (G 30 v2))] G (fun o1 G2 => ∃ r3 : Int, o1 = .inl (some (tf_i r3)) ∧ (tf_AW l 62 none Post 59 [(0, tf_r 29), (2, tf_i v2), (3, tf_i (G 30 v2)), (4, tf_i r3), (5, tf_i 0)] [] (none, false) G2))))))))) : tf_AW l 62 none Post 20 [(0, tf_r 29), (2, tf_i v2)] [] (none, false) G :=
  tf_vc_ok (cuts := [(20, [0, 2]), (59, [0, 2, 3, 4, 5])]) (f := 53) h
set_option maxRecDepth 8000 in
theorem vc_62_59 {l : Launch} {Post : tf_Out → tf_Sto → Prop} {G : tf_Sto} {v2 v3 v4 v5 : Int} (h : (v4 ≤ v5 → ((-2147483648 ≤ v2 + 1 ∧ v2 + 1 ≤ 2147483647) ∧ (tf_AW l 62 none Post 20 [(0, tf_r 29), (2, tf_i (v2 + 1))] [] (none, false) G))) ∧ (v5 < v4 → (tf_RUN l 43 [tf_r 15, tf_i v3, tf_i v5] G (fun o1 G2 => ∃ r3 : Int, o1 = .inl (some (tf_i r3)) ∧ (tf_RUN l 64 [tf_r 29, tf_i r3] G2 (fun o4 G5 => o4 = .inl none ∧ ((-2147483648 ≤ v5 + 1 ∧ v5 + 1 ≤ 2147483647) ∧ (tf_AW l 62 none Post 59 [(0, tf_r 29), (2, tf_i v2), (3, tf_i v3), (4, tf_i v4), (5, tf_i (v5 + 1))] [] (none, false) G5)))))))) : tf_AW l 62 none Post 59 [(0, tf_r 29), (2, tf_i v2), (3, tf_i v3), (4, tf_i v4), (5, tf_i v5)] [] (none, false) G :=
  tf_vc_ok (cuts := [(20, [0, 2]), (59, [0, 2, 3, 4, 5])]) (f := 53) h
-- 63: Reach_leaves()I
set_option maxRecDepth 8000 in
theorem vc_63 {l : Launch} {Post : tf_Out → tf_Sto → Prop} {G : tf_Sto} (h : tf_AW l 63 none Post 4 [(0, tf_r 29), (1, tf_i 0), (2, tf_i 0)] [] (none, false) G) : tf_RUN l 63 [tf_r 29] G Post :=
  tf_run rfl rfl (tf_vc_ok (cuts := [(4, [0, 1, 2])]) (f := 28) h)
set_option maxRecDepth 8000 in
theorem vc_63_4 {l : Launch} {Post : tf_Out → tf_Sto → Prop} {G : tf_Sto} {v1 v2 : Int} (h : ((G 29 0) ≤ v2 → (Post (.inl (some (tf_i v1))) G)) ∧ (v2 < (G 29 0) → ((0 ≤ v2 ∧ v2 < 300) ∧ ((0 ≤ (G 30 v2) ∧ (G 30 v2) < 300) ∧ (((G 16 (G 30 v2)) ≠ ((-1) : Int) → ((-2147483648 ≤ v2 + 1 ∧ v2 + 1 ≤ 2147483647) ∧ (tf_AW l 63 none Post 4 [(0, tf_r 29), (1, tf_i v1), (2, tf_i (v2 + 1))] [] (none, false) G))) ∧ ((G 16 (G 30 v2)) = ((-1) : Int) → ((-2147483648 ≤ v1 + 1 ∧ v1 + 1 ≤ 2147483647) ∧ ((-2147483648 ≤ v2 + 1 ∧ v2 + 1 ≤ 2147483647) ∧ (tf_AW l 63 none Post 4 [(0, tf_r 29), (1, tf_i (v1 + 1)), (2, tf_i (v2 + 1))] [] (none, false) G))))))))) : tf_AW l 63 none Post 4 [(0, tf_r 29), (1, tf_i v1), (2, tf_i v2)] [] (none, false) G :=
  tf_vc_ok (cuts := [(4, [0, 1, 2])]) (f := 28) h
-- 64: Reach_add(I)V
set_option maxRecDepth 8000 in
theorem vc_64 {l : Launch} {Post : tf_Out → tf_Sto → Prop} {G : tf_Sto} {v1 : Int} (h : (0 ≤ v1 ∧ v1 < 300) ∧ (((G 31 v1) ≠ 0 → (Post (.inl none) G)) ∧ ((G 31 v1) = 0 → ((0 ≤ v1 ∧ v1 < 300) ∧ (-128 ≤ (1 : Int) ∧ (1 : Int) ≤ 127) ∧ ((0 ≤ (G 29 0) ∧ (G 29 0) < 300) ∧ ((-2147483648 ≤ (G 29 0) + 1 ∧ (G 29 0) + 1 ≤ 2147483647) ∧ (Post (.inl none) (tf_up (tf_up (tf_up G 31 v1 1) 30 (G 29 0) v1) 29 0 ((G 29 0) + 1))))))))) : tf_RUN l 64 [tf_r 29, tf_i v1] G Post :=
  tf_run rfl rfl (tf_vc_ok (cuts := []) (f := 28) h)
-- 65: Matching_matches(II)Z
set_option maxRecDepth 8000 in
theorem vc_65 {l : Launch} {Post : tf_Out → tf_Sto → Prop} {G : tf_Sto} {v1 v2 : Int} (h : tf_RUN l 146 [tf_r 33, tf_i (-1)] G (fun o1 G2 => o1 = .inl none ∧ (tf_RUN l 67 [tf_r 32, tf_i v1, tf_i v2] (tf_up G2 32 3 0) (fun o4 G5 => ∃ r6 : Int, o4 = .inl (some (tf_i r6)) ∧ (tf_AW l 65 none Post 22 [(0, tf_r 32), (3, tf_i 0)] [] (none, false) G5))))) : tf_RUN l 65 [tf_r 32, tf_i v1, tf_i v2] G Post :=
  tf_run rfl rfl (tf_vc_ok (cuts := [(22, [0, 3])]) (f := 39) h)
set_option maxRecDepth 8000 in
theorem vc_65_22 {l : Launch} {Post : tf_Out → tf_Sto → Prop} {G : tf_Sto} {v3 : Int} (h : ((G 32 3) ≤ v3 → (((1 : Int) = 0 ∨ (1 : Int) = 1) ∧ Post (.inl (some (tf_i 1))) G)) ∧ (v3 < (G 32 3) → (((300 : Int) ≤ v3 → (((1 : Int) = 0 ∨ (1 : Int) = 1) ∧ Post (.inl (some (tf_i 1))) G)) ∧ (v3 < (300 : Int) → ((0 ≤ v3 ∧ v3 < 300) ∧ (tf_RUN l 66 [tf_r 32, tf_i (G 34 v3)] G (fun o1 G2 => ∃ r3 : Int, o1 = .inl (some (tf_i r3)) ∧ ((r3 ≠ 0 → ((-2147483648 ≤ v3 + 1 ∧ v3 + 1 ≤ 2147483647) ∧ (tf_AW l 65 none Post 22 [(0, tf_r 32), (3, tf_i (v3 + 1))] [] (none, false) G2))) ∧ (r3 = 0 → (((0 : Int) = 0 ∨ (0 : Int) = 1) ∧ Post (.inl (some (tf_i 0))) G2)))))))))) : tf_AW l 65 none Post 22 [(0, tf_r 32), (3, tf_i v3)] [] (none, false) G :=
  tf_vc_ok (cuts := [(22, [0, 3])]) (f := 39) h
-- 66: Matching_matchesBelow(I)Z
set_option maxRecDepth 8000 in
theorem vc_66 {l : Launch} {Post : tf_Out → tf_Sto → Prop} {G : tf_Sto} {v1 : Int} (h : (0 ≤ v1 ∧ v1 < 300) ∧ (((G 16 v1) ≠ ((-1) : Int) → ((0 ≤ v1 ∧ v1 < 300) ∧ ((0 ≤ (G 33 v1) ∧ (G 33 v1) < 300) ∧ (((G 16 v1) = (G 16 (G 33 v1)) → (tf_RUN l 24 [tf_i (G 16 v1)] G (fun o1 G2 => ∃ r3 : Int, o1 = .inl (some (tf_i r3)) ∧ (tf_AW l 66 none Post 48 [(0, tf_r 32), (1, tf_i v1), (3, tf_i (G 33 v1)), (4, tf_i r3), (5, tf_i 0)] [] (none, false) G2)))) ∧ ((G 16 v1) ≠ (G 16 (G 33 v1)) → (((0 : Int) = 0 ∨ (0 : Int) = 1) ∧ Post (.inl (some (tf_i 0))) G)))))) ∧ ((G 16 v1) = ((-1) : Int) → (((1 : Int) = 0 ∨ (1 : Int) = 1) ∧ Post (.inl (some (tf_i 1))) G)))) : tf_RUN l 66 [tf_r 32, tf_i v1] G Post :=
  tf_run rfl rfl (tf_vc_ok (cuts := [(48, [0, 1, 3, 4, 5])]) (f := 57) h)
set_option maxRecDepth 8000 in
theorem vc_66_48 {l : Launch} {Post : tf_Out → tf_Sto → Prop} {G : tf_Sto} {v1 v3 v4 v5 : Int} (h : (v4 ≤ v5 → (((1 : Int) = 0 ∨ (1 : Int) = 1) ∧ Post (.inl (some (tf_i 1))) G)) ∧ (v5 < v4 → (tf_RUN l 43 [tf_r 15, tf_i v1, tf_i v5] G (fun o1 G2 => ∃ r3 : Int, o1 = .inl (some (tf_i r3)) ∧ (tf_RUN l 43 [tf_r 15, tf_i v3, tf_i v5] G2 (fun o4 G5 => ∃ r6 : Int, o4 = .inl (some (tf_i r6)) ∧ (tf_RUN l 67 [tf_r 32, tf_i r3, tf_i r6] G5 (fun o7 G8 => ∃ r9 : Int, o7 = .inl (some (tf_i r9)) ∧ ((r9 ≠ 0 → ((-2147483648 ≤ v5 + 1 ∧ v5 + 1 ≤ 2147483647) ∧ (tf_AW l 66 none Post 48 [(0, tf_r 32), (1, tf_i v1), (3, tf_i v3), (4, tf_i v4), (5, tf_i (v5 + 1))] [] (none, false) G8))) ∧ (r9 = 0 → (((0 : Int) = 0 ∨ (0 : Int) = 1) ∧ Post (.inl (some (tf_i 0))) G8))))))))))) : tf_AW l 66 none Post 48 [(0, tf_r 32), (1, tf_i v1), (3, tf_i v3), (4, tf_i v4), (5, tf_i v5)] [] (none, false) G :=
  tf_vc_ok (cuts := [(48, [0, 1, 3, 4, 5])]) (f := 57) h
-- 67: Matching_pair(II)Z
set_option maxRecDepth 8000 in
theorem vc_67 {l : Launch} {Post : tf_Out → tf_Sto → Prop} {G : tf_Sto} {v1 v2 : Int} (h : (0 ≤ v1 ∧ v1 < 300) ∧ (((G 33 v1) ≠ ((-1) : Int) → ((0 ≤ v1 ∧ v1 < 300) ∧ (((G 33 v1) ≠ v2 → (((0 : Int) = 0 ∨ (0 : Int) = 1) ∧ Post (.inl (some (tf_i 0))) G)) ∧ ((G 33 v1) = v2 → (((1 : Int) = 0 ∨ (1 : Int) = 1) ∧ Post (.inl (some (tf_i 1))) G))))) ∧ ((G 33 v1) = ((-1) : Int) → ((0 ≤ v1 ∧ v1 < 300) ∧ ((0 ≤ (G 32 3) ∧ (G 32 3) < 300) ∧ ((-2147483648 ≤ (G 32 3) + 1 ∧ (G 32 3) + 1 ≤ 2147483647) ∧ ((0 ≤ v1 ∧ v1 < 300) ∧ ((((tf_up G 33 v1 v2) 33 v1) ≠ v2 → (((0 : Int) = 0 ∨ (0 : Int) = 1) ∧ Post (.inl (some (tf_i 0))) (tf_up (tf_up (tf_up G 33 v1 v2) 34 (G 32 3) v1) 32 3 ((G 32 3) + 1)))) ∧ (((tf_up G 33 v1 v2) 33 v1) = v2 → (((1 : Int) = 0 ∨ (1 : Int) = 1) ∧ Post (.inl (some (tf_i 1))) (tf_up (tf_up (tf_up G 33 v1 v2) 34 (G 32 3) v1) 32 3 ((G 32 3) + 1)))))))))))) : tf_RUN l 67 [tf_r 32, tf_i v1, tf_i v2] G Post :=
  tf_run rfl rfl (tf_vc_ok (cuts := []) (f := 38) h)
-- 68: Pairs_walk(II)V
set_option maxRecDepth 8000 in
theorem vc_68 {l : Launch} {Post : tf_Out → tf_Sto → Prop} {G : tf_Sto} {v1 v2 : Int} (h : tf_RUN l 148 [tf_r 37, tf_l 0] G (fun o1 G2 => o1 = .inl none ∧ (tf_RUN l 70 [tf_r 35, tf_i v1, tf_i v2] (tf_up (tf_up G2 35 0 0) 35 1 0) (fun o4 G5 => o4 = .inl none ∧ (tf_AW l 68 none Post 26 [(0, tf_r 35), (3, tf_i 0)] [] (none, false) G5))))) : tf_RUN l 68 [tf_r 35, tf_i v1, tf_i v2] G Post :=
  tf_run rfl rfl (tf_vc_ok (cuts := [(26, [0, 3])]) (f := 45) h)
set_option maxRecDepth 8000 in
theorem vc_68_26 {l : Launch} {Post : tf_Out → tf_Sto → Prop} {G : tf_Sto} {v3 : Int} (h : ((G 35 0) ≤ v3 → (Post (.inl none) G)) ∧ (v3 < (G 35 0) → (((90000 : Int) ≤ v3 → (Post (.inl none) G)) ∧ (v3 < (90000 : Int) → ((0 ≤ v3 ∧ v3 < 90000) ∧ ((0 ≤ (G 36 v3) ∧ 0 < (300 : Int)) ∧ ((0 ≤ v3 ∧ v3 < 90000) ∧ ((0 ≤ (G 36 v3) ∧ 0 < (300 : Int)) ∧ (tf_RUN l 69 [tf_r 35, tf_i ((G 36 v3) / 300), tf_i ((G 36 v3) % 300)] G (fun o1 G2 => o1 = .inl none ∧ ((-2147483648 ≤ v3 + 1 ∧ v3 + 1 ≤ 2147483647) ∧ (tf_AW l 68 none Post 26 [(0, tf_r 35), (3, tf_i (v3 + 1))] [] (none, false) G2)))))))))))) : tf_AW l 68 none Post 26 [(0, tf_r 35), (3, tf_i v3)] [] (none, false) G :=
  tf_vc_ok (cuts := [(26, [0, 3])]) (f := 45) h
-- 69: Pairs_visit(II)V
set_option maxRecDepth 8000 in
theorem vc_69 {l : Launch} {Post : tf_Out → tf_Sto → Prop} {G : tf_Sto} {v1 v2 : Int} (h : (0 ≤ v1 ∧ v1 < 300) ∧ (((G 16 v1) = ((-1) : Int) → ((-2147483648 ≤ (G 35 1) + 1 ∧ (G 35 1) + 1 ≤ 2147483647) ∧ (Post (.inl none) (tf_up G 35 1 ((G 35 1) + 1))))) ∧ ((G 16 v1) ≠ ((-1) : Int) → ((0 ≤ v2 ∧ v2 < 300) ∧ (((G 16 v1) = (G 16 v2) → (tf_RUN l 24 [tf_i (G 16 v1)] G (fun o1 G2 => ∃ r3 : Int, o1 = .inl (some (tf_i r3)) ∧ (tf_AW l 69 none Post 48 [(0, tf_r 35), (1, tf_i v1), (2, tf_i v2), (4, tf_i r3), (5, tf_i 0)] [] (none, false) G2)))) ∧ ((G 16 v1) ≠ (G 16 v2) → ((-2147483648 ≤ (G 35 1) + 1 ∧ (G 35 1) + 1 ≤ 2147483647) ∧ (Post (.inl none) (tf_up G 35 1 ((G 35 1) + 1)))))))))) : tf_RUN l 69 [tf_r 35, tf_i v1, tf_i v2] G Post :=
  tf_run rfl rfl (tf_vc_ok (cuts := [(48, [0, 1, 2, 4, 5])]) (f := 51) h)
set_option maxRecDepth 8000 in
theorem vc_69_48 {l : Launch} {Post : tf_Out → tf_Sto → Prop} {G : tf_Sto} {v1 v2 v4 v5 : Int} (h : (v4 ≤ v5 → (Post (.inl none) G)) ∧ (v5 < v4 → (tf_RUN l 43 [tf_r 15, tf_i v1, tf_i v5] G (fun o1 G2 => ∃ r3 : Int, o1 = .inl (some (tf_i r3)) ∧ (tf_RUN l 43 [tf_r 15, tf_i v2, tf_i v5] G2 (fun o4 G5 => ∃ r6 : Int, o4 = .inl (some (tf_i r6)) ∧ (tf_RUN l 70 [tf_r 35, tf_i r3, tf_i r6] G5 (fun o7 G8 => o7 = .inl none ∧ ((-2147483648 ≤ v5 + 1 ∧ v5 + 1 ≤ 2147483647) ∧ (tf_AW l 69 none Post 48 [(0, tf_r 35), (1, tf_i v1), (2, tf_i v2), (4, tf_i v4), (5, tf_i (v5 + 1))] [] (none, false) G8)))))))))) : tf_AW l 69 none Post 48 [(0, tf_r 35), (1, tf_i v1), (2, tf_i v2), (4, tf_i v4), (5, tf_i v5)] [] (none, false) G :=
  tf_vc_ok (cuts := [(48, [0, 1, 2, 4, 5])]) (f := 51) h
-- 70: Pairs_add(II)V
set_option maxRecDepth 8000 in
theorem vc_70 {l : Launch} {Post : tf_Out → tf_Sto → Prop} {G : tf_Sto} {v1 v2 : Int} (h : (-2147483648 ≤ v1 * 300 ∧ v1 * 300 ≤ 2147483647) ∧ ((-2147483648 ≤ (v1 * 300) + v2 ∧ (v1 * 300) + v2 ≤ 2147483647) ∧ ((0 ≤ (tf_shr ((v1 * 300) + v2) 6) ∧ (tf_shr ((v1 * 300) + v2) 6) < 1407) ∧ (((tf_lcmp (tf_land (G 37 (tf_shr ((v1 * 300) + v2) 6)) (tf_lshl 1 (tf_and ((v1 * 300) + v2) 63))) 0) ≠ 0 → (Post (.inl none) G)) ∧ ((tf_lcmp (tf_land (G 37 (tf_shr ((v1 * 300) + v2) 6)) (tf_lshl 1 (tf_and ((v1 * 300) + v2) 63))) 0) = 0 → ((0 ≤ (tf_shr ((v1 * 300) + v2) 6) ∧ (tf_shr ((v1 * 300) + v2) 6) < 1407) ∧ ((0 ≤ (tf_shr ((v1 * 300) + v2) 6) ∧ (tf_shr ((v1 * 300) + v2) 6) < 1407) ∧ ((0 ≤ (G 35 0) ∧ (G 35 0) < 90000) ∧ ((-2147483648 ≤ (G 35 0) + 1 ∧ (G 35 0) + 1 ≤ 2147483647) ∧ (Post (.inl none) (tf_up (tf_up (tf_up G 37 (tf_shr ((v1 * 300) + v2) 6) (tf_lor (G 37 (tf_shr ((v1 * 300) + v2) 6)) (tf_lshl 1 (tf_and ((v1 * 300) + v2) 63)))) 36 (G 35 0) ((v1 * 300) + v2)) 35 0 ((G 35 0) + 1)))))))))))) : tf_RUN l 70 [tf_r 35, tf_i v1, tf_i v2] G Post :=
  tf_run rfl rfl (tf_vc_ok (cuts := []) (f := 51) h)
-- 71: Writing_write(I)Z
set_option maxRecDepth 8000 in
theorem vc_71 {l : Launch} {Post : tf_Out → tf_Sto → Prop} {G : tf_Sto} {v1 : Int} (h : tf_RUN l 75 [tf_r 38, tf_i v1] (tf_up (tf_up G 38 4 0) 38 6 0) (fun o1 G2 => o1 = .inl none ∧ (tf_AW l 71 none Post 17 [(0, tf_r 38), (2, tf_i 0)] [] (none, false) G2))) : tf_RUN l 71 [tf_r 38, tf_i v1] G Post :=
  tf_run rfl rfl (tf_vc_ok (cuts := [(17, [0, 2])]) (f := 58) h)
set_option maxRecDepth 8000 in
theorem vc_71_17 {l : Launch} {Post : tf_Out → tf_Sto → Prop} {G : tf_Sto} {v2 : Int} (h : ((200 : Int) < v2 → (((G 38 4) ≤ (200 : Int) → ((0 ≤ (0 : Int) ∧ 0 ≤ (0 : Int) ∧ 0 ≤ (G 38 4) ∧ (0 : Int) + (G 38 4) ≤ 200 ∧ (0 : Int) + (G 38 4) ≤ 200) ∧ (((1 : Int) = 0 ∨ (1 : Int) = 1) ∧ Post (.inl (some (tf_i 1))) (tf_up (tf_cpy G 40 39 0 0 (G 38 4)) 38 0 (G 38 4))))) ∧ ((200 : Int) < (G 38 4) → (((0 : Int) = 0 ∨ (0 : Int) = 1) ∧ Post (.inl (some (tf_i 0))) G)))) ∧ (v2 ≤ (200 : Int) → (((G 38 6) ≤ 0 → (((G 38 4) ≤ (200 : Int) → ((0 ≤ (0 : Int) ∧ 0 ≤ (0 : Int) ∧ 0 ≤ (G 38 4) ∧ (0 : Int) + (G 38 4) ≤ 200 ∧ (0 : Int) + (G 38 4) ≤ 200) ∧ (((1 : Int) = 0 ∨ (1 : Int) = 1) ∧ Post (.inl (some (tf_i 1))) (tf_up (tf_cpy G 40 39 0 0 (G 38 4)) 38 0 (G 38 4))))) ∧ ((200 : Int) < (G 38 4) → (((0 : Int) = 0 ∨ (0 : Int) = 1) ∧ Post (.inl (some (tf_i 0))) G)))) ∧ (0 < (G 38 6) → ((-2147483648 ≤ (G 38 6) - 1 ∧ (G 38 6) - 1 ≤ 2147483647) ∧ ((0 ≤ (((G 38 6) - 1)) ∧ (((G 38 6) - 1)) < 1207) ∧ (tf_RUN l 73 [tf_r 38, tf_i (G 41 (((G 38 6) - 1)))] (tf_up G 38 6 ((G 38 6) - 1)) (fun o1 G2 => o1 = .inl none ∧ ((-2147483648 ≤ v2 + 1 ∧ v2 + 1 ≤ 2147483647) ∧ (tf_AW l 71 none Post 17 [(0, tf_r 38), (2, tf_i (v2 + 1))] [] (none, false) G2)))))))))) : tf_AW l 71 none Post 17 [(0, tf_r 38), (2, tf_i v2)] [] (none, false) G :=
  tf_vc_ok (cuts := [(17, [0, 2])]) (f := 58) h
-- 72: Writing_eightFrom(I)J
set_option maxRecDepth 8000 in
theorem vc_72 {l : Launch} {Post : tf_Out → tf_Sto → Prop} {G : tf_Sto} {v1 : Int} (h : tf_AW l 72 none Post 6 [(0, tf_r 38), (1, tf_i v1), (2, tf_l 0), (4, tf_i 7)] [] (none, false) G) : tf_RUN l 72 [tf_r 38, tf_i v1] G Post :=
  tf_run rfl rfl (tf_vc_ok (cuts := [(6, [0, 1, 2, 4])]) (f := 37) h)
set_option maxRecDepth 8000 in
theorem vc_72_6 {l : Launch} {Post : tf_Out → tf_Sto → Prop} {G : tf_Sto} {v1 v2 v4 : Int} (h : (v4 < 0 → (Post (.inl (some (tf_l v2))) G)) ∧ (0 ≤ v4 → ((-2147483648 ≤ v1 + v4 ∧ v1 + v4 ≤ 2147483647) ∧ (((G 38 0) ≤ (v1 + v4) → ((-2147483648 ≤ v4 + (-1) ∧ v4 + (-1) ≤ 2147483647) ∧ (tf_AW l 72 none Post 6 [(0, tf_r 38), (1, tf_i v1), (2, tf_l (tf_lor (tf_lshl v2 8) 0)), (4, tf_i (v4 + (-1)))] [] (none, false) G))) ∧ ((v1 + v4) < (G 38 0) → ((-2147483648 ≤ v1 + v4 ∧ v1 + v4 ≤ 2147483647) ∧ ((0 ≤ (v1 + v4) ∧ (v1 + v4) < 200) ∧ ((-2147483648 ≤ v4 + (-1) ∧ v4 + (-1) ≤ 2147483647) ∧ (tf_AW l 72 none Post 6 [(0, tf_r 38), (1, tf_i v1), (2, tf_l (tf_lor (tf_lshl v2 8) (tf_land (G 39 (v1 + v4)) 255))), (4, tf_i (v4 + (-1)))] [] (none, false) G))))))))) : tf_AW l 72 none Post 6 [(0, tf_r 38), (1, tf_i v1), (2, tf_l v2), (4, tf_i v4)] [] (none, false) G :=
  tf_vc_ok (cuts := [(6, [0, 1, 2, 4])]) (f := 37) h
-- 73: Writing_writeNext(I)V
set_option maxRecDepth 8000 in
theorem vc_73 {l : Launch} {Post : tf_Out → tf_Sto → Prop} {G : tf_Sto} {v1 : Int} (h : (0 ≤ v1 → ((0 ≤ v1 ∧ v1 < 300) ∧ (((G 16 v1) ≠ ((-1) : Int) → (tf_RUN l 77 [tf_r 38, tf_i 83] G (fun o1 G2 => o1 = .inl none ∧ ((0 ≤ v1 ∧ v1 < 300) ∧ (tf_RUN l 23 [tf_i (G2 16 v1)] G2 (fun o4 G5 => ∃ r6 : Int, o4 = .inl (some (tf_i r6)) ∧ (tf_RUN l 76 [tf_r 38, tf_i r6] G5 (fun o7 G8 => o7 = .inl none ∧ ((0 ≤ v1 ∧ v1 < 300) ∧ (tf_RUN l 24 [tf_i (G8 16 v1)] G8 (fun o10 G11 => ∃ r12 : Int, o10 = .inl (some (tf_i r12)) ∧ (tf_RUN l 74 [tf_r 38, tf_i v1, tf_i r12] G11 (fun o13 G14 => o13 = .inl none ∧ (Post (.inl none) G14)))))))))))))) ∧ ((G 16 v1) = ((-1) : Int) → (tf_RUN l 77 [tf_r 38, tf_i 86] G (fun o16 G17 => o16 = .inl none ∧ ((0 ≤ v1 ∧ v1 < 300) ∧ (tf_RUN l 76 [tf_r 38, tf_i (G17 17 v1)] G17 (fun o19 G20 => o19 = .inl none ∧ (Post (.inl none) G20)))))))))) ∧ (v1 < 0 → ((-2147483648 ≤ -v1 ∧ -v1 ≤ 2147483647) ∧ (tf_RUN l 77 [tf_r 38, tf_i (-v1)] G (fun o22 G23 => o22 = .inl none ∧ (Post (.inl none) G23)))))) : tf_RUN l 73 [tf_r 38, tf_i v1] G Post :=
  tf_run rfl rfl (tf_vc_ok (cuts := []) (f := 51) h)
-- 74: Writing_writeBelow(II)V
set_option maxRecDepth 8000 in
theorem vc_74 {l : Launch} {Post : tf_Out → tf_Sto → Prop} {G : tf_Sto} {v1 v2 : Int} (h : (v2 ≠ 0 → (tf_RUN l 77 [tf_r 38, tf_i 40] G (fun o1 G2 => o1 = .inl none ∧ (tf_RUN l 75 [tf_r 38, tf_i (-41)] G2 (fun o4 G5 => o4 = .inl none ∧ ((-2147483648 ≤ v2 - 1 ∧ v2 - 1 ≤ 2147483647) ∧ (tf_AW l 74 none Post 21 [(0, tf_r 38), (1, tf_i v1), (3, tf_i (v2 - 1))] [] (none, false) G5))))))) ∧ (v2 = 0 → (Post (.inl none) G))) : tf_RUN l 74 [tf_r 38, tf_i v1, tf_i v2] G Post :=
  tf_run rfl rfl (tf_vc_ok (cuts := [(21, [0, 1, 3])]) (f := 35) h)
set_option maxRecDepth 8000 in
theorem vc_74_21 {l : Launch} {Post : tf_Out → tf_Sto → Prop} {G : tf_Sto} {v1 v3 : Int} (h : (v3 < 0 → (Post (.inl none) G)) ∧ (0 ≤ v3 → (tf_RUN l 43 [tf_r 15, tf_i v1, tf_i v3] G (fun o1 G2 => ∃ r3 : Int, o1 = .inl (some (tf_i r3)) ∧ (tf_RUN l 75 [tf_r 38, tf_i r3] G2 (fun o4 G5 => o4 = .inl none ∧ ((v3 ≤ 0 → ((-2147483648 ≤ v3 + (-1) ∧ v3 + (-1) ≤ 2147483647) ∧ (tf_AW l 74 none Post 21 [(0, tf_r 38), (1, tf_i v1), (3, tf_i (v3 + (-1)))] [] (none, false) G5))) ∧ (0 < v3 → (tf_RUN l 75 [tf_r 38, tf_i (-44)] G5 (fun o7 G8 => o7 = .inl none ∧ ((-2147483648 ≤ v3 + (-1) ∧ v3 + (-1) ≤ 2147483647) ∧ (tf_AW l 74 none Post 21 [(0, tf_r 38), (1, tf_i v1), (3, tf_i (v3 + (-1)))] [] (none, false) G8)))))))))))) : tf_AW l 74 none Post 21 [(0, tf_r 38), (1, tf_i v1), (3, tf_i v3)] [] (none, false) G :=
  tf_vc_ok (cuts := [(21, [0, 1, 3])]) (f := 35) h
-- 75: Writing_await(I)V
set_option maxRecDepth 8000 in
theorem vc_75 {l : Launch} {Post : tf_Out → tf_Sto → Prop} {G : tf_Sto} {v1 : Int} (h : ((1207 : Int) ≤ (G 38 6) → (Post (.inl none) G)) ∧ ((G 38 6) < (1207 : Int) → ((0 ≤ (G 38 6) ∧ (G 38 6) < 1207) ∧ ((-2147483648 ≤ (G 38 6) + 1 ∧ (G 38 6) + 1 ≤ 2147483647) ∧ (Post (.inl none) (tf_up (tf_up G 41 (G 38 6) v1) 38 6 ((G 38 6) + 1))))))) : tf_RUN l 75 [tf_r 38, tf_i v1] G Post :=
  tf_run rfl rfl (tf_vc_ok (cuts := []) (f := 22) h)
-- 76: Writing_putNumber(I)V
set_option maxRecDepth 8000 in
theorem vc_76 {l : Launch} {Post : tf_Out → tf_Sto → Prop} {G : tf_Sto} {v1 : Int} (h : (v1 < (100 : Int) → ((v1 < (10 : Int) → ((0 ≤ v1 ∧ 0 < (10 : Int)) ∧ ((-2147483648 ≤ 48 + (v1 % 10) ∧ 48 + (v1 % 10) ≤ 2147483647) ∧ (tf_RUN l 77 [tf_r 38, tf_i (48 + (v1 % 10))] G (fun o1 G2 => o1 = .inl none ∧ (Post (.inl none) G2)))))) ∧ ((10 : Int) ≤ v1 → ((0 ≤ v1 ∧ 0 < (10 : Int)) ∧ ((0 ≤ (v1 / 10) ∧ 0 < (10 : Int)) ∧ ((-2147483648 ≤ 48 + ((v1 / 10) % 10) ∧ 48 + ((v1 / 10) % 10) ≤ 2147483647) ∧ (tf_RUN l 77 [tf_r 38, tf_i (48 + ((v1 / 10) % 10))] G (fun o4 G5 => o4 = .inl none ∧ ((0 ≤ v1 ∧ 0 < (10 : Int)) ∧ ((-2147483648 ≤ 48 + (v1 % 10) ∧ 48 + (v1 % 10) ≤ 2147483647) ∧ (tf_RUN l 77 [tf_r 38, tf_i (48 + (v1 % 10))] G5 (fun o7 G8 => o7 = .inl none ∧ (Post (.inl none) G8))))))))))))) ∧ ((100 : Int) ≤ v1 → ((0 ≤ v1 ∧ 0 < (100 : Int)) ∧ ((-2147483648 ≤ 48 + (v1 / 100) ∧ 48 + (v1 / 100) ≤ 2147483647) ∧ (tf_RUN l 77 [tf_r 38, tf_i (48 + (v1 / 100))] G (fun o10 G11 => o10 = .inl none ∧ ((v1 < (10 : Int) → ((0 ≤ v1 ∧ 0 < (10 : Int)) ∧ ((-2147483648 ≤ 48 + (v1 % 10) ∧ 48 + (v1 % 10) ≤ 2147483647) ∧ (tf_RUN l 77 [tf_r 38, tf_i (48 + (v1 % 10))] G11 (fun o13 G14 => o13 = .inl none ∧ (Post (.inl none) G14)))))) ∧ ((10 : Int) ≤ v1 → ((0 ≤ v1 ∧ 0 < (10 : Int)) ∧ ((0 ≤ (v1 / 10) ∧ 0 < (10 : Int)) ∧ ((-2147483648 ≤ 48 + ((v1 / 10) % 10) ∧ 48 + ((v1 / 10) % 10) ≤ 2147483647) ∧ (tf_RUN l 77 [tf_r 38, tf_i (48 + ((v1 / 10) % 10))] G11 (fun o16 G17 => o16 = .inl none ∧ ((0 ≤ v1 ∧ 0 < (10 : Int)) ∧ ((-2147483648 ≤ 48 + (v1 % 10) ∧ 48 + (v1 % 10) ≤ 2147483647) ∧ (tf_RUN l 77 [tf_r 38, tf_i (48 + (v1 % 10))] G17 (fun o19 G20 => o19 = .inl none ∧ (Post (.inl none) G20)))))))))))))))))) : tf_RUN l 76 [tf_r 38, tf_i v1] G Post :=
  tf_run rfl rfl (tf_vc_ok (cuts := []) (f := 35) h)
-- 77: Writing_put(I)V
set_option maxRecDepth 8000 in
theorem vc_77 {l : Launch} {Post : tf_Out → tf_Sto → Prop} {G : tf_Sto} {v1 : Int} (h : ((200 : Int) ≤ (G 38 4) → ((-2147483648 ≤ (G 38 4) + 1 ∧ (G 38 4) + 1 ≤ 2147483647) ∧ (Post (.inl none) (tf_up G 38 4 ((G 38 4) + 1))))) ∧ ((G 38 4) < (200 : Int) → ((-128 ≤ v1 ∧ v1 ≤ 127) ∧ ((0 ≤ (G 38 4) ∧ (G 38 4) < 200) ∧ (-128 ≤ v1 ∧ v1 ≤ 127) ∧ ((-2147483648 ≤ (G 38 4) + 1 ∧ (G 38 4) + 1 ≤ 2147483647) ∧ (Post (.inl none) (tf_up (tf_up G 40 (G 38 4) v1) 38 4 ((G 38 4) + 1)))))))) : tf_RUN l 77 [tf_r 38, tf_i v1] G Post :=
  tf_run rfl rfl (tf_vc_ok (cuts := []) (f := 23) h)
-- 128: L_variable(LTermForge;[J)I
set_option maxRecDepth 8000 in
theorem vc_128 {l : Launch} {Post : tf_Out → tf_Sto → Prop} {G : tf_Sto} (h : (0 + 1 ≤ 1 ∧ 0 + 6 ≤ 6) ∧ tf_RUN l 0 [tf_r 0] G (fun o1 G2 => (∃ r3 : Int, o1 = .inl (some (tf_i r3)) ∧ ((0 ≤ (0 : Int) ∧ (0 : Int) < 1) ∧ (Post (.inl (some (tf_i 0))) (tf_up G2 67 0 r3)))) ∨ (o1 = .inr 0 ∧ (False)) ∨ (o1 = .inr 1 ∧ (Post (.inl (some (tf_i 1))) G2)) ∨ (o1 = .inr 2 ∧ (False)))) : tf_RUN l 128 [tf_r 0, tf_r 67] G Post :=
  tf_run rfl rfl (tf_vc_ok (cuts := []) (f := 17) h)
-- 129: L_sign(LTermForge;IIIII[J)I
set_option maxRecDepth 8000 in
theorem vc_129 {l : Launch} {Post : tf_Out → tf_Sto → Prop} {G : tf_Sto} {v1 v2 v3 v4 v5 : Int} (h : (0 + 5 ≤ 5 ∧ 0 + 30 ≤ 30) ∧ tf_RUN l 1 [tf_r 0, tf_i v1, tf_i v2, tf_i v3, tf_i v4, tf_i v5] G (fun o1 G2 => (∃ r3 : Int, o1 = .inl (some (tf_i r3)) ∧ ((0 ≤ (0 : Int) ∧ (0 : Int) < 1) ∧ (Post (.inl (some (tf_i 0))) (tf_up G2 67 0 r3)))) ∨ (o1 = .inr 0 ∧ (Post (.inl (some (tf_i 1))) G2)) ∨ (o1 = .inr 1 ∧ (Post (.inl (some (tf_i 2))) G2)) ∨ (o1 = .inr 2 ∧ (False)))) : tf_RUN l 129 [tf_r 0, tf_i v1, tf_i v2, tf_i v3, tf_i v4, tf_i v5, tf_r 67] G Post :=
  tf_run rfl rfl (tf_vc_ok (cuts := []) (f := 25) h)
-- 130: L_join(LTermForge;II[J)I
set_option maxRecDepth 8000 in
theorem vc_130 {l : Launch} {Post : tf_Out → tf_Sto → Prop} {G : tf_Sto} {v1 v2 : Int} (h : (0 + 2 ≤ 2 ∧ 0 + 12 ≤ 12) ∧ tf_RUN l 2 [tf_r 0, tf_i v1, tf_i v2] G (fun o1 G2 => (∃ r3 : Int, o1 = .inl (some (tf_i r3)) ∧ ((r3 = 0 → ((0 ≤ (0 : Int) ∧ (0 : Int) < 1) ∧ (Post (.inl (some (tf_i 0))) (tf_up G2 67 0 0)))) ∧ (r3 ≠ 0 → ((0 ≤ (0 : Int) ∧ (0 : Int) < 1) ∧ (Post (.inl (some (tf_i 0))) (tf_up G2 67 0 1)))))) ∨ (o1 = .inr 0 ∧ (Post (.inl (some (tf_i 1))) G2)) ∨ (o1 = .inr 1 ∧ (False)) ∨ (o1 = .inr 2 ∧ (False)))) : tf_RUN l 130 [tf_r 0, tf_i v1, tf_i v2, tf_r 67] G Post :=
  tf_run rfl rfl (tf_vc_ok (cuts := []) (f := 22) h)
-- 131: L_could(LTermForge;II[J)I
set_option maxRecDepth 8000 in
theorem vc_131 {l : Launch} {Post : tf_Out → tf_Sto → Prop} {G : tf_Sto} {v1 v2 : Int} (h : (0 + 2 ≤ 2 ∧ 0 + 12 ≤ 12) ∧ tf_RUN l 3 [tf_r 0, tf_i v1, tf_i v2] G (fun o1 G2 => (∃ r3 : Int, o1 = .inl (some (tf_i r3)) ∧ ((r3 = 0 → ((0 ≤ (0 : Int) ∧ (0 : Int) < 1) ∧ (Post (.inl (some (tf_i 0))) (tf_up G2 67 0 0)))) ∧ (r3 ≠ 0 → ((0 ≤ (0 : Int) ∧ (0 : Int) < 1) ∧ (Post (.inl (some (tf_i 0))) (tf_up G2 67 0 1)))))) ∨ (o1 = .inr 0 ∧ (Post (.inl (some (tf_i 1))) G2)) ∨ (o1 = .inr 1 ∧ (False)) ∨ (o1 = .inr 2 ∧ (False)))) : tf_RUN l 131 [tf_r 0, tf_i v1, tf_i v2, tf_r 67] G Post :=
  tf_run rfl rfl (tf_vc_ok (cuts := []) (f := 22) h)
-- 132: L_mark(LTermForge;[J)I
set_option maxRecDepth 8000 in
theorem vc_132 {l : Launch} {Post : tf_Out → tf_Sto → Prop} {G : tf_Sto} (h : (0 + 1 ≤ 1 ∧ 0 + 6 ≤ 6) ∧ tf_RUN l 4 [tf_r 0] G (fun o1 G2 => (∃ r3 : Int, o1 = .inl (some (tf_i r3)) ∧ ((0 ≤ (0 : Int) ∧ (0 : Int) < 1) ∧ (Post (.inl (some (tf_i 0))) (tf_up G2 67 0 r3)))) ∨ (o1 = .inr 0 ∧ (False)) ∨ (o1 = .inr 1 ∧ (Post (.inl (some (tf_i 1))) G2)) ∨ (o1 = .inr 2 ∧ (False)))) : tf_RUN l 132 [tf_r 0, tf_r 67] G Post :=
  tf_run rfl rfl (tf_vc_ok (cuts := []) (f := 17) h)
-- 133: L_undo(LTermForge;[J)I
set_option maxRecDepth 8000 in
theorem vc_133 {l : Launch} {Post : tf_Out → tf_Sto → Prop} {G : tf_Sto} (h : (0 + 1 ≤ 1 ∧ 0 + 6 ≤ 6) ∧ tf_RUN l 5 [tf_r 0] G (fun o1 G2 => (∃ r3 : Int, o1 = .inl (some (tf_i r3)) ∧ ((0 ≤ (0 : Int) ∧ (0 : Int) < 1) ∧ (Post (.inl (some (tf_i 0))) (tf_up G2 67 0 r3)))) ∨ (o1 = .inr 0 ∧ (False)) ∨ (o1 = .inr 1 ∧ (Post (.inl (some (tf_i 1))) G2)) ∨ (o1 = .inr 2 ∧ (False)))) : tf_RUN l 133 [tf_r 0, tf_r 67] G Post :=
  tf_run rfl rfl (tf_vc_ok (cuts := []) (f := 17) h)
-- 134: L_same(LTermForge;II[J)I
set_option maxRecDepth 8000 in
theorem vc_134 {l : Launch} {Post : tf_Out → tf_Sto → Prop} {G : tf_Sto} {v1 v2 : Int} (h : (0 + 2 ≤ 2 ∧ 0 + 12 ≤ 12) ∧ tf_RUN l 6 [tf_r 0, tf_i v1, tf_i v2] G (fun o1 G2 => (∃ r3 : Int, o1 = .inl (some (tf_i r3)) ∧ ((r3 = 0 → ((0 ≤ (0 : Int) ∧ (0 : Int) < 1) ∧ (Post (.inl (some (tf_i 0))) (tf_up G2 67 0 0)))) ∧ (r3 ≠ 0 → ((0 ≤ (0 : Int) ∧ (0 : Int) < 1) ∧ (Post (.inl (some (tf_i 0))) (tf_up G2 67 0 1)))))) ∨ (o1 = .inr 0 ∧ (Post (.inl (some (tf_i 1))) G2)) ∨ (o1 = .inr 1 ∧ (False)) ∨ (o1 = .inr 2 ∧ (False)))) : tf_RUN l 134 [tf_r 0, tf_i v1, tf_i v2, tf_r 67] G Post :=
  tf_run rfl rfl (tf_vc_ok (cuts := []) (f := 22) h)
-- 135: L_isFinite(LTermForge;I[J)I
set_option maxRecDepth 8000 in
theorem vc_135 {l : Launch} {Post : tf_Out → tf_Sto → Prop} {G : tf_Sto} {v1 : Int} (h : (0 + 1 ≤ 1 ∧ 0 + 6 ≤ 6) ∧ tf_RUN l 7 [tf_r 0, tf_i v1] G (fun o1 G2 => (∃ r3 : Int, o1 = .inl (some (tf_i r3)) ∧ ((r3 = 0 → ((0 ≤ (0 : Int) ∧ (0 : Int) < 1) ∧ (Post (.inl (some (tf_i 0))) (tf_up G2 67 0 0)))) ∧ (r3 ≠ 0 → ((0 ≤ (0 : Int) ∧ (0 : Int) < 1) ∧ (Post (.inl (some (tf_i 0))) (tf_up G2 67 0 1)))))) ∨ (o1 = .inr 0 ∧ (Post (.inl (some (tf_i 1))) G2)) ∨ (o1 = .inr 1 ∧ (False)) ∨ (o1 = .inr 2 ∧ (False)))) : tf_RUN l 135 [tf_r 0, tf_i v1, tf_r 67] G Post :=
  tf_run rfl rfl (tf_vc_ok (cuts := []) (f := 21) h)
-- 136: L_size(LTermForge;I[J)I
set_option maxRecDepth 8000 in
theorem vc_136 {l : Launch} {Post : tf_Out → tf_Sto → Prop} {G : tf_Sto} {v1 : Int} (h : (0 + 1 ≤ 1 ∧ 0 + 6 ≤ 6) ∧ tf_RUN l 8 [tf_r 0, tf_i v1] G (fun o1 G2 => (∃ r3 : Int, o1 = .inl (some (tf_l r3)) ∧ ((0 ≤ (0 : Int) ∧ (0 : Int) < 1) ∧ (Post (.inl (some (tf_i 0))) (tf_up G2 67 0 r3)))) ∨ (o1 = .inr 0 ∧ (Post (.inl (some (tf_i 1))) G2)) ∨ (o1 = .inr 1 ∧ (False)) ∨ (o1 = .inr 2 ∧ (False)))) : tf_RUN l 136 [tf_r 0, tf_i v1, tf_r 67] G Post :=
  tf_run rfl rfl (tf_vc_ok (cuts := []) (f := 17) h)
-- 137: L_depth(LTermForge;I[J)I
set_option maxRecDepth 8000 in
theorem vc_137 {l : Launch} {Post : tf_Out → tf_Sto → Prop} {G : tf_Sto} {v1 : Int} (h : (0 + 1 ≤ 1 ∧ 0 + 6 ≤ 6) ∧ tf_RUN l 9 [tf_r 0, tf_i v1] G (fun o1 G2 => (∃ r3 : Int, o1 = .inl (some (tf_i r3)) ∧ ((0 ≤ (0 : Int) ∧ (0 : Int) < 1) ∧ (Post (.inl (some (tf_i 0))) (tf_up G2 67 0 r3)))) ∨ (o1 = .inr 0 ∧ (Post (.inl (some (tf_i 1))) G2)) ∨ (o1 = .inr 1 ∧ (False)) ∨ (o1 = .inr 2 ∧ (False)))) : tf_RUN l 137 [tf_r 0, tf_i v1, tf_r 67] G Post :=
  tf_run rfl rfl (tf_vc_ok (cuts := []) (f := 18) h)
-- 138: L_variables(LTermForge;I[J)I
set_option maxRecDepth 8000 in
theorem vc_138 {l : Launch} {Post : tf_Out → tf_Sto → Prop} {G : tf_Sto} {v1 : Int} (h : (0 + 1 ≤ 1 ∧ 0 + 6 ≤ 6) ∧ tf_RUN l 10 [tf_r 0, tf_i v1] G (fun o1 G2 => (∃ r3 : Int, o1 = .inl (some (tf_i r3)) ∧ ((0 ≤ (0 : Int) ∧ (0 : Int) < 1) ∧ (Post (.inl (some (tf_i 0))) (tf_up G2 67 0 r3)))) ∨ (o1 = .inr 0 ∧ (Post (.inl (some (tf_i 1))) G2)) ∨ (o1 = .inr 1 ∧ (False)) ∨ (o1 = .inr 2 ∧ (False)))) : tf_RUN l 138 [tf_r 0, tf_i v1, tf_r 67] G Post :=
  tf_run rfl rfl (tf_vc_ok (cuts := []) (f := 18) h)
-- 139: L_parts(LTermForge;I[J)I
set_option maxRecDepth 8000 in
theorem vc_139 {l : Launch} {Post : tf_Out → tf_Sto → Prop} {G : tf_Sto} {v1 : Int} (h : (0 + 1 ≤ 1 ∧ 0 + 6 ≤ 6) ∧ tf_RUN l 11 [tf_r 0, tf_i v1] G (fun o1 G2 => (∃ r3 : Int, o1 = .inl (some (tf_i r3)) ∧ ((0 ≤ (0 : Int) ∧ (0 : Int) < 1) ∧ (Post (.inl (some (tf_i 0))) (tf_up G2 67 0 r3)))) ∨ (o1 = .inr 0 ∧ (Post (.inl (some (tf_i 1))) G2)) ∨ (o1 = .inr 1 ∧ (False)) ∨ (o1 = .inr 2 ∧ (False)))) : tf_RUN l 139 [tf_r 0, tf_i v1, tf_r 67] G Post :=
  tf_run rfl rfl (tf_vc_ok (cuts := []) (f := 18) h)
-- 140: L_instance(LTermForge;II[J)I
set_option maxRecDepth 8000 in
theorem vc_140 {l : Launch} {Post : tf_Out → tf_Sto → Prop} {G : tf_Sto} {v1 v2 : Int} (h : (0 + 2 ≤ 2 ∧ 0 + 12 ≤ 12) ∧ tf_RUN l 12 [tf_r 0, tf_i v1, tf_i v2] G (fun o1 G2 => (∃ r3 : Int, o1 = .inl (some (tf_i r3)) ∧ ((r3 = 0 → ((0 ≤ (0 : Int) ∧ (0 : Int) < 1) ∧ (Post (.inl (some (tf_i 0))) (tf_up G2 67 0 0)))) ∧ (r3 ≠ 0 → ((0 ≤ (0 : Int) ∧ (0 : Int) < 1) ∧ (Post (.inl (some (tf_i 0))) (tf_up G2 67 0 1)))))) ∨ (o1 = .inr 0 ∧ (Post (.inl (some (tf_i 1))) G2)) ∨ (o1 = .inr 1 ∧ (False)) ∨ (o1 = .inr 2 ∧ (False)))) : tf_RUN l 140 [tf_r 0, tf_i v1, tf_i v2, tf_r 67] G Post :=
  tf_run rfl rfl (tf_vc_ok (cuts := []) (f := 22) h)
-- 141: L_variant(LTermForge;II[J)I
set_option maxRecDepth 8000 in
theorem vc_141 {l : Launch} {Post : tf_Out → tf_Sto → Prop} {G : tf_Sto} {v1 v2 : Int} (h : (0 + 2 ≤ 2 ∧ 0 + 12 ≤ 12) ∧ tf_RUN l 13 [tf_r 0, tf_i v1, tf_i v2] G (fun o1 G2 => (∃ r3 : Int, o1 = .inl (some (tf_i r3)) ∧ ((r3 = 0 → ((0 ≤ (0 : Int) ∧ (0 : Int) < 1) ∧ (Post (.inl (some (tf_i 0))) (tf_up G2 67 0 0)))) ∧ (r3 ≠ 0 → ((0 ≤ (0 : Int) ∧ (0 : Int) < 1) ∧ (Post (.inl (some (tf_i 0))) (tf_up G2 67 0 1)))))) ∨ (o1 = .inr 0 ∧ (Post (.inl (some (tf_i 1))) G2)) ∨ (o1 = .inr 1 ∧ (False)) ∨ (o1 = .inr 2 ∧ (False)))) : tf_RUN l 141 [tf_r 0, tf_i v1, tf_i v2, tf_r 67] G Post :=
  tf_run rfl rfl (tf_vc_ok (cuts := []) (f := 22) h)
-- 142: L_common(LTermForge;III[J)I
set_option maxRecDepth 8000 in
theorem vc_142 {l : Launch} {Post : tf_Out → tf_Sto → Prop} {G : tf_Sto} {v1 v2 v3 : Int} (h : (0 + 3 ≤ 3 ∧ 0 + 18 ≤ 18) ∧ tf_RUN l 14 [tf_r 0, tf_i v1, tf_i v2, tf_i v3] G (fun o1 G2 => (∃ r3 : Int, o1 = .inl (some (tf_i r3)) ∧ ((0 ≤ (0 : Int) ∧ (0 : Int) < 1) ∧ (Post (.inl (some (tf_i 0))) (tf_up G2 67 0 r3)))) ∨ (o1 = .inr 0 ∧ (Post (.inl (some (tf_i 1))) G2)) ∨ (o1 = .inr 1 ∧ (False)) ∨ (o1 = .inr 2 ∧ (False)))) : tf_RUN l 142 [tf_r 0, tf_i v1, tf_i v2, tf_i v3, tf_r 67] G Post :=
  tf_run rfl rfl (tf_vc_ok (cuts := []) (f := 20) h)
-- 143: L_text(LTermForge;I[J)I
set_option maxRecDepth 8000 in
theorem vc_143 {l : Launch} {Post : tf_Out → tf_Sto → Prop} {G : tf_Sto} {v1 : Int} (h : (0 + 1 ≤ 1 ∧ 0 + 6 ≤ 6) ∧ tf_RUN l 15 [tf_r 0, tf_i v1] G (fun o1 G2 => (∃ r3 : Int, o1 = .inl (some (tf_i r3)) ∧ ((0 ≤ (0 : Int) ∧ (0 : Int) < 1) ∧ (Post (.inl (some (tf_i 0))) (tf_up G2 67 0 r3)))) ∨ (o1 = .inr 0 ∧ (Post (.inl (some (tf_i 1))) G2)) ∨ (o1 = .inr 1 ∧ (False)) ∨ (o1 = .inr 2 ∧ (False)))) : tf_RUN l 143 [tf_r 0, tf_i v1, tf_r 67] G Post :=
  tf_run rfl rfl (tf_vc_ok (cuts := []) (f := 18) h)
-- 144: L_out(LTermForge;I[J)I
set_option maxRecDepth 8000 in
theorem vc_144 {l : Launch} {Post : tf_Out → tf_Sto → Prop} {G : tf_Sto} {v1 : Int} (h : (0 + 1 ≤ 1 ∧ 0 + 6 ≤ 6) ∧ tf_RUN l 16 [tf_r 0, tf_i v1] G (fun o1 G2 => (∃ r3 : Int, o1 = .inl (some (tf_l r3)) ∧ ((0 ≤ (0 : Int) ∧ (0 : Int) < 1) ∧ (Post (.inl (some (tf_i 0))) (tf_up G2 67 0 r3)))) ∨ (o1 = .inr 0 ∧ (False)) ∨ (o1 = .inr 1 ∧ (False)) ∨ (o1 = .inr 2 ∧ (Post (.inl (some (tf_i 1))) G2)))) : tf_RUN l 144 [tf_r 0, tf_i v1, tf_r 67] G Post :=
  tf_run rfl rfl (tf_vc_ok (cuts := []) (f := 17) h)
-- 145: L_look(LTermForge;I[J)I
set_option maxRecDepth 8000 in
theorem vc_145 {l : Launch} {Post : tf_Out → tf_Sto → Prop} {G : tf_Sto} {v1 : Int} (h : (0 + 1 ≤ 1 ∧ 0 + 6 ≤ 6) ∧ tf_RUN l 17 [tf_r 0, tf_i v1] G (fun o1 G2 => (∃ r3 : Int, o1 = .inl (some (tf_i r3)) ∧ ((0 ≤ (0 : Int) ∧ (0 : Int) < 1) ∧ (Post (.inl (some (tf_i 0))) (tf_up G2 67 0 r3)))) ∨ (o1 = .inr 0 ∧ (Post (.inl (some (tf_i 1))) G2)) ∨ (o1 = .inr 1 ∧ (False)) ∨ (o1 = .inr 2 ∧ (False)))) : tf_RUN l 145 [tf_r 0, tf_i v1, tf_r 67] G Post :=
  tf_run rfl rfl (tf_vc_ok (cuts := []) (f := 18) h)
set_option maxRecDepth 8000 in
theorem vc_146_21 {l : Launch} {Post : tf_Out → tf_Sto → Prop} {G : tf_Sto} {v1 : Int} (h : tf_AW l 146 none Post 5 [(0, tf_r 21), (1, tf_i v1), (2, tf_i 0), (3, tf_i 512)] [] (none, false) G) : tf_RUN l 146 [tf_r 21, tf_i v1] G Post :=
  tf_run rfl rfl (tf_vc_ok (cuts := [(5, [0, 1, 2, 3])]) (f := 20) h)
set_option maxRecDepth 8000 in
theorem vc_146_5_21 {l : Launch} {Post : tf_Out → tf_Sto → Prop} {G : tf_Sto} {v1 v2 v3 : Int} (h : (v3 ≤ v2 → (Post (.inl none) G)) ∧ (v2 < v3 → ((0 ≤ v2 ∧ v2 < 512) ∧ ((-2147483648 ≤ v2 + 1 ∧ v2 + 1 ≤ 2147483647) ∧ (tf_AW l 146 none Post 5 [(0, tf_r 21), (1, tf_i v1), (2, tf_i (v2 + 1)), (3, tf_i v3)] [] (none, false) (tf_up G 21 v2 v1)))))) : tf_AW l 146 none Post 5 [(0, tf_r 21), (1, tf_i v1), (2, tf_i v2), (3, tf_i v3)] [] (none, false) G :=
  tf_vc_ok (cuts := [(5, [0, 1, 2, 3])]) (f := 20) h
set_option maxRecDepth 8000 in
theorem vc_146_26 {l : Launch} {Post : tf_Out → tf_Sto → Prop} {G : tf_Sto} {v1 : Int} (h : tf_AW l 146 none Post 5 [(0, tf_r 26), (1, tf_i v1), (2, tf_i 0), (3, tf_i 300)] [] (none, false) G) : tf_RUN l 146 [tf_r 26, tf_i v1] G Post :=
  tf_run rfl rfl (tf_vc_ok (cuts := [(5, [0, 1, 2, 3])]) (f := 20) h)
set_option maxRecDepth 8000 in
theorem vc_146_5_26 {l : Launch} {Post : tf_Out → tf_Sto → Prop} {G : tf_Sto} {v1 v2 v3 : Int} (h : (v3 ≤ v2 → (Post (.inl none) G)) ∧ (v2 < v3 → ((0 ≤ v2 ∧ v2 < 300) ∧ ((-2147483648 ≤ v2 + 1 ∧ v2 + 1 ≤ 2147483647) ∧ (tf_AW l 146 none Post 5 [(0, tf_r 26), (1, tf_i v1), (2, tf_i (v2 + 1)), (3, tf_i v3)] [] (none, false) (tf_up G 26 v2 v1)))))) : tf_AW l 146 none Post 5 [(0, tf_r 26), (1, tf_i v1), (2, tf_i v2), (3, tf_i v3)] [] (none, false) G :=
  tf_vc_ok (cuts := [(5, [0, 1, 2, 3])]) (f := 20) h
set_option maxRecDepth 8000 in
theorem vc_146_33 {l : Launch} {Post : tf_Out → tf_Sto → Prop} {G : tf_Sto} {v1 : Int} (h : tf_AW l 146 none Post 5 [(0, tf_r 33), (1, tf_i v1), (2, tf_i 0), (3, tf_i 300)] [] (none, false) G) : tf_RUN l 146 [tf_r 33, tf_i v1] G Post :=
  tf_run rfl rfl (tf_vc_ok (cuts := [(5, [0, 1, 2, 3])]) (f := 20) h)
set_option maxRecDepth 8000 in
theorem vc_146_5_33 {l : Launch} {Post : tf_Out → tf_Sto → Prop} {G : tf_Sto} {v1 v2 v3 : Int} (h : (v3 ≤ v2 → (Post (.inl none) G)) ∧ (v2 < v3 → ((0 ≤ v2 ∧ v2 < 300) ∧ ((-2147483648 ≤ v2 + 1 ∧ v2 + 1 ≤ 2147483647) ∧ (tf_AW l 146 none Post 5 [(0, tf_r 33), (1, tf_i v1), (2, tf_i (v2 + 1)), (3, tf_i v3)] [] (none, false) (tf_up G 33 v2 v1)))))) : tf_AW l 146 none Post 5 [(0, tf_r 33), (1, tf_i v1), (2, tf_i v2), (3, tf_i v3)] [] (none, false) G :=
  tf_vc_ok (cuts := [(5, [0, 1, 2, 3])]) (f := 20) h
set_option maxRecDepth 8000 in
theorem vc_147_31 {l : Launch} {Post : tf_Out → tf_Sto → Prop} {G : tf_Sto} {v1 : Int} (h : tf_AW l 147 none Post 5 [(0, tf_r 31), (1, tf_i v1), (2, tf_i 0), (3, tf_i 300)] [] (none, false) G) : tf_RUN l 147 [tf_r 31, tf_i v1] G Post :=
  tf_run rfl rfl (tf_vc_ok (cuts := [(5, [0, 1, 2, 3])]) (f := 20) h)
set_option maxRecDepth 8000 in
theorem vc_147_5_31 {l : Launch} {Post : tf_Out → tf_Sto → Prop} {G : tf_Sto} {v1 v2 v3 : Int} (h : (v3 ≤ v2 → (Post (.inl none) G)) ∧ (v2 < v3 → ((0 ≤ v2 ∧ v2 < 300) ∧ (-128 ≤ v1 ∧ v1 ≤ 127) ∧ ((-2147483648 ≤ v2 + 1 ∧ v2 + 1 ≤ 2147483647) ∧ (tf_AW l 147 none Post 5 [(0, tf_r 31), (1, tf_i v1), (2, tf_i (v2 + 1)), (3, tf_i v3)] [] (none, false) (tf_up G 31 v2 v1)))))) : tf_AW l 147 none Post 5 [(0, tf_r 31), (1, tf_i v1), (2, tf_i v2), (3, tf_i v3)] [] (none, false) G :=
  tf_vc_ok (cuts := [(5, [0, 1, 2, 3])]) (f := 20) h
set_option maxRecDepth 8000 in
theorem vc_148_37 {l : Launch} {Post : tf_Out → tf_Sto → Prop} {G : tf_Sto} {v1 : Int} (h : tf_AW l 148 none Post 6 [(0, tf_r 37), (1, tf_l v1), (3, tf_i 0), (4, tf_i 1407)] [] (none, false) G) : tf_RUN l 148 [tf_r 37, tf_l v1] G Post :=
  tf_run rfl rfl (tf_vc_ok (cuts := [(6, [0, 1, 3, 4])]) (f := 20) h)
set_option maxRecDepth 8000 in
theorem vc_148_6_37 {l : Launch} {Post : tf_Out → tf_Sto → Prop} {G : tf_Sto} {v1 v3 v4 : Int} (h : (v4 ≤ v3 → (Post (.inl none) G)) ∧ (v3 < v4 → ((0 ≤ v3 ∧ v3 < 1407) ∧ ((-2147483648 ≤ v3 + 1 ∧ v3 + 1 ≤ 2147483647) ∧ (tf_AW l 148 none Post 6 [(0, tf_r 37), (1, tf_l v1), (3, tf_i (v3 + 1)), (4, tf_i v4)] [] (none, false) (tf_up G 37 v3 v1)))))) : tf_AW l 148 none Post 6 [(0, tf_r 37), (1, tf_l v1), (3, tf_i v3), (4, tf_i v4)] [] (none, false) G :=
  tf_vc_ok (cuts := [(6, [0, 1, 3, 4])]) (f := 20) h
