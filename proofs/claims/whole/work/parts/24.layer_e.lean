-- LAYER E: each instruction is what the machine does
theorem tf_pI_ok {st : List tf_Av} {k : Int → List tf_Av → Prop} (h : tf_pI st k) : ∃ x r, st = .inl x :: r ∧ k x r := by
  match st, h with
  | .inl x :: r, h => exact ⟨x, r, rfl, h⟩
theorem tf_pL_ok {st : List tf_Av} {k : Int → List tf_Av → Prop} (h : tf_pL st k) : ∃ x r, st = .inr (.inl x) :: r ∧ k x r := by
  match st, h with
  | .inr (.inl x) :: r, h => exact ⟨x, r, rfl, h⟩
theorem tf_pR_ok {st : List tf_Av} {k : Nat → List tf_Av → Prop} (h : tf_pR st k) : ∃ x r, st = .inr (.inr x) :: r ∧ k x r := by
  match st, h with
  | .inr (.inr x) :: r, h => exact ⟨x, r, rfl, h⟩
theorem tf_p1_ok {st : List tf_Av} {k : tf_Av → List tf_Av → Prop} (h : tf_p1 st k) : ∃ x r, st = x :: r ∧ tf_is2 x = false ∧ k x r := by
  match st, h with
  | x :: r, h =>
    cases hx : tf_is2 x with
    | true => simp [tf_p1, hx] at h
    | false => exact ⟨x, r, rfl, hx, by simpa [tf_p1, hx] using h⟩
theorem tf_get_ok {lo : tf_Lo} {i : Nat} {v : tf_Av} (h : tf_get lo i = some v) : (i, v) ∈ lo := by
  induction lo with
  | nil => cases h
  | cons q r ih =>
    unfold tf_get at h
    cases hb : Nat.beq q.1 i with
    | true =>
      rw [hb] at h
      have h1 : q.2 = v := by simpa using h
      have h2 : q.1 = i := Nat.eq_of_beq_eq_true hb
      have : q = (i, v) := by rw [← h1, ← h2]
      rw [this]
      exact List.mem_cons_self
    | false =>
      rw [hb] at h
      exact List.mem_cons_of_mem _ (ih (by simpa using h))
theorem tf_gI_ok {lo : tf_Lo} {i : Nat} {k : Int → Prop} (h : tf_gI lo i k) : ∃ x, (i, .inl x) ∈ lo ∧ k x := by
  unfold tf_gI at h
  split at h
  · rename_i x hx
    exact ⟨x, tf_get_ok hx, h⟩
  · exact h.elim
theorem tf_gL_ok {lo : tf_Lo} {i : Nat} {k : Int → Prop} (h : tf_gL lo i k) : ∃ x, (i, .inr (.inl x)) ∈ lo ∧ k x := by
  unfold tf_gL at h
  split at h
  · rename_i x hx
    exact ⟨x, tf_get_ok hx, h⟩
  · exact h.elim
theorem tf_gR_ok {lo : tf_Lo} {i : Nat} {k : Nat → Prop} (h : tf_gR lo i k) : ∃ x, (i, .inr (.inr x)) ∈ lo ∧ k x := by
  unfold tf_gR at h
  split at h
  · rename_i x hx
    exact ⟨x, tf_get_ok hx, h⟩
  · exact h.elim
theorem tf_bif {b : Bool} {P : Prop} (h : bif b then P else False) : b = true ∧ P := by
  cases b with
  | true => exact ⟨rfl, h⟩
  | false => exact h.elim
theorem tf_has {ls : Array Slot} {nL : Nat} {ad : Nat → Nat} {lo : tf_Lo} (hl : lv_has ls nL (lo.map (tf_cp ad))) {i : Nat} {v : tf_Av} (h : (i, v) ∈ lo) : ls[i]? = some (.val (tf_cv ad v)) :=
  hl.2.2 (i, tf_cv ad v) (List.mem_map.mpr ⟨(i, v), h, rfl⟩)
theorem tf_cat2 (ad : Nat → Nat) (v : tf_Av) : ((tf_cv ad v).category == 2) = tf_is2 v := by
  obtain z | z | k := v <;> rfl
theorem tf_cat1 {ad : Nat → Nat} {v : tf_Av} (h : tf_is2 v = false) : (tf_cv ad v).category = 1 := by
  obtain z | z | k := v
  · rfl
  · cases h
  · rfl
theorem tf_beq (a b : Nat) : (a == b) = Nat.beq a b := Bool.eq_iff_iff.mpr (by rw [beq_iff_eq, Nat.beq_eq])
theorem tf_ln {i : Instr} {n k : Nat} (h : tf_len i = 0 ∨ n = tf_len i) (e : tf_len i = k + 1) : n = k + 1 := by
  rcases h with h | h
  · omega
  · omega
theorem tf_flt1 (ad : Nat → Nat) (lo : tf_Lo) (i : Nat) (v : tf_Av) : (i, tf_cv ad v) :: (lo.map (tf_cp ad)).filter (fun q => !(q.1 == i) && !(q.1 + 1 == i && q.2.category == 2)) = (tf_set1 lo i v).map (tf_cp ad) := by
  unfold tf_set1
  rw [List.map_cons, List.filter_map]
  congr 2
  apply List.filter_congr
  intro q _
  show (!(q.1 == i) && !(q.1 + 1 == i && (tf_cv ad q.2).category == 2)) = _
  rw [tf_cat2, tf_beq, tf_beq]
theorem tf_flt2 (ad : Nat → Nat) (lo : tf_Lo) (i : Nat) (v : tf_Av) : (i, tf_cv ad v) :: (lo.map (tf_cp ad)).filter (fun q => !(q.1 == i) && (!(q.1 == i + 1) && !(q.1 + 1 == i && q.2.category == 2))) = (tf_set2 lo i v).map (tf_cp ad) := by
  unfold tf_set2
  rw [List.map_cons, List.filter_map]
  congr 2
  apply List.filter_congr
  intro q _
  show (!(q.1 == i) && (!(q.1 == i + 1) && !(q.1 + 1 == i && (tf_cv ad q.2).category == 2))) = _
  rw [tf_cat2, tf_beq, tf_beq, tf_beq]
theorem tf_ok_set1 {lo : tf_Lo} {i : Nat} {v : tf_Av} (h : ∀ q ∈ lo, tf_okv q.2) (hv : tf_okv v) : ∀ q ∈ tf_set1 lo i v, tf_okv q.2 := by
  intro q hq
  rcases List.mem_cons.mp hq with h1 | h1
  · rw [h1]; exact hv
  · exact h q (List.mem_filter.mp h1).1
theorem tf_ok_set2 {lo : tf_Lo} {i : Nat} {v : tf_Av} (h : ∀ q ∈ lo, tf_okv q.2) (hv : tf_okv v) : ∀ q ∈ tf_set2 lo i v, tf_okv q.2 := by
  intro q hq
  rcases List.mem_cons.mp hq with h1 | h1
  · rw [h1]; exact hv
  · exact h q (List.mem_filter.mp h1).1
theorem tf_ok_cons {v : tf_Av} {r : List tf_Av} (hv : tf_okv v) (hr : ∀ w ∈ r, tf_okv w) : ∀ w ∈ v :: r, tf_okv w := by
  intro w hw
  rcases List.mem_cons.mp hw with h1 | h1
  · rw [h1]; exact hv
  · exact hr w h1
theorem tf_ok_tl {v : tf_Av} {r : List tf_Av} (h : ∀ w ∈ v :: r, tf_okv w) : ∀ w ∈ r, tf_okv w := fun w hw => h w (List.mem_cons_of_mem _ hw)
theorem tf_ok_hd {v : tf_Av} {r : List tf_Av} (h : ∀ w ∈ v :: r, tf_okv w) : tf_okv v := h v List.mem_cons_self
theorem tf_b8_ok {z : Int} (h : tf_b8 z = true) : -128 ≤ z ∧ z ≤ 127 := by
  unfold tf_b8 at h
  rw [Bool.and_eq_true] at h
  exact ⟨of_decide_eq_true h.1, of_decide_eq_true h.2⟩
theorem tf_b16_ok {z : Int} (h : tf_b16 z = true) : -32768 ≤ z ∧ z ≤ 32767 := by
  unfold tf_b16 at h
  rw [Bool.and_eq_true] at h
  exact ⟨of_decide_eq_true h.1, of_decide_eq_true h.2⟩
theorem tf_i8 {z : Int} (h : -128 ≤ z ∧ z ≤ 127) : (Int8.ofInt z).toInt32 = Int32.ofInt z := by
  apply Int32.toInt_inj.mp
  rw [Int8.toInt_toInt32, tf_ti ⟨by omega, by omega⟩, Int8.toInt_ofInt]
  unfold Int.bmod
  simp only [Int8.size]
  split <;> omega
theorem tf_i16 {z : Int} (h : -32768 ≤ z ∧ z ≤ 32767) : (Int16.ofInt z).toInt32 = Int32.ofInt z := by
  apply Int32.toInt_inj.mp
  rw [Int16.toInt_toInt32, tf_ti ⟨by omega, by omega⟩, Int16.toInt_ofInt]
  unfold Int.bmod
  simp only [Int16.size]
  split <;> omega
theorem tf_lcmp_in (x z : Int) : tf_inI (tf_lcmp x z) := by
  unfold tf_lcmp
  split
  · exact ⟨by omega, by omega⟩
  · split <;> exact ⟨by omega, by omega⟩
theorem tf_lcmp_ok {x z : Int} (hx : tf_inL x) (hz : tf_inL z) : lg_cmp (Int64.ofInt x) (Int64.ofInt z) = Int32.ofInt (tf_lcmp x z) := by
  unfold lg_cmp tf_lcmp
  by_cases h1 : x < z
  · rw [if_neg (fun q => by have := (tf_llt hz hx).mp q; omega), if_neg (fun q => by have := (tf_leq hx hz).mp q; omega), if_pos h1]
    rfl
  · by_cases h2 : x = z
    · rw [if_neg (fun q => by have := (tf_llt hz hx).mp q; omega), if_pos ((tf_leq hx hz).mpr h2), if_neg h1, if_pos h2]
      rfl
    · rw [if_pos ((tf_llt hz hx).mpr (by omega)), if_neg h1, if_neg h2]
      rfl
theorem tf_tgt_ok {pc : Nat} {off : Int} (h : tf_back pc off = true) : (pc : Int) + off = ((tf_tgt pc off : Nat) : Int) := by
  unfold tf_back at h
  have := of_decide_eq_true h
  unfold tf_tgt
  omega

set_option maxHeartbeats 1000000 in
theorem tf_s_iconst {l : Launch} {y : Nat} {sc : Option (Nat × (Int → Int))} {Post : tf_Out → tf_Sto → Prop} {pc : Nat} {lo : tf_Lo} {st : List tf_Av} {cs : tf_Cs} {G : tf_Sto} {go : Nat → tf_Lo → List tf_Av → tf_Cs → tf_Sto → Prop} {z : Int} (hi : tf_tab y pc = some (.iconst z)) (hgo : ∀ pc lo st cs G, go pc lo st cs G → tf_AW l y sc Post pc lo st cs G) (h : bif tf_b8 z then go (pc + 1) lo (.inl z :: st) cs G else False) : tf_AW l y sc Post pc lo st cs G := by
  obtain ⟨n, hd, hn⟩ := tf_tab_ok hi
  have hn : n = 1 := tf_ln (k := 0) hn rfl
  subst hn
  obtain ⟨h8, h⟩ := tf_bif h
  have h8 := tf_b8_ok h8
  intro hG hlo hst p e s m args below meth c H locs ls D cA ad A C hP hD hS hl
  obtain ⟨hx, hb, hr, hml, hown, hts, hnw, hlk, hK, hA, hA0, hlt, hex, hfl, hsc, hsw⟩ := id C
  exact lv_iconst hx hb hd rfl (hgo _ _ _ _ _ h hG hlo (tf_ok_cons (v := .inl z) ⟨by omega, by omega⟩ hst) p e s m args below meth c H locs ls D cA ad A C hP hD hS hl)

set_option maxHeartbeats 1000000 in
theorem tf_s_bipush {l : Launch} {y : Nat} {sc : Option (Nat × (Int → Int))} {Post : tf_Out → tf_Sto → Prop} {pc : Nat} {lo : tf_Lo} {st : List tf_Av} {cs : tf_Cs} {G : tf_Sto} {go : Nat → tf_Lo → List tf_Av → tf_Cs → tf_Sto → Prop} {z : Int} (hi : tf_tab y pc = some (.bipush z)) (hgo : ∀ pc lo st cs G, go pc lo st cs G → tf_AW l y sc Post pc lo st cs G) (h : bif tf_b8 z then go (pc + 2) lo (.inl z :: st) cs G else False) : tf_AW l y sc Post pc lo st cs G := by
  obtain ⟨n, hd, hn⟩ := tf_tab_ok hi
  have hn : n = 2 := tf_ln (k := 1) hn rfl
  subst hn
  obtain ⟨h8, h⟩ := tf_bif h
  have h8 := tf_b8_ok h8
  intro hG hlo hst p e s m args below meth c H locs ls D cA ad A C hP hD hS hl
  obtain ⟨hx, hb, hr, hml, hown, hts, hnw, hlk, hK, hA, hA0, hlt, hex, hfl, hsc, hsw⟩ := id C
  exact lv_bipush hx hb hd (tf_i8 h8) (hgo _ _ _ _ _ h hG hlo (tf_ok_cons (v := .inl z) ⟨by omega, by omega⟩ hst) p e s m args below meth c H locs ls D cA ad A C hP hD hS hl)

set_option maxHeartbeats 1000000 in
theorem tf_s_sipush {l : Launch} {y : Nat} {sc : Option (Nat × (Int → Int))} {Post : tf_Out → tf_Sto → Prop} {pc : Nat} {lo : tf_Lo} {st : List tf_Av} {cs : tf_Cs} {G : tf_Sto} {go : Nat → tf_Lo → List tf_Av → tf_Cs → tf_Sto → Prop} {z : Int} (hi : tf_tab y pc = some (.sipush z)) (hgo : ∀ pc lo st cs G, go pc lo st cs G → tf_AW l y sc Post pc lo st cs G) (h : bif tf_b16 z then go (pc + 3) lo (.inl z :: st) cs G else False) : tf_AW l y sc Post pc lo st cs G := by
  obtain ⟨n, hd, hn⟩ := tf_tab_ok hi
  have hn : n = 3 := tf_ln (k := 2) hn rfl
  subst hn
  obtain ⟨h8, h⟩ := tf_bif h
  have h8 := tf_b16_ok h8
  intro hG hlo hst p e s m args below meth c H locs ls D cA ad A C hP hD hS hl
  obtain ⟨hx, hb, hr, hml, hown, hts, hnw, hlk, hK, hA, hA0, hlt, hex, hfl, hsc, hsw⟩ := id C
  exact lv_sipush hx hb hd (tf_i16 h8) (hgo _ _ _ _ _ h hG hlo (tf_ok_cons (v := .inl z) ⟨by omega, by omega⟩ hst) p e s m args below meth c H locs ls D cA ad A C hP hD hS hl)

set_option maxHeartbeats 1000000 in
theorem tf_s_lconst {l : Launch} {y : Nat} {sc : Option (Nat × (Int → Int))} {Post : tf_Out → tf_Sto → Prop} {pc : Nat} {lo : tf_Lo} {st : List tf_Av} {cs : tf_Cs} {G : tf_Sto} {go : Nat → tf_Lo → List tf_Av → tf_Cs → tf_Sto → Prop} {z : Fin 2} (hi : tf_tab y pc = some (.lconst z)) (hgo : ∀ pc lo st cs G, go pc lo st cs G → tf_AW l y sc Post pc lo st cs G) (h : go (pc + 1) lo (.inr (.inl (z : Nat)) :: st) cs G) : tf_AW l y sc Post pc lo st cs G := by
  obtain ⟨n, hd, hn⟩ := tf_tab_ok hi
  have hn : n = 1 := tf_ln (k := 0) hn rfl
  subst hn
  intro hG hlo hst p e s m args below meth c H locs ls D cA ad A C hP hD hS hl
  obtain ⟨hx, hb, hr, hml, hown, hts, hnw, hlk, hK, hA, hA0, hlt, hex, hfl, hsc, hsw⟩ := id C
  exact lv_lconst hx hb hd rfl (hgo _ _ _ _ _ h hG hlo (tf_ok_cons (v := .inr (.inl ((z : Nat) : Int))) ⟨by omega, by omega⟩ hst) p e s m args below meth c H locs ls D cA ad A C hP hD hS hl)

set_option maxHeartbeats 1000000 in
theorem tf_s_ldc {l : Launch} {y : Nat} {sc : Option (Nat × (Int → Int))} {Post : tf_Out → tf_Sto → Prop} {pc : Nat} {lo : tf_Lo} {st : List tf_Av} {cs : tf_Cs} {G : tf_Sto} {go : Nat → tf_Lo → List tf_Av → tf_Cs → tf_Sto → Prop} {ix : Nat} (hi : tf_tab y pc = some (.ldc ix)) (hgo : ∀ pc lo st cs G, go pc lo st cs G → tf_AW l y sc Post pc lo st cs G) (h : match tf_cst (tf_oc y) ix with
    | some z => bif decide (tf_inI z) then go (pc + 2) lo (.inl z :: st) cs G else False
    | none => False) : tf_AW l y sc Post pc lo st cs G := by
  obtain ⟨n, hd, hn⟩ := tf_tab_ok hi
  have hn : n = 2 := tf_ln (k := 1) hn rfl
  subst hn
  cases hc : tf_cst (tf_oc y) ix with
  | none => rw [hc] at h; exact h.elim
  | some z =>
  rw [hc] at h
  obtain ⟨h8, h⟩ := tf_bif h
  have h8 := of_decide_eq_true h8
  intro hG hlo hst p e s m args below meth c H locs ls D cA ad A C hP hD hS hl
  obtain ⟨hx, hb, hr, hml, hown, hts, hnw, hlk, hK, hA, hA0, hlt, hex, hfl, hsc, hsw⟩ := id C
  exact lv_ldc hx hb hown (hts _ (tf_cst_ok hc)) hd (hgo _ _ _ _ _ h hG hlo (tf_ok_cons (v := .inl z) h8 hst) p e s m args below meth c H locs ls D cA ad A C hP hD hS hl)

set_option maxHeartbeats 1000000 in
theorem tf_s_ldc2 {l : Launch} {y : Nat} {sc : Option (Nat × (Int → Int))} {Post : tf_Out → tf_Sto → Prop} {pc : Nat} {lo : tf_Lo} {st : List tf_Av} {cs : tf_Cs} {G : tf_Sto} {go : Nat → tf_Lo → List tf_Av → tf_Cs → tf_Sto → Prop} {ix : Nat} (hi : tf_tab y pc = some (.ldc2_w ix)) (hgo : ∀ pc lo st cs G, go pc lo st cs G → tf_AW l y sc Post pc lo st cs G) (h : match tf_csl (tf_oc y) ix with
    | some z => bif decide (tf_inL z) then go (pc + 3) lo (.inr (.inl z) :: st) cs G else False
    | none => False) : tf_AW l y sc Post pc lo st cs G := by
  obtain ⟨n, hd, hn⟩ := tf_tab_ok hi
  have hn : n = 3 := tf_ln (k := 2) hn rfl
  subst hn
  cases hc : tf_csl (tf_oc y) ix with
  | none => rw [hc] at h; exact h.elim
  | some z =>
  rw [hc] at h
  obtain ⟨h8, h⟩ := tf_bif h
  have h8 := of_decide_eq_true h8
  intro hG hlo hst p e s m args below meth c H locs ls D cA ad A C hP hD hS hl
  obtain ⟨hx, hb, hr, hml, hown, hts, hnw, hlk, hK, hA, hA0, hlt, hex, hfl, hsc, hsw⟩ := id C
  exact lv_ldc2 hx hb hown (hts _ (tf_csl_ok hc)) hd (hgo _ _ _ _ _ h hG hlo (tf_ok_cons (v := .inr (.inl z)) h8 hst) p e s m args below meth c H locs ls D cA ad A C hP hD hS hl)

set_option maxHeartbeats 1000000 in
theorem tf_s_iload_n {l : Launch} {y : Nat} {sc : Option (Nat × (Int → Int))} {Post : tf_Out → tf_Sto → Prop} {pc : Nat} {lo : tf_Lo} {st : List tf_Av} {cs : tf_Cs} {G : tf_Sto} {go : Nat → tf_Lo → List tf_Av → tf_Cs → tf_Sto → Prop} {k : Fin 4} (hi : tf_tab y pc = some (.iload_n k)) (hgo : ∀ pc lo st cs G, go pc lo st cs G → tf_AW l y sc Post pc lo st cs G) (h : tf_gI lo k fun x => go (pc + 1) lo (.inl x :: st) cs G) : tf_AW l y sc Post pc lo st cs G := by
  obtain ⟨n, hd, hn⟩ := tf_tab_ok hi
  have hn : n = 1 := tf_ln (k := 0) hn rfl
  subst hn
  obtain ⟨x, hm, h⟩ := tf_gI_ok h
  intro hG hlo hst p e s m args below meth c H locs ls D cA ad A C hP hD hS hl
  obtain ⟨hx, hb, hr, hml, hown, hts, hnw, hlk, hK, hA, hA0, hlt, hex, hfl, hsc, hsw⟩ := id C
  exact lv_iload_n hx hb hd rfl (tf_has hl hm) (hgo _ _ _ _ _ h hG hlo (tf_ok_cons (v := .inl x) (hlo _ hm) hst) p e s m args below meth c H locs ls D cA ad A C hP hD hS hl)

set_option maxHeartbeats 1000000 in
theorem tf_s_iload {l : Launch} {y : Nat} {sc : Option (Nat × (Int → Int))} {Post : tf_Out → tf_Sto → Prop} {pc : Nat} {lo : tf_Lo} {st : List tf_Av} {cs : tf_Cs} {G : tf_Sto} {go : Nat → tf_Lo → List tf_Av → tf_Cs → tf_Sto → Prop} {k : Nat} (hi : tf_tab y pc = some (.iload k)) (hgo : ∀ pc lo st cs G, go pc lo st cs G → tf_AW l y sc Post pc lo st cs G) (h : tf_gI lo k fun x => go (pc + 2) lo (.inl x :: st) cs G) : tf_AW l y sc Post pc lo st cs G := by
  obtain ⟨n, hd, hn⟩ := tf_tab_ok hi
  have hn : n = 2 := tf_ln (k := 1) hn rfl
  subst hn
  obtain ⟨x, hm, h⟩ := tf_gI_ok h
  intro hG hlo hst p e s m args below meth c H locs ls D cA ad A C hP hD hS hl
  obtain ⟨hx, hb, hr, hml, hown, hts, hnw, hlk, hK, hA, hA0, hlt, hex, hfl, hsc, hsw⟩ := id C
  exact lv_iload hx hb hd (tf_has hl hm) (hgo _ _ _ _ _ h hG hlo (tf_ok_cons (v := .inl x) (hlo _ hm) hst) p e s m args below meth c H locs ls D cA ad A C hP hD hS hl)

set_option maxHeartbeats 1000000 in
theorem tf_s_lload_n {l : Launch} {y : Nat} {sc : Option (Nat × (Int → Int))} {Post : tf_Out → tf_Sto → Prop} {pc : Nat} {lo : tf_Lo} {st : List tf_Av} {cs : tf_Cs} {G : tf_Sto} {go : Nat → tf_Lo → List tf_Av → tf_Cs → tf_Sto → Prop} {k : Fin 4} (hi : tf_tab y pc = some (.lload_n k)) (hgo : ∀ pc lo st cs G, go pc lo st cs G → tf_AW l y sc Post pc lo st cs G) (h : tf_gL lo k fun x => go (pc + 1) lo (.inr (.inl x) :: st) cs G) : tf_AW l y sc Post pc lo st cs G := by
  obtain ⟨n, hd, hn⟩ := tf_tab_ok hi
  have hn : n = 1 := tf_ln (k := 0) hn rfl
  subst hn
  obtain ⟨x, hm, h⟩ := tf_gL_ok h
  intro hG hlo hst p e s m args below meth c H locs ls D cA ad A C hP hD hS hl
  obtain ⟨hx, hb, hr, hml, hown, hts, hnw, hlk, hK, hA, hA0, hlt, hex, hfl, hsc, hsw⟩ := id C
  exact lv_lload_n hx hb hd rfl (tf_has hl hm) (hgo _ _ _ _ _ h hG hlo (tf_ok_cons (v := .inr (.inl x)) (hlo _ hm) hst) p e s m args below meth c H locs ls D cA ad A C hP hD hS hl)

set_option maxHeartbeats 1000000 in
theorem tf_s_lload {l : Launch} {y : Nat} {sc : Option (Nat × (Int → Int))} {Post : tf_Out → tf_Sto → Prop} {pc : Nat} {lo : tf_Lo} {st : List tf_Av} {cs : tf_Cs} {G : tf_Sto} {go : Nat → tf_Lo → List tf_Av → tf_Cs → tf_Sto → Prop} {k : Nat} (hi : tf_tab y pc = some (.lload k)) (hgo : ∀ pc lo st cs G, go pc lo st cs G → tf_AW l y sc Post pc lo st cs G) (h : tf_gL lo k fun x => go (pc + 2) lo (.inr (.inl x) :: st) cs G) : tf_AW l y sc Post pc lo st cs G := by
  obtain ⟨n, hd, hn⟩ := tf_tab_ok hi
  have hn : n = 2 := tf_ln (k := 1) hn rfl
  subst hn
  obtain ⟨x, hm, h⟩ := tf_gL_ok h
  intro hG hlo hst p e s m args below meth c H locs ls D cA ad A C hP hD hS hl
  obtain ⟨hx, hb, hr, hml, hown, hts, hnw, hlk, hK, hA, hA0, hlt, hex, hfl, hsc, hsw⟩ := id C
  exact lv_lload hx hb hd (tf_has hl hm) (hgo _ _ _ _ _ h hG hlo (tf_ok_cons (v := .inr (.inl x)) (hlo _ hm) hst) p e s m args below meth c H locs ls D cA ad A C hP hD hS hl)

set_option maxHeartbeats 1000000 in
theorem tf_s_aload_n {l : Launch} {y : Nat} {sc : Option (Nat × (Int → Int))} {Post : tf_Out → tf_Sto → Prop} {pc : Nat} {lo : tf_Lo} {st : List tf_Av} {cs : tf_Cs} {G : tf_Sto} {go : Nat → tf_Lo → List tf_Av → tf_Cs → tf_Sto → Prop} {k : Fin 4} (hi : tf_tab y pc = some (.aload_n k)) (hgo : ∀ pc lo st cs G, go pc lo st cs G → tf_AW l y sc Post pc lo st cs G) (h : tf_gR lo k fun x => go (pc + 1) lo (.inr (.inr x) :: st) cs G) : tf_AW l y sc Post pc lo st cs G := by
  obtain ⟨n, hd, hn⟩ := tf_tab_ok hi
  have hn : n = 1 := tf_ln (k := 0) hn rfl
  subst hn
  obtain ⟨x, hm, h⟩ := tf_gR_ok h
  intro hG hlo hst p e s m args below meth c H locs ls D cA ad A C hP hD hS hl
  obtain ⟨hx, hb, hr, hml, hown, hts, hnw, hlk, hK, hA, hA0, hlt, hex, hfl, hsc, hsw⟩ := id C
  exact lv_aload_n hx hb hd rfl (tf_has hl hm) (hgo _ _ _ _ _ h hG hlo (tf_ok_cons (v := .inr (.inr x)) (hlo _ hm) hst) p e s m args below meth c H locs ls D cA ad A C hP hD hS hl)

set_option maxHeartbeats 1000000 in
theorem tf_s_aload {l : Launch} {y : Nat} {sc : Option (Nat × (Int → Int))} {Post : tf_Out → tf_Sto → Prop} {pc : Nat} {lo : tf_Lo} {st : List tf_Av} {cs : tf_Cs} {G : tf_Sto} {go : Nat → tf_Lo → List tf_Av → tf_Cs → tf_Sto → Prop} {k : Nat} (hi : tf_tab y pc = some (.aload k)) (hgo : ∀ pc lo st cs G, go pc lo st cs G → tf_AW l y sc Post pc lo st cs G) (h : tf_gR lo k fun x => go (pc + 2) lo (.inr (.inr x) :: st) cs G) : tf_AW l y sc Post pc lo st cs G := by
  obtain ⟨n, hd, hn⟩ := tf_tab_ok hi
  have hn : n = 2 := tf_ln (k := 1) hn rfl
  subst hn
  obtain ⟨x, hm, h⟩ := tf_gR_ok h
  intro hG hlo hst p e s m args below meth c H locs ls D cA ad A C hP hD hS hl
  obtain ⟨hx, hb, hr, hml, hown, hts, hnw, hlk, hK, hA, hA0, hlt, hex, hfl, hsc, hsw⟩ := id C
  exact lv_aload hx hb hd (tf_has hl hm) (hgo _ _ _ _ _ h hG hlo (tf_ok_cons (v := .inr (.inr x)) (hlo _ hm) hst) p e s m args below meth c H locs ls D cA ad A C hP hD hS hl)

set_option maxHeartbeats 1000000 in
theorem tf_s_istore_n {l : Launch} {y : Nat} {sc : Option (Nat × (Int → Int))} {Post : tf_Out → tf_Sto → Prop} {pc : Nat} {lo : tf_Lo} {st : List tf_Av} {cs : tf_Cs} {G : tf_Sto} {go : Nat → tf_Lo → List tf_Av → tf_Cs → tf_Sto → Prop} {k : Fin 4} (hi : tf_tab y pc = some (.istore_n k)) (hgo : ∀ pc lo st cs G, go pc lo st cs G → tf_AW l y sc Post pc lo st cs G) (h : tf_pI st fun x r => bif Nat.blt k (tf_nl y) then go (pc + 1) (tf_set1 lo k (.inl x)) r cs G else False) : tf_AW l y sc Post pc lo st cs G := by
  obtain ⟨n, hd, hn⟩ := tf_tab_ok hi
  have hn : n = 1 := tf_ln (k := 0) hn rfl
  subst hn
  obtain ⟨x, r, rfl, h⟩ := tf_pI_ok h
  obtain ⟨hk, h⟩ := tf_bif h
  have hk := Nat.le_of_ble_eq_true hk
  intro hG hlo hst p e s m args below meth c H locs ls D cA ad A C hP hD hS hl
  obtain ⟨hx, hb, hr, hml, hown, hts, hnw, hlk, hK, hA, hA0, hlt, hex, hfl, hsc, hsw⟩ := id C
  exact lv_istore_n hx hb hd rfl hl hk (tf_flt1 ad lo k (.inl x)) (fun ls hl => hgo _ _ _ _ _ h hG (tf_ok_set1 hlo (tf_ok_hd hst)) (tf_ok_tl hst) p e s m args below meth c H locs ls D cA ad A C hP hD hS hl)

set_option maxHeartbeats 1000000 in
theorem tf_s_istore {l : Launch} {y : Nat} {sc : Option (Nat × (Int → Int))} {Post : tf_Out → tf_Sto → Prop} {pc : Nat} {lo : tf_Lo} {st : List tf_Av} {cs : tf_Cs} {G : tf_Sto} {go : Nat → tf_Lo → List tf_Av → tf_Cs → tf_Sto → Prop} {k : Nat} (hi : tf_tab y pc = some (.istore k)) (hgo : ∀ pc lo st cs G, go pc lo st cs G → tf_AW l y sc Post pc lo st cs G) (h : tf_pI st fun x r => bif Nat.blt k (tf_nl y) then go (pc + 2) (tf_set1 lo k (.inl x)) r cs G else False) : tf_AW l y sc Post pc lo st cs G := by
  obtain ⟨n, hd, hn⟩ := tf_tab_ok hi
  have hn : n = 2 := tf_ln (k := 1) hn rfl
  subst hn
  obtain ⟨x, r, rfl, h⟩ := tf_pI_ok h
  obtain ⟨hk, h⟩ := tf_bif h
  have hk := Nat.le_of_ble_eq_true hk
  intro hG hlo hst p e s m args below meth c H locs ls D cA ad A C hP hD hS hl
  obtain ⟨hx, hb, hr, hml, hown, hts, hnw, hlk, hK, hA, hA0, hlt, hex, hfl, hsc, hsw⟩ := id C
  exact lv_istore hx hb hd hl hk (tf_flt1 ad lo k (.inl x)) (fun ls hl => hgo _ _ _ _ _ h hG (tf_ok_set1 hlo (tf_ok_hd hst)) (tf_ok_tl hst) p e s m args below meth c H locs ls D cA ad A C hP hD hS hl)

set_option maxHeartbeats 1000000 in
theorem tf_s_lstore_n {l : Launch} {y : Nat} {sc : Option (Nat × (Int → Int))} {Post : tf_Out → tf_Sto → Prop} {pc : Nat} {lo : tf_Lo} {st : List tf_Av} {cs : tf_Cs} {G : tf_Sto} {go : Nat → tf_Lo → List tf_Av → tf_Cs → tf_Sto → Prop} {k : Fin 4} (hi : tf_tab y pc = some (.lstore_n k)) (hgo : ∀ pc lo st cs G, go pc lo st cs G → tf_AW l y sc Post pc lo st cs G) (h : tf_pL st fun x r => bif Nat.blt (k + 1) (tf_nl y) then go (pc + 1) (tf_set2 lo k (.inr (.inl x))) r cs G else False) : tf_AW l y sc Post pc lo st cs G := by
  obtain ⟨n, hd, hn⟩ := tf_tab_ok hi
  have hn : n = 1 := tf_ln (k := 0) hn rfl
  subst hn
  obtain ⟨x, r, rfl, h⟩ := tf_pL_ok h
  obtain ⟨hk, h⟩ := tf_bif h
  have hk := Nat.le_of_ble_eq_true hk
  intro hG hlo hst p e s m args below meth c H locs ls D cA ad A C hP hD hS hl
  obtain ⟨hx, hb, hr, hml, hown, hts, hnw, hlk, hK, hA, hA0, hlt, hex, hfl, hsc, hsw⟩ := id C
  exact lv_lstore_n hx hb hd rfl hl hk (tf_flt2 ad lo k (.inr (.inl x))) (fun ls hl => hgo _ _ _ _ _ h hG (tf_ok_set2 hlo (tf_ok_hd hst)) (tf_ok_tl hst) p e s m args below meth c H locs ls D cA ad A C hP hD hS hl)

set_option maxHeartbeats 1000000 in
theorem tf_s_lstore {l : Launch} {y : Nat} {sc : Option (Nat × (Int → Int))} {Post : tf_Out → tf_Sto → Prop} {pc : Nat} {lo : tf_Lo} {st : List tf_Av} {cs : tf_Cs} {G : tf_Sto} {go : Nat → tf_Lo → List tf_Av → tf_Cs → tf_Sto → Prop} {k : Nat} (hi : tf_tab y pc = some (.lstore k)) (hgo : ∀ pc lo st cs G, go pc lo st cs G → tf_AW l y sc Post pc lo st cs G) (h : tf_pL st fun x r => bif Nat.blt (k + 1) (tf_nl y) then go (pc + 2) (tf_set2 lo k (.inr (.inl x))) r cs G else False) : tf_AW l y sc Post pc lo st cs G := by
  obtain ⟨n, hd, hn⟩ := tf_tab_ok hi
  have hn : n = 2 := tf_ln (k := 1) hn rfl
  subst hn
  obtain ⟨x, r, rfl, h⟩ := tf_pL_ok h
  obtain ⟨hk, h⟩ := tf_bif h
  have hk := Nat.le_of_ble_eq_true hk
  intro hG hlo hst p e s m args below meth c H locs ls D cA ad A C hP hD hS hl
  obtain ⟨hx, hb, hr, hml, hown, hts, hnw, hlk, hK, hA, hA0, hlt, hex, hfl, hsc, hsw⟩ := id C
  exact lv_lstore hx hb hd hl hk (tf_flt2 ad lo k (.inr (.inl x))) (fun ls hl => hgo _ _ _ _ _ h hG (tf_ok_set2 hlo (tf_ok_hd hst)) (tf_ok_tl hst) p e s m args below meth c H locs ls D cA ad A C hP hD hS hl)

set_option maxHeartbeats 1000000 in
theorem tf_s_astore_n {l : Launch} {y : Nat} {sc : Option (Nat × (Int → Int))} {Post : tf_Out → tf_Sto → Prop} {pc : Nat} {lo : tf_Lo} {st : List tf_Av} {cs : tf_Cs} {G : tf_Sto} {go : Nat → tf_Lo → List tf_Av → tf_Cs → tf_Sto → Prop} {k : Fin 4} (hi : tf_tab y pc = some (.astore_n k)) (hgo : ∀ pc lo st cs G, go pc lo st cs G → tf_AW l y sc Post pc lo st cs G) (h : tf_pR st fun x r => bif Nat.blt k (tf_nl y) then go (pc + 1) (tf_set1 lo k (.inr (.inr x))) r cs G else False) : tf_AW l y sc Post pc lo st cs G := by
  obtain ⟨n, hd, hn⟩ := tf_tab_ok hi
  have hn : n = 1 := tf_ln (k := 0) hn rfl
  subst hn
  obtain ⟨x, r, rfl, h⟩ := tf_pR_ok h
  obtain ⟨hk, h⟩ := tf_bif h
  have hk := Nat.le_of_ble_eq_true hk
  intro hG hlo hst p e s m args below meth c H locs ls D cA ad A C hP hD hS hl
  obtain ⟨hx, hb, hr, hml, hown, hts, hnw, hlk, hK, hA, hA0, hlt, hex, hfl, hsc, hsw⟩ := id C
  exact lv_astore_n hx hb hd rfl hl hk (tf_flt1 ad lo k (.inr (.inr x))) (fun ls hl => hgo _ _ _ _ _ h hG (tf_ok_set1 hlo (tf_ok_hd hst)) (tf_ok_tl hst) p e s m args below meth c H locs ls D cA ad A C hP hD hS hl)

set_option maxHeartbeats 1000000 in
theorem tf_s_astore {l : Launch} {y : Nat} {sc : Option (Nat × (Int → Int))} {Post : tf_Out → tf_Sto → Prop} {pc : Nat} {lo : tf_Lo} {st : List tf_Av} {cs : tf_Cs} {G : tf_Sto} {go : Nat → tf_Lo → List tf_Av → tf_Cs → tf_Sto → Prop} {k : Nat} (hi : tf_tab y pc = some (.astore k)) (hgo : ∀ pc lo st cs G, go pc lo st cs G → tf_AW l y sc Post pc lo st cs G) (h : tf_pR st fun x r => bif Nat.blt k (tf_nl y) then go (pc + 2) (tf_set1 lo k (.inr (.inr x))) r cs G else False) : tf_AW l y sc Post pc lo st cs G := by
  obtain ⟨n, hd, hn⟩ := tf_tab_ok hi
  have hn : n = 2 := tf_ln (k := 1) hn rfl
  subst hn
  obtain ⟨x, r, rfl, h⟩ := tf_pR_ok h
  obtain ⟨hk, h⟩ := tf_bif h
  have hk := Nat.le_of_ble_eq_true hk
  intro hG hlo hst p e s m args below meth c H locs ls D cA ad A C hP hD hS hl
  obtain ⟨hx, hb, hr, hml, hown, hts, hnw, hlk, hK, hA, hA0, hlt, hex, hfl, hsc, hsw⟩ := id C
  exact lv_astore hx hb hd hl hk (tf_flt1 ad lo k (.inr (.inr x))) (fun ls hl => hgo _ _ _ _ _ h hG (tf_ok_set1 hlo (tf_ok_hd hst)) (tf_ok_tl hst) p e s m args below meth c H locs ls D cA ad A C hP hD hS hl)

set_option maxHeartbeats 1000000 in
theorem tf_s_iinc {l : Launch} {y : Nat} {sc : Option (Nat × (Int → Int))} {Post : tf_Out → tf_Sto → Prop} {pc : Nat} {lo : tf_Lo} {st : List tf_Av} {cs : tf_Cs} {G : tf_Sto} {go : Nat → tf_Lo → List tf_Av → tf_Cs → tf_Sto → Prop} {k : Nat} {z : Int} (hi : tf_tab y pc = some (.iinc k z)) (hgo : ∀ pc lo st cs G, go pc lo st cs G → tf_AW l y sc Post pc lo st cs G) (h : tf_gI lo k fun x => bif Nat.blt k (tf_nl y) then (tf_inI (x + z) ∧ go (pc + 3) (tf_set1 lo k (.inl (x + z))) st cs G) else False) : tf_AW l y sc Post pc lo st cs G := by
  obtain ⟨n, hd, hn⟩ := tf_tab_ok hi
  have hn : n = 3 := tf_ln (k := 2) hn rfl
  subst hn
  obtain ⟨x, hm, h⟩ := tf_gI_ok h
  obtain ⟨hk, hz, h⟩ := tf_bif h
  have hk := Nat.le_of_ble_eq_true hk
  intro hG hlo hst p e s m args below meth c H locs ls D cA ad A C hP hD hS hl
  obtain ⟨hx, hb, hr, hml, hown, hts, hnw, hlk, hK, hA, hA0, hlt, hex, hfl, hsc, hsw⟩ := id C
  obtain ⟨j, hj⟩ := List.getElem?_of_mem (List.mem_map.mpr ⟨(k, .inl x), hm, rfl⟩ : (k, tf_cv ad (.inl x)) ∈ lo.map (tf_cp ad))
  exact lv_iinc (v := Int32.ofInt (x + z)) hx hb hd hl hj (Int32.ofInt_add x z).symm hk (tf_flt1 ad lo k (.inl (x + z))) (fun ls hl => hgo _ _ _ _ _ h hG (tf_ok_set1 hlo hz) hst p e s m args below meth c H locs ls D cA ad A C hP hD hS hl)

set_option maxHeartbeats 1000000 in
theorem tf_s_iadd {l : Launch} {y : Nat} {sc : Option (Nat × (Int → Int))} {Post : tf_Out → tf_Sto → Prop} {pc : Nat} {lo : tf_Lo} {st : List tf_Av} {cs : tf_Cs} {G : tf_Sto} {go : Nat → tf_Lo → List tf_Av → tf_Cs → tf_Sto → Prop}  (hi : tf_tab y pc = some (.iadd)) (hgo : ∀ pc lo st cs G, go pc lo st cs G → tf_AW l y sc Post pc lo st cs G) (h : tf_pI st fun z r => tf_pI r fun x r => tf_inI (x + z) ∧ go (pc + 1) lo (.inl (x + z) :: r) cs G) : tf_AW l y sc Post pc lo st cs G := by
  obtain ⟨n, hd, hn⟩ := tf_tab_ok hi
  have hn : n = 1 := tf_ln (k := 0) hn rfl
  subst hn
  obtain ⟨z, r1, rfl, h1⟩ := tf_pI_ok h
  obtain ⟨x, r, rfl, h⟩ := tf_pI_ok h1
  obtain ⟨hq, h⟩ := h
  intro hG hlo hst p e s m args below meth c H locs ls D cA ad A C hP hD hS hl
  obtain ⟨hx, hb, hr, hml, hown, hts, hnw, hlk, hK, hA, hA0, hlt, hex, hfl, hsc, hsw⟩ := id C
  have hxz := tf_ok_hd (tf_ok_tl hst)
  have hz := tf_ok_hd hst
  refine lv_iadd (x := Int32.ofInt x) (y := Int32.ofInt z) (rest := r.map (tf_cv ad)) hx hb hd ?_
  rw [← Int32.ofInt_add]
  exact (hgo _ _ _ _ _ h hG hlo (tf_ok_cons (v := .inl (x + z)) hq (tf_ok_tl (tf_ok_tl hst))) p e s m args below meth c H locs ls D cA ad A C hP hD hS hl)

set_option maxHeartbeats 1000000 in
theorem tf_s_isub {l : Launch} {y : Nat} {sc : Option (Nat × (Int → Int))} {Post : tf_Out → tf_Sto → Prop} {pc : Nat} {lo : tf_Lo} {st : List tf_Av} {cs : tf_Cs} {G : tf_Sto} {go : Nat → tf_Lo → List tf_Av → tf_Cs → tf_Sto → Prop}  (hi : tf_tab y pc = some (.isub)) (hgo : ∀ pc lo st cs G, go pc lo st cs G → tf_AW l y sc Post pc lo st cs G) (h : tf_pI st fun z r => tf_pI r fun x r => tf_inI (x - z) ∧ go (pc + 1) lo (.inl (x - z) :: r) cs G) : tf_AW l y sc Post pc lo st cs G := by
  obtain ⟨n, hd, hn⟩ := tf_tab_ok hi
  have hn : n = 1 := tf_ln (k := 0) hn rfl
  subst hn
  obtain ⟨z, r1, rfl, h1⟩ := tf_pI_ok h
  obtain ⟨x, r, rfl, h⟩ := tf_pI_ok h1
  obtain ⟨hq, h⟩ := h
  intro hG hlo hst p e s m args below meth c H locs ls D cA ad A C hP hD hS hl
  obtain ⟨hx, hb, hr, hml, hown, hts, hnw, hlk, hK, hA, hA0, hlt, hex, hfl, hsc, hsw⟩ := id C
  have hxz := tf_ok_hd (tf_ok_tl hst)
  have hz := tf_ok_hd hst
  refine lv_isub (x := Int32.ofInt x) (y := Int32.ofInt z) (rest := r.map (tf_cv ad)) hx hb hd ?_
  rw [← Int32.ofInt_sub]
  exact (hgo _ _ _ _ _ h hG hlo (tf_ok_cons (v := .inl (x - z)) hq (tf_ok_tl (tf_ok_tl hst))) p e s m args below meth c H locs ls D cA ad A C hP hD hS hl)

set_option maxHeartbeats 1000000 in
theorem tf_s_imul {l : Launch} {y : Nat} {sc : Option (Nat × (Int → Int))} {Post : tf_Out → tf_Sto → Prop} {pc : Nat} {lo : tf_Lo} {st : List tf_Av} {cs : tf_Cs} {G : tf_Sto} {go : Nat → tf_Lo → List tf_Av → tf_Cs → tf_Sto → Prop}  (hi : tf_tab y pc = some (.imul)) (hgo : ∀ pc lo st cs G, go pc lo st cs G → tf_AW l y sc Post pc lo st cs G) (h : tf_pI st fun z r => tf_pI r fun x r => tf_inI (x * z) ∧ go (pc + 1) lo (.inl (x * z) :: r) cs G) : tf_AW l y sc Post pc lo st cs G := by
  obtain ⟨n, hd, hn⟩ := tf_tab_ok hi
  have hn : n = 1 := tf_ln (k := 0) hn rfl
  subst hn
  obtain ⟨z, r1, rfl, h1⟩ := tf_pI_ok h
  obtain ⟨x, r, rfl, h⟩ := tf_pI_ok h1
  obtain ⟨hq, h⟩ := h
  intro hG hlo hst p e s m args below meth c H locs ls D cA ad A C hP hD hS hl
  obtain ⟨hx, hb, hr, hml, hown, hts, hnw, hlk, hK, hA, hA0, hlt, hex, hfl, hsc, hsw⟩ := id C
  have hxz := tf_ok_hd (tf_ok_tl hst)
  have hz := tf_ok_hd hst
  refine lv_imul (x := Int32.ofInt x) (y := Int32.ofInt z) (rest := r.map (tf_cv ad)) hx hb hd ?_
  rw [← Int32.ofInt_mul]
  exact (hgo _ _ _ _ _ h hG hlo (tf_ok_cons (v := .inl (x * z)) hq (tf_ok_tl (tf_ok_tl hst))) p e s m args below meth c H locs ls D cA ad A C hP hD hS hl)

set_option maxHeartbeats 1000000 in
theorem tf_s_idiv {l : Launch} {y : Nat} {sc : Option (Nat × (Int → Int))} {Post : tf_Out → tf_Sto → Prop} {pc : Nat} {lo : tf_Lo} {st : List tf_Av} {cs : tf_Cs} {G : tf_Sto} {go : Nat → tf_Lo → List tf_Av → tf_Cs → tf_Sto → Prop}  (hi : tf_tab y pc = some (.idiv)) (hgo : ∀ pc lo st cs G, go pc lo st cs G → tf_AW l y sc Post pc lo st cs G) (h : tf_pI st fun z r => tf_pI r fun x r => (0 ≤ x ∧ 0 < z) ∧ go (pc + 1) lo (.inl (x / z) :: r) cs G) : tf_AW l y sc Post pc lo st cs G := by
  obtain ⟨n, hd, hn⟩ := tf_tab_ok hi
  have hn : n = 1 := tf_ln (k := 0) hn rfl
  subst hn
  obtain ⟨z, r1, rfl, h1⟩ := tf_pI_ok h
  obtain ⟨x, r, rfl, h⟩ := tf_pI_ok h1
  obtain ⟨hq, h⟩ := h
  intro hG hlo hst p e s m args below meth c H locs ls D cA ad A C hP hD hS hl
  obtain ⟨hx, hb, hr, hml, hown, hts, hnw, hlk, hK, hA, hA0, hlt, hex, hfl, hsc, hsw⟩ := id C
  have hxz := tf_ok_hd (tf_ok_tl hst)
  have hz := tf_ok_hd hst
  refine lv_idiv (x := Int32.ofInt x) (y := Int32.ofInt z) (rest := r.map (tf_cv ad)) hx hb hd (tf_ne0 hz hq.2) ?_
  rw [tf_div hxz hz hq.1 hq.2]
  exact (hgo _ _ _ _ _ h hG hlo (tf_ok_cons (v := .inl (x / z)) (tf_div_in hxz hq.1 hq.2) (tf_ok_tl (tf_ok_tl hst))) p e s m args below meth c H locs ls D cA ad A C hP hD hS hl)

set_option maxHeartbeats 1000000 in
theorem tf_s_irem {l : Launch} {y : Nat} {sc : Option (Nat × (Int → Int))} {Post : tf_Out → tf_Sto → Prop} {pc : Nat} {lo : tf_Lo} {st : List tf_Av} {cs : tf_Cs} {G : tf_Sto} {go : Nat → tf_Lo → List tf_Av → tf_Cs → tf_Sto → Prop}  (hi : tf_tab y pc = some (.irem)) (hgo : ∀ pc lo st cs G, go pc lo st cs G → tf_AW l y sc Post pc lo st cs G) (h : tf_pI st fun z r => tf_pI r fun x r => (0 ≤ x ∧ 0 < z) ∧ go (pc + 1) lo (.inl (x % z) :: r) cs G) : tf_AW l y sc Post pc lo st cs G := by
  obtain ⟨n, hd, hn⟩ := tf_tab_ok hi
  have hn : n = 1 := tf_ln (k := 0) hn rfl
  subst hn
  obtain ⟨z, r1, rfl, h1⟩ := tf_pI_ok h
  obtain ⟨x, r, rfl, h⟩ := tf_pI_ok h1
  obtain ⟨hq, h⟩ := h
  intro hG hlo hst p e s m args below meth c H locs ls D cA ad A C hP hD hS hl
  obtain ⟨hx, hb, hr, hml, hown, hts, hnw, hlk, hK, hA, hA0, hlt, hex, hfl, hsc, hsw⟩ := id C
  have hxz := tf_ok_hd (tf_ok_tl hst)
  have hz := tf_ok_hd hst
  refine lv_irem (x := Int32.ofInt x) (y := Int32.ofInt z) (rest := r.map (tf_cv ad)) hx hb hd (tf_ne0 hz hq.2) ?_
  rw [tf_rem hxz hz hq.1 hq.2]
  exact (hgo _ _ _ _ _ h hG hlo (tf_ok_cons (v := .inl (x % z)) (tf_rem_in hz hq.2) (tf_ok_tl (tf_ok_tl hst))) p e s m args below meth c H locs ls D cA ad A C hP hD hS hl)

set_option maxHeartbeats 1000000 in
theorem tf_s_iand {l : Launch} {y : Nat} {sc : Option (Nat × (Int → Int))} {Post : tf_Out → tf_Sto → Prop} {pc : Nat} {lo : tf_Lo} {st : List tf_Av} {cs : tf_Cs} {G : tf_Sto} {go : Nat → tf_Lo → List tf_Av → tf_Cs → tf_Sto → Prop}  (hi : tf_tab y pc = some (.iand)) (hgo : ∀ pc lo st cs G, go pc lo st cs G → tf_AW l y sc Post pc lo st cs G) (h : tf_pI st fun z r => tf_pI r fun x r => go (pc + 1) lo (.inl (tf_and x z) :: r) cs G) : tf_AW l y sc Post pc lo st cs G := by
  obtain ⟨n, hd, hn⟩ := tf_tab_ok hi
  have hn : n = 1 := tf_ln (k := 0) hn rfl
  subst hn
  obtain ⟨z, r1, rfl, h1⟩ := tf_pI_ok h
  obtain ⟨x, r, rfl, h⟩ := tf_pI_ok h1
  intro hG hlo hst p e s m args below meth c H locs ls D cA ad A C hP hD hS hl
  obtain ⟨hx, hb, hr, hml, hown, hts, hnw, hlk, hK, hA, hA0, hlt, hex, hfl, hsc, hsw⟩ := id C
  have hxz := tf_ok_hd (tf_ok_tl hst)
  have hz := tf_ok_hd hst
  refine lv_iand (x := Int32.ofInt x) (y := Int32.ofInt z) (rest := r.map (tf_cv ad)) hx hb hd ?_
  rw [show _ = Int32.ofInt (tf_and x z) from (tf_of _).symm]
  exact (hgo _ _ _ _ _ h hG hlo (tf_ok_cons (v := .inl (tf_and x z)) (tf_rng _) (tf_ok_tl (tf_ok_tl hst))) p e s m args below meth c H locs ls D cA ad A C hP hD hS hl)

set_option maxHeartbeats 1000000 in
theorem tf_s_ior {l : Launch} {y : Nat} {sc : Option (Nat × (Int → Int))} {Post : tf_Out → tf_Sto → Prop} {pc : Nat} {lo : tf_Lo} {st : List tf_Av} {cs : tf_Cs} {G : tf_Sto} {go : Nat → tf_Lo → List tf_Av → tf_Cs → tf_Sto → Prop}  (hi : tf_tab y pc = some (.ior)) (hgo : ∀ pc lo st cs G, go pc lo st cs G → tf_AW l y sc Post pc lo st cs G) (h : tf_pI st fun z r => tf_pI r fun x r => go (pc + 1) lo (.inl (tf_or x z) :: r) cs G) : tf_AW l y sc Post pc lo st cs G := by
  obtain ⟨n, hd, hn⟩ := tf_tab_ok hi
  have hn : n = 1 := tf_ln (k := 0) hn rfl
  subst hn
  obtain ⟨z, r1, rfl, h1⟩ := tf_pI_ok h
  obtain ⟨x, r, rfl, h⟩ := tf_pI_ok h1
  intro hG hlo hst p e s m args below meth c H locs ls D cA ad A C hP hD hS hl
  obtain ⟨hx, hb, hr, hml, hown, hts, hnw, hlk, hK, hA, hA0, hlt, hex, hfl, hsc, hsw⟩ := id C
  have hxz := tf_ok_hd (tf_ok_tl hst)
  have hz := tf_ok_hd hst
  refine lv_ior (x := Int32.ofInt x) (y := Int32.ofInt z) (rest := r.map (tf_cv ad)) hx hb hd ?_
  rw [show _ = Int32.ofInt (tf_or x z) from (tf_of _).symm]
  exact (hgo _ _ _ _ _ h hG hlo (tf_ok_cons (v := .inl (tf_or x z)) (tf_rng _) (tf_ok_tl (tf_ok_tl hst))) p e s m args below meth c H locs ls D cA ad A C hP hD hS hl)

set_option maxHeartbeats 1000000 in
theorem tf_s_ixor {l : Launch} {y : Nat} {sc : Option (Nat × (Int → Int))} {Post : tf_Out → tf_Sto → Prop} {pc : Nat} {lo : tf_Lo} {st : List tf_Av} {cs : tf_Cs} {G : tf_Sto} {go : Nat → tf_Lo → List tf_Av → tf_Cs → tf_Sto → Prop}  (hi : tf_tab y pc = some (.ixor)) (hgo : ∀ pc lo st cs G, go pc lo st cs G → tf_AW l y sc Post pc lo st cs G) (h : tf_pI st fun z r => tf_pI r fun x r => go (pc + 1) lo (.inl (tf_xor x z) :: r) cs G) : tf_AW l y sc Post pc lo st cs G := by
  obtain ⟨n, hd, hn⟩ := tf_tab_ok hi
  have hn : n = 1 := tf_ln (k := 0) hn rfl
  subst hn
  obtain ⟨z, r1, rfl, h1⟩ := tf_pI_ok h
  obtain ⟨x, r, rfl, h⟩ := tf_pI_ok h1
  intro hG hlo hst p e s m args below meth c H locs ls D cA ad A C hP hD hS hl
  obtain ⟨hx, hb, hr, hml, hown, hts, hnw, hlk, hK, hA, hA0, hlt, hex, hfl, hsc, hsw⟩ := id C
  have hxz := tf_ok_hd (tf_ok_tl hst)
  have hz := tf_ok_hd hst
  refine lv_ixor (x := Int32.ofInt x) (y := Int32.ofInt z) (rest := r.map (tf_cv ad)) hx hb hd ?_
  rw [show _ = Int32.ofInt (tf_xor x z) from (tf_of _).symm]
  exact (hgo _ _ _ _ _ h hG hlo (tf_ok_cons (v := .inl (tf_xor x z)) (tf_rng _) (tf_ok_tl (tf_ok_tl hst))) p e s m args below meth c H locs ls D cA ad A C hP hD hS hl)

set_option maxHeartbeats 1000000 in
theorem tf_s_ishl {l : Launch} {y : Nat} {sc : Option (Nat × (Int → Int))} {Post : tf_Out → tf_Sto → Prop} {pc : Nat} {lo : tf_Lo} {st : List tf_Av} {cs : tf_Cs} {G : tf_Sto} {go : Nat → tf_Lo → List tf_Av → tf_Cs → tf_Sto → Prop}  (hi : tf_tab y pc = some (.ishl)) (hgo : ∀ pc lo st cs G, go pc lo st cs G → tf_AW l y sc Post pc lo st cs G) (h : tf_pI st fun z r => tf_pI r fun x r => go (pc + 1) lo (.inl (tf_shl x z) :: r) cs G) : tf_AW l y sc Post pc lo st cs G := by
  obtain ⟨n, hd, hn⟩ := tf_tab_ok hi
  have hn : n = 1 := tf_ln (k := 0) hn rfl
  subst hn
  obtain ⟨z, r1, rfl, h1⟩ := tf_pI_ok h
  obtain ⟨x, r, rfl, h⟩ := tf_pI_ok h1
  intro hG hlo hst p e s m args below meth c H locs ls D cA ad A C hP hD hS hl
  obtain ⟨hx, hb, hr, hml, hown, hts, hnw, hlk, hK, hA, hA0, hlt, hex, hfl, hsc, hsw⟩ := id C
  have hxz := tf_ok_hd (tf_ok_tl hst)
  have hz := tf_ok_hd hst
  refine lv_ishl (x := Int32.ofInt x) (y := Int32.ofInt z) (rest := r.map (tf_cv ad)) hx hb hd ?_
  rw [show _ = Int32.ofInt (tf_shl x z) from (tf_of _).symm]
  exact (hgo _ _ _ _ _ h hG hlo (tf_ok_cons (v := .inl (tf_shl x z)) (tf_rng _) (tf_ok_tl (tf_ok_tl hst))) p e s m args below meth c H locs ls D cA ad A C hP hD hS hl)

set_option maxHeartbeats 1000000 in
theorem tf_s_ishr {l : Launch} {y : Nat} {sc : Option (Nat × (Int → Int))} {Post : tf_Out → tf_Sto → Prop} {pc : Nat} {lo : tf_Lo} {st : List tf_Av} {cs : tf_Cs} {G : tf_Sto} {go : Nat → tf_Lo → List tf_Av → tf_Cs → tf_Sto → Prop}  (hi : tf_tab y pc = some (.ishr)) (hgo : ∀ pc lo st cs G, go pc lo st cs G → tf_AW l y sc Post pc lo st cs G) (h : tf_pI st fun z r => tf_pI r fun x r => go (pc + 1) lo (.inl (tf_shr x z) :: r) cs G) : tf_AW l y sc Post pc lo st cs G := by
  obtain ⟨n, hd, hn⟩ := tf_tab_ok hi
  have hn : n = 1 := tf_ln (k := 0) hn rfl
  subst hn
  obtain ⟨z, r1, rfl, h1⟩ := tf_pI_ok h
  obtain ⟨x, r, rfl, h⟩ := tf_pI_ok h1
  intro hG hlo hst p e s m args below meth c H locs ls D cA ad A C hP hD hS hl
  obtain ⟨hx, hb, hr, hml, hown, hts, hnw, hlk, hK, hA, hA0, hlt, hex, hfl, hsc, hsw⟩ := id C
  have hxz := tf_ok_hd (tf_ok_tl hst)
  have hz := tf_ok_hd hst
  refine lv_ishr (x := Int32.ofInt x) (y := Int32.ofInt z) (rest := r.map (tf_cv ad)) hx hb hd ?_
  rw [show _ = Int32.ofInt (tf_shr x z) from (tf_of _).symm]
  exact (hgo _ _ _ _ _ h hG hlo (tf_ok_cons (v := .inl (tf_shr x z)) (tf_rng _) (tf_ok_tl (tf_ok_tl hst))) p e s m args below meth c H locs ls D cA ad A C hP hD hS hl)

set_option maxHeartbeats 1000000 in
theorem tf_s_iushr {l : Launch} {y : Nat} {sc : Option (Nat × (Int → Int))} {Post : tf_Out → tf_Sto → Prop} {pc : Nat} {lo : tf_Lo} {st : List tf_Av} {cs : tf_Cs} {G : tf_Sto} {go : Nat → tf_Lo → List tf_Av → tf_Cs → tf_Sto → Prop}  (hi : tf_tab y pc = some (.iushr)) (hgo : ∀ pc lo st cs G, go pc lo st cs G → tf_AW l y sc Post pc lo st cs G) (h : tf_pI st fun z r => tf_pI r fun x r => go (pc + 1) lo (.inl (tf_ushr x z) :: r) cs G) : tf_AW l y sc Post pc lo st cs G := by
  obtain ⟨n, hd, hn⟩ := tf_tab_ok hi
  have hn : n = 1 := tf_ln (k := 0) hn rfl
  subst hn
  obtain ⟨z, r1, rfl, h1⟩ := tf_pI_ok h
  obtain ⟨x, r, rfl, h⟩ := tf_pI_ok h1
  intro hG hlo hst p e s m args below meth c H locs ls D cA ad A C hP hD hS hl
  obtain ⟨hx, hb, hr, hml, hown, hts, hnw, hlk, hK, hA, hA0, hlt, hex, hfl, hsc, hsw⟩ := id C
  exact lv_iushr (x := Int32.ofInt x) (y := Int32.ofInt z) (v := Int32.ofInt (tf_ushr x z)) (rest := r.map (tf_cv ad)) hx hb hd (tf_of _).symm (hgo _ _ _ _ _ h hG hlo (tf_ok_cons (v := .inl (tf_ushr x z)) (tf_rng _) (tf_ok_tl (tf_ok_tl hst))) p e s m args below meth c H locs ls D cA ad A C hP hD hS hl)

set_option maxHeartbeats 1000000 in
theorem tf_s_ineg {l : Launch} {y : Nat} {sc : Option (Nat × (Int → Int))} {Post : tf_Out → tf_Sto → Prop} {pc : Nat} {lo : tf_Lo} {st : List tf_Av} {cs : tf_Cs} {G : tf_Sto} {go : Nat → tf_Lo → List tf_Av → tf_Cs → tf_Sto → Prop}  (hi : tf_tab y pc = some (.ineg)) (hgo : ∀ pc lo st cs G, go pc lo st cs G → tf_AW l y sc Post pc lo st cs G) (h : tf_pI st fun x r => tf_inI (-x) ∧ go (pc + 1) lo (.inl (-x) :: r) cs G) : tf_AW l y sc Post pc lo st cs G := by
  obtain ⟨n, hd, hn⟩ := tf_tab_ok hi
  have hn : n = 1 := tf_ln (k := 0) hn rfl
  subst hn
  obtain ⟨x, r, rfl, hq, h⟩ := tf_pI_ok h
  intro hG hlo hst p e s m args below meth c H locs ls D cA ad A C hP hD hS hl
  obtain ⟨hx, hb, hr, hml, hown, hts, hnw, hlk, hK, hA, hA0, hlt, hex, hfl, hsc, hsw⟩ := id C
  refine lv_ineg (x := Int32.ofInt x) (rest := r.map (tf_cv ad)) hx hb hd ?_
  rw [← Int32.ofInt_neg]
  exact (hgo _ _ _ _ _ h hG hlo (tf_ok_cons (v := .inl (-x)) hq (tf_ok_tl hst)) p e s m args below meth c H locs ls D cA ad A C hP hD hS hl)

set_option maxHeartbeats 1000000 in
theorem tf_s_i2l {l : Launch} {y : Nat} {sc : Option (Nat × (Int → Int))} {Post : tf_Out → tf_Sto → Prop} {pc : Nat} {lo : tf_Lo} {st : List tf_Av} {cs : tf_Cs} {G : tf_Sto} {go : Nat → tf_Lo → List tf_Av → tf_Cs → tf_Sto → Prop}  (hi : tf_tab y pc = some (.i2l)) (hgo : ∀ pc lo st cs G, go pc lo st cs G → tf_AW l y sc Post pc lo st cs G) (h : tf_pI st fun x r => go (pc + 1) lo (.inr (.inl x) :: r) cs G) : tf_AW l y sc Post pc lo st cs G := by
  obtain ⟨n, hd, hn⟩ := tf_tab_ok hi
  have hn : n = 1 := tf_ln (k := 0) hn rfl
  subst hn
  obtain ⟨x, r, rfl, h⟩ := tf_pI_ok h
  intro hG hlo hst p e s m args below meth c H locs ls D cA ad A C hP hD hS hl
  obtain ⟨hx, hb, hr, hml, hown, hts, hnw, hlk, hK, hA, hA0, hlt, hex, hfl, hsc, hsw⟩ := id C
  have hxx := tf_ok_hd hst
  exact lv_i2l (x := Int32.ofInt x) (v := Int64.ofInt x) (rest := r.map (tf_cv ad)) hx hb hd (tf_i2l hxx) (hgo _ _ _ _ _ h hG hlo (tf_ok_cons (v := .inr (.inl x)) (tf_IL hxx) (tf_ok_tl hst)) p e s m args below meth c H locs ls D cA ad A C hP hD hS hl)

set_option maxHeartbeats 1000000 in
theorem tf_s_i2b {l : Launch} {y : Nat} {sc : Option (Nat × (Int → Int))} {Post : tf_Out → tf_Sto → Prop} {pc : Nat} {lo : tf_Lo} {st : List tf_Av} {cs : tf_Cs} {G : tf_Sto} {go : Nat → tf_Lo → List tf_Av → tf_Cs → tf_Sto → Prop}  (hi : tf_tab y pc = some (.i2b)) (hgo : ∀ pc lo st cs G, go pc lo st cs G → tf_AW l y sc Post pc lo st cs G) (h : tf_pI st fun x r => (-128 ≤ x ∧ x ≤ 127) ∧ go (pc + 1) lo (.inl x :: r) cs G) : tf_AW l y sc Post pc lo st cs G := by
  obtain ⟨n, hd, hn⟩ := tf_tab_ok hi
  have hn : n = 1 := tf_ln (k := 0) hn rfl
  subst hn
  obtain ⟨x, r, rfl, hq, h⟩ := tf_pI_ok h
  intro hG hlo hst p e s m args below meth c H locs ls D cA ad A C hP hD hS hl
  obtain ⟨hx, hb, hr, hml, hown, hts, hnw, hlk, hK, hA, hA0, hlt, hex, hfl, hsc, hsw⟩ := id C
  exact lv_i2b (x := Int32.ofInt x) (v := Int32.ofInt x) (rest := r.map (tf_cv ad)) hx hb hd (tf_i2b hq) (hgo _ _ _ _ _ h hG hlo hst p e s m args below meth c H locs ls D cA ad A C hP hD hS hl)

set_option maxHeartbeats 1000000 in
theorem tf_s_ladd {l : Launch} {y : Nat} {sc : Option (Nat × (Int → Int))} {Post : tf_Out → tf_Sto → Prop} {pc : Nat} {lo : tf_Lo} {st : List tf_Av} {cs : tf_Cs} {G : tf_Sto} {go : Nat → tf_Lo → List tf_Av → tf_Cs → tf_Sto → Prop}  (hi : tf_tab y pc = some (.ladd)) (hgo : ∀ pc lo st cs G, go pc lo st cs G → tf_AW l y sc Post pc lo st cs G) (h : tf_pL st fun z r => tf_pL r fun x r => tf_inL (x + z) ∧ go (pc + 1) lo (.inr (.inl (x + z)) :: r) cs G) : tf_AW l y sc Post pc lo st cs G := by
  obtain ⟨n, hd, hn⟩ := tf_tab_ok hi
  have hn : n = 1 := tf_ln (k := 0) hn rfl
  subst hn
  obtain ⟨z, r1, rfl, h1⟩ := tf_pL_ok h
  obtain ⟨x, r, rfl, h⟩ := tf_pL_ok h1
  obtain ⟨hq, h⟩ := h
  intro hG hlo hst p e s m args below meth c H locs ls D cA ad A C hP hD hS hl
  obtain ⟨hx, hb, hr, hml, hown, hts, hnw, hlk, hK, hA, hA0, hlt, hex, hfl, hsc, hsw⟩ := id C
  refine lv_ladd (x := Int64.ofInt x) (y := Int64.ofInt z) (rest := r.map (tf_cv ad)) hx hb hd ?_
  rw [← Int64.ofInt_add]
  exact (hgo _ _ _ _ _ h hG hlo (tf_ok_cons (v := .inr (.inl (x + z))) hq (tf_ok_tl (tf_ok_tl hst))) p e s m args below meth c H locs ls D cA ad A C hP hD hS hl)

set_option maxHeartbeats 1000000 in
theorem tf_s_land {l : Launch} {y : Nat} {sc : Option (Nat × (Int → Int))} {Post : tf_Out → tf_Sto → Prop} {pc : Nat} {lo : tf_Lo} {st : List tf_Av} {cs : tf_Cs} {G : tf_Sto} {go : Nat → tf_Lo → List tf_Av → tf_Cs → tf_Sto → Prop}  (hi : tf_tab y pc = some (.land)) (hgo : ∀ pc lo st cs G, go pc lo st cs G → tf_AW l y sc Post pc lo st cs G) (h : tf_pL st fun z r => tf_pL r fun x r => go (pc + 1) lo (.inr (.inl (tf_land x z)) :: r) cs G) : tf_AW l y sc Post pc lo st cs G := by
  obtain ⟨n, hd, hn⟩ := tf_tab_ok hi
  have hn : n = 1 := tf_ln (k := 0) hn rfl
  subst hn
  obtain ⟨z, r1, rfl, h1⟩ := tf_pL_ok h
  obtain ⟨x, r, rfl, h⟩ := tf_pL_ok h1
  intro hG hlo hst p e s m args below meth c H locs ls D cA ad A C hP hD hS hl
  obtain ⟨hx, hb, hr, hml, hown, hts, hnw, hlk, hK, hA, hA0, hlt, hex, hfl, hsc, hsw⟩ := id C
  refine lv_land (x := Int64.ofInt x) (y := Int64.ofInt z) (rest := r.map (tf_cv ad)) hx hb hd ?_
  rw [show _ = Int64.ofInt (tf_land x z) from (tf_ofl _).symm]
  exact (hgo _ _ _ _ _ h hG hlo (tf_ok_cons (v := .inr (.inl (tf_land x z))) (tf_rngl _) (tf_ok_tl (tf_ok_tl hst))) p e s m args below meth c H locs ls D cA ad A C hP hD hS hl)

set_option maxHeartbeats 1000000 in
theorem tf_s_lor {l : Launch} {y : Nat} {sc : Option (Nat × (Int → Int))} {Post : tf_Out → tf_Sto → Prop} {pc : Nat} {lo : tf_Lo} {st : List tf_Av} {cs : tf_Cs} {G : tf_Sto} {go : Nat → tf_Lo → List tf_Av → tf_Cs → tf_Sto → Prop}  (hi : tf_tab y pc = some (.lor)) (hgo : ∀ pc lo st cs G, go pc lo st cs G → tf_AW l y sc Post pc lo st cs G) (h : tf_pL st fun z r => tf_pL r fun x r => go (pc + 1) lo (.inr (.inl (tf_lor x z)) :: r) cs G) : tf_AW l y sc Post pc lo st cs G := by
  obtain ⟨n, hd, hn⟩ := tf_tab_ok hi
  have hn : n = 1 := tf_ln (k := 0) hn rfl
  subst hn
  obtain ⟨z, r1, rfl, h1⟩ := tf_pL_ok h
  obtain ⟨x, r, rfl, h⟩ := tf_pL_ok h1
  intro hG hlo hst p e s m args below meth c H locs ls D cA ad A C hP hD hS hl
  obtain ⟨hx, hb, hr, hml, hown, hts, hnw, hlk, hK, hA, hA0, hlt, hex, hfl, hsc, hsw⟩ := id C
  refine lv_lor (x := Int64.ofInt x) (y := Int64.ofInt z) (rest := r.map (tf_cv ad)) hx hb hd ?_
  rw [show _ = Int64.ofInt (tf_lor x z) from (tf_ofl _).symm]
  exact (hgo _ _ _ _ _ h hG hlo (tf_ok_cons (v := .inr (.inl (tf_lor x z))) (tf_rngl _) (tf_ok_tl (tf_ok_tl hst))) p e s m args below meth c H locs ls D cA ad A C hP hD hS hl)

set_option maxHeartbeats 1000000 in
theorem tf_s_lsub {l : Launch} {y : Nat} {sc : Option (Nat × (Int → Int))} {Post : tf_Out → tf_Sto → Prop} {pc : Nat} {lo : tf_Lo} {st : List tf_Av} {cs : tf_Cs} {G : tf_Sto} {go : Nat → tf_Lo → List tf_Av → tf_Cs → tf_Sto → Prop}  (hi : tf_tab y pc = some (.lsub)) (hgo : ∀ pc lo st cs G, go pc lo st cs G → tf_AW l y sc Post pc lo st cs G) (h : tf_pL st fun z r => tf_pL r fun x r => go (pc + 1) lo (.inr (.inl (tf_lsub x z)) :: r) cs G) : tf_AW l y sc Post pc lo st cs G := by
  obtain ⟨n, hd, hn⟩ := tf_tab_ok hi
  have hn : n = 1 := tf_ln (k := 0) hn rfl
  subst hn
  obtain ⟨z, r1, rfl, h1⟩ := tf_pL_ok h
  obtain ⟨x, r, rfl, h⟩ := tf_pL_ok h1
  intro hG hlo hst p e s m args below meth c H locs ls D cA ad A C hP hD hS hl
  obtain ⟨hx, hb, hr, hml, hown, hts, hnw, hlk, hK, hA, hA0, hlt, hex, hfl, hsc, hsw⟩ := id C
  refine lv_lsub (x := Int64.ofInt x) (y := Int64.ofInt z) (rest := r.map (tf_cv ad)) hx hb hd ?_
  rw [show _ = Int64.ofInt (tf_lsub x z) from (tf_ofl _).symm]
  exact (hgo _ _ _ _ _ h hG hlo (tf_ok_cons (v := .inr (.inl (tf_lsub x z))) (tf_rngl _) (tf_ok_tl (tf_ok_tl hst))) p e s m args below meth c H locs ls D cA ad A C hP hD hS hl)

set_option maxHeartbeats 1000000 in
theorem tf_s_lneg {l : Launch} {y : Nat} {sc : Option (Nat × (Int → Int))} {Post : tf_Out → tf_Sto → Prop} {pc : Nat} {lo : tf_Lo} {st : List tf_Av} {cs : tf_Cs} {G : tf_Sto} {go : Nat → tf_Lo → List tf_Av → tf_Cs → tf_Sto → Prop}  (hi : tf_tab y pc = some (.lneg)) (hgo : ∀ pc lo st cs G, go pc lo st cs G → tf_AW l y sc Post pc lo st cs G) (h : tf_pL st fun x r => go (pc + 1) lo (.inr (.inl (tf_lneg x)) :: r) cs G) : tf_AW l y sc Post pc lo st cs G := by
  obtain ⟨n, hd, hn⟩ := tf_tab_ok hi
  have hn : n = 1 := tf_ln (k := 0) hn rfl
  subst hn
  obtain ⟨x, r, rfl, h⟩ := tf_pL_ok h
  intro hG hlo hst p e s m args below meth c H locs ls D cA ad A C hP hD hS hl
  obtain ⟨hx, hb, hr, hml, hown, hts, hnw, hlk, hK, hA, hA0, hlt, hex, hfl, hsc, hsw⟩ := id C
  refine lv_lneg (x := Int64.ofInt x) (rest := r.map (tf_cv ad)) hx hb hd ?_
  rw [show _ = Int64.ofInt (tf_lneg x) from (tf_ofl _).symm]
  exact (hgo _ _ _ _ _ h hG hlo (tf_ok_cons (v := .inr (.inl (tf_lneg x))) (tf_rngl _) (tf_ok_tl hst)) p e s m args below meth c H locs ls D cA ad A C hP hD hS hl)

set_option maxHeartbeats 1000000 in
theorem tf_s_lushr {l : Launch} {y : Nat} {sc : Option (Nat × (Int → Int))} {Post : tf_Out → tf_Sto → Prop} {pc : Nat} {lo : tf_Lo} {st : List tf_Av} {cs : tf_Cs} {G : tf_Sto} {go : Nat → tf_Lo → List tf_Av → tf_Cs → tf_Sto → Prop}  (hi : tf_tab y pc = some (.lushr)) (hgo : ∀ pc lo st cs G, go pc lo st cs G → tf_AW l y sc Post pc lo st cs G) (h : tf_pI st fun z r => tf_pL r fun x r => go (pc + 1) lo (.inr (.inl (tf_lushr x z)) :: r) cs G) : tf_AW l y sc Post pc lo st cs G := by
  obtain ⟨n, hd, hn⟩ := tf_tab_ok hi
  have hn : n = 1 := tf_ln (k := 0) hn rfl
  subst hn
  obtain ⟨z, r1, rfl, h1⟩ := tf_pI_ok h
  obtain ⟨x, r, rfl, h⟩ := tf_pL_ok h1
  intro hG hlo hst p e s m args below meth c H locs ls D cA ad A C hP hD hS hl
  obtain ⟨hx, hb, hr, hml, hown, hts, hnw, hlk, hK, hA, hA0, hlt, hex, hfl, hsc, hsw⟩ := id C
  exact lv_lushr (x := Int64.ofInt x) (y := Int32.ofInt z) (v := Int64.ofInt (tf_lushr x z)) (rest := r.map (tf_cv ad)) hx hb hd (tf_ofl _).symm (hgo _ _ _ _ _ h hG hlo (tf_ok_cons (v := .inr (.inl (tf_lushr x z))) (tf_rngl _) (tf_ok_tl (tf_ok_tl hst))) p e s m args below meth c H locs ls D cA ad A C hP hD hS hl)

set_option maxHeartbeats 1000000 in
theorem tf_s_l2i {l : Launch} {y : Nat} {sc : Option (Nat × (Int → Int))} {Post : tf_Out → tf_Sto → Prop} {pc : Nat} {lo : tf_Lo} {st : List tf_Av} {cs : tf_Cs} {G : tf_Sto} {go : Nat → tf_Lo → List tf_Av → tf_Cs → tf_Sto → Prop}  (hi : tf_tab y pc = some (.l2i)) (hgo : ∀ pc lo st cs G, go pc lo st cs G → tf_AW l y sc Post pc lo st cs G) (h : tf_pL st fun x r => go (pc + 1) lo (.inl (tf_l2i x) :: r) cs G) : tf_AW l y sc Post pc lo st cs G := by
  obtain ⟨n, hd, hn⟩ := tf_tab_ok hi
  have hn : n = 1 := tf_ln (k := 0) hn rfl
  subst hn
  obtain ⟨x, r, rfl, h⟩ := tf_pL_ok h
  intro hG hlo hst p e s m args below meth c H locs ls D cA ad A C hP hD hS hl
  obtain ⟨hx, hb, hr, hml, hown, hts, hnw, hlk, hK, hA, hA0, hlt, hex, hfl, hsc, hsw⟩ := id C
  exact lv_l2i (x := Int64.ofInt x) (v := Int32.ofInt (tf_l2i x)) (rest := r.map (tf_cv ad)) hx hb hd (tf_of _).symm (hgo _ _ _ _ _ h hG hlo (tf_ok_cons (v := .inl (tf_l2i x)) (tf_rng _) (tf_ok_tl hst)) p e s m args below meth c H locs ls D cA ad A C hP hD hS hl)

set_option maxHeartbeats 1000000 in
theorem tf_s_lshl {l : Launch} {y : Nat} {sc : Option (Nat × (Int → Int))} {Post : tf_Out → tf_Sto → Prop} {pc : Nat} {lo : tf_Lo} {st : List tf_Av} {cs : tf_Cs} {G : tf_Sto} {go : Nat → tf_Lo → List tf_Av → tf_Cs → tf_Sto → Prop}  (hi : tf_tab y pc = some (.lshl)) (hgo : ∀ pc lo st cs G, go pc lo st cs G → tf_AW l y sc Post pc lo st cs G) (h : tf_pI st fun z r => tf_pL r fun x r => go (pc + 1) lo (.inr (.inl (tf_lshl x z)) :: r) cs G) : tf_AW l y sc Post pc lo st cs G := by
  obtain ⟨n, hd, hn⟩ := tf_tab_ok hi
  have hn : n = 1 := tf_ln (k := 0) hn rfl
  subst hn
  obtain ⟨z, r1, rfl, h1⟩ := tf_pI_ok h
  obtain ⟨x, r, rfl, h⟩ := tf_pL_ok h1
  intro hG hlo hst p e s m args below meth c H locs ls D cA ad A C hP hD hS hl
  obtain ⟨hx, hb, hr, hml, hown, hts, hnw, hlk, hK, hA, hA0, hlt, hex, hfl, hsc, hsw⟩ := id C
  exact lv_lshl (x := Int64.ofInt x) (y := Int32.ofInt z) (v := Int64.ofInt (tf_lshl x z)) (rest := r.map (tf_cv ad)) hx hb hd (tf_ofl _).symm (hgo _ _ _ _ _ h hG hlo (tf_ok_cons (v := .inr (.inl (tf_lshl x z))) (tf_rngl _) (tf_ok_tl (tf_ok_tl hst))) p e s m args below meth c H locs ls D cA ad A C hP hD hS hl)

set_option maxHeartbeats 1000000 in
theorem tf_s_lcmp {l : Launch} {y : Nat} {sc : Option (Nat × (Int → Int))} {Post : tf_Out → tf_Sto → Prop} {pc : Nat} {lo : tf_Lo} {st : List tf_Av} {cs : tf_Cs} {G : tf_Sto} {go : Nat → tf_Lo → List tf_Av → tf_Cs → tf_Sto → Prop}  (hi : tf_tab y pc = some (.lcmp)) (hgo : ∀ pc lo st cs G, go pc lo st cs G → tf_AW l y sc Post pc lo st cs G) (h : tf_pL st fun z r => tf_pL r fun x r => go (pc + 1) lo (.inl (tf_lcmp x z) :: r) cs G) : tf_AW l y sc Post pc lo st cs G := by
  obtain ⟨n, hd, hn⟩ := tf_tab_ok hi
  have hn : n = 1 := tf_ln (k := 0) hn rfl
  subst hn
  obtain ⟨z, r1, rfl, h1⟩ := tf_pL_ok h
  obtain ⟨x, r, rfl, h⟩ := tf_pL_ok h1
  intro hG hlo hst p e s m args below meth c H locs ls D cA ad A C hP hD hS hl
  obtain ⟨hx, hb, hr, hml, hown, hts, hnw, hlk, hK, hA, hA0, hlt, hex, hfl, hsc, hsw⟩ := id C
  refine W.lcmp (x := Int64.ofInt x) (y := Int64.ofInt z) (rest := r.map (tf_cv ad)) hx hb hd ?_
  rw [tf_lcmp_ok (tf_ok_hd (tf_ok_tl hst)) (tf_ok_hd hst)]
  exact (hgo _ _ _ _ _ h hG hlo (tf_ok_cons (v := .inl (tf_lcmp x z)) (tf_lcmp_in x z) (tf_ok_tl (tf_ok_tl hst))) p e s m args below meth c H locs ls D cA ad A C hP hD hS hl)

set_option maxHeartbeats 1000000 in
theorem tf_s_dup {l : Launch} {y : Nat} {sc : Option (Nat × (Int → Int))} {Post : tf_Out → tf_Sto → Prop} {pc : Nat} {lo : tf_Lo} {st : List tf_Av} {cs : tf_Cs} {G : tf_Sto} {go : Nat → tf_Lo → List tf_Av → tf_Cs → tf_Sto → Prop}  (hi : tf_tab y pc = some (.dup)) (hgo : ∀ pc lo st cs G, go pc lo st cs G → tf_AW l y sc Post pc lo st cs G) (h : tf_p1 st fun v r => go (pc + 1) lo (v :: v :: r) cs G) : tf_AW l y sc Post pc lo st cs G := by
  obtain ⟨n, hd, hn⟩ := tf_tab_ok hi
  have hn : n = 1 := tf_ln (k := 0) hn rfl
  subst hn
  obtain ⟨v, r, rfl, hc, h⟩ := tf_p1_ok h
  intro hG hlo hst p e s m args below meth c H locs ls D cA ad A C hP hD hS hl
  obtain ⟨hx, hb, hr, hml, hown, hts, hnw, hlk, hK, hA, hA0, hlt, hex, hfl, hsc, hsw⟩ := id C
  exact lv_dup (va := tf_cv ad v) (rest := r.map (tf_cv ad)) hx hb hd (tf_cat1 hc) (hgo _ _ _ _ _ h hG hlo (tf_ok_cons (tf_ok_hd hst) hst) p e s m args below meth c H locs ls D cA ad A C hP hD hS hl)

set_option maxHeartbeats 1000000 in
theorem tf_s_pop {l : Launch} {y : Nat} {sc : Option (Nat × (Int → Int))} {Post : tf_Out → tf_Sto → Prop} {pc : Nat} {lo : tf_Lo} {st : List tf_Av} {cs : tf_Cs} {G : tf_Sto} {go : Nat → tf_Lo → List tf_Av → tf_Cs → tf_Sto → Prop}  (hi : tf_tab y pc = some (.pop)) (hgo : ∀ pc lo st cs G, go pc lo st cs G → tf_AW l y sc Post pc lo st cs G) (h : tf_p1 st fun _ r => go (pc + 1) lo r cs G) : tf_AW l y sc Post pc lo st cs G := by
  obtain ⟨n, hd, hn⟩ := tf_tab_ok hi
  have hn : n = 1 := tf_ln (k := 0) hn rfl
  subst hn
  obtain ⟨v, r, rfl, hc, h⟩ := tf_p1_ok h
  intro hG hlo hst p e s m args below meth c H locs ls D cA ad A C hP hD hS hl
  obtain ⟨hx, hb, hr, hml, hown, hts, hnw, hlk, hK, hA, hA0, hlt, hex, hfl, hsc, hsw⟩ := id C
  exact lv_pop (va := tf_cv ad v) (rest := r.map (tf_cv ad)) hx hb hd (tf_cat1 hc) (hgo _ _ _ _ _ h hG hlo (tf_ok_tl hst) p e s m args below meth c H locs ls D cA ad A C hP hD hS hl)

set_option maxHeartbeats 1000000 in
theorem tf_s_dup2 {l : Launch} {y : Nat} {sc : Option (Nat × (Int → Int))} {Post : tf_Out → tf_Sto → Prop} {pc : Nat} {lo : tf_Lo} {st : List tf_Av} {cs : tf_Cs} {G : tf_Sto} {go : Nat → tf_Lo → List tf_Av → tf_Cs → tf_Sto → Prop}  (hi : tf_tab y pc = some (.dup2)) (hgo : ∀ pc lo st cs G, go pc lo st cs G → tf_AW l y sc Post pc lo st cs G) (h : tf_p1 st fun v r => tf_p1 r fun w r => go (pc + 1) lo (v :: w :: v :: w :: r) cs G) : tf_AW l y sc Post pc lo st cs G := by
  obtain ⟨n, hd, hn⟩ := tf_tab_ok hi
  have hn : n = 1 := tf_ln (k := 0) hn rfl
  subst hn
  obtain ⟨v, r1, rfl, hc, h1⟩ := tf_p1_ok h
  obtain ⟨w, r, rfl, hc2, h⟩ := tf_p1_ok h1
  intro hG hlo hst p e s m args below meth c H locs ls D cA ad A C hP hD hS hl
  obtain ⟨hx, hb, hr, hml, hown, hts, hnw, hlk, hK, hA, hA0, hlt, hex, hfl, hsc, hsw⟩ := id C
  exact lv_dup2_11 (va := tf_cv ad v) (vb := tf_cv ad w) (rest := r.map (tf_cv ad)) hx hb hd (tf_cat1 hc) (tf_cat1 hc2) (hgo _ _ _ _ _ h hG hlo (tf_ok_cons (tf_ok_hd hst) (tf_ok_cons (tf_ok_hd (tf_ok_tl hst)) hst)) p e s m args below meth c H locs ls D cA ad A C hP hD hS hl)

set_option maxHeartbeats 1000000 in
theorem tf_s_ifc {l : Launch} {y : Nat} {sc : Option (Nat × (Int → Int))} {Post : tf_Out → tf_Sto → Prop} {pc : Nat} {lo : tf_Lo} {st : List tf_Av} {cs : tf_Cs} {G : tf_Sto} {go : Nat → tf_Lo → List tf_Av → tf_Cs → tf_Sto → Prop} {cd : ClassFile.Cond} {off : Int} (hi : tf_tab y pc = some (.ifCond cd off)) (hgo : ∀ pc lo st cs G, go pc lo st cs G → tf_AW l y sc Post pc lo st cs G) (h : tf_pI st fun x r => bif tf_back pc off then tf_cnd cd x 0 (go (tf_tgt pc off) lo r cs G) (go (pc + 3) lo r cs G) else False) : tf_AW l y sc Post pc lo st cs G := by
  obtain ⟨n, hd, hn⟩ := tf_tab_ok hi
  have hn : n = 3 := tf_ln (k := 2) hn rfl
  subst hn
  obtain ⟨x, r, rfl, h⟩ := tf_pI_ok h
  obtain ⟨hbk, h⟩ := tf_bif h
  have ht := tf_tgt_ok hbk
  intro hG hlo hst p e s m args below meth c H locs ls D cA ad A C hP hD hS hl
  obtain ⟨hx, hb, hr, hml, hown, hts, hnw, hlk, hK, hA, hA0, hlt, hex, hfl, hsc, hsw⟩ := id C
  have hxx := tf_ok_hd hst
  have h0 : tf_inI 0 := ⟨by omega, by omega⟩
  have hst := tf_ok_tl hst
  cases cd with
  | eq => exact lv_if_eq (x := Int32.ofInt x) (rest := r.map (tf_cv ad)) hx hb hd ht (fun q => hgo _ _ _ _ _ ((fun q => h.1 ((tf_eq hxx h0).mp q)) q) hG hlo hst p e s m args below meth c H locs ls D cA ad A C hP hD hS hl) (fun q => hgo _ _ _ _ _ ((fun q => h.2 (fun z => q ((tf_eq hxx h0).mpr z))) q) hG hlo hst p e s m args below meth c H locs ls D cA ad A C hP hD hS hl)
  | ne => exact lv_if_ne (x := Int32.ofInt x) (rest := r.map (tf_cv ad)) hx hb hd ht (fun q => hgo _ _ _ _ _ ((fun q => h.1 (fun z => q ((tf_eq hxx h0).mpr z))) q) hG hlo hst p e s m args below meth c H locs ls D cA ad A C hP hD hS hl) (fun q => hgo _ _ _ _ _ ((fun q => h.2 ((tf_eq hxx h0).mp q)) q) hG hlo hst p e s m args below meth c H locs ls D cA ad A C hP hD hS hl)
  | lt => exact lv_if_lt (x := Int32.ofInt x) (rest := r.map (tf_cv ad)) hx hb hd ht (fun q => hgo _ _ _ _ _ ((fun q => h.1 ((tf_lt hxx h0).mp q)) q) hG hlo hst p e s m args below meth c H locs ls D cA ad A C hP hD hS hl) (fun q => hgo _ _ _ _ _ ((fun q => h.2 (Int.not_lt.mp fun z => q ((tf_lt hxx h0).mpr z))) q) hG hlo hst p e s m args below meth c H locs ls D cA ad A C hP hD hS hl)
  | ge => exact lv_if_ge (x := Int32.ofInt x) (rest := r.map (tf_cv ad)) hx hb hd ht (fun q => hgo _ _ _ _ _ ((fun q => h.1 ((tf_le h0 hxx).mp q)) q) hG hlo hst p e s m args below meth c H locs ls D cA ad A C hP hD hS hl) (fun q => hgo _ _ _ _ _ ((fun q => h.2 (Int.not_le.mp fun z => q ((tf_le h0 hxx).mpr z))) q) hG hlo hst p e s m args below meth c H locs ls D cA ad A C hP hD hS hl)
  | gt => exact lv_if_gt (x := Int32.ofInt x) (rest := r.map (tf_cv ad)) hx hb hd ht (fun q => hgo _ _ _ _ _ ((fun q => h.1 ((tf_lt h0 hxx).mp q)) q) hG hlo hst p e s m args below meth c H locs ls D cA ad A C hP hD hS hl) (fun q => hgo _ _ _ _ _ ((fun q => h.2 (Int.not_lt.mp fun z => q ((tf_lt h0 hxx).mpr z))) q) hG hlo hst p e s m args below meth c H locs ls D cA ad A C hP hD hS hl)
  | le => exact lv_if_le (x := Int32.ofInt x) (rest := r.map (tf_cv ad)) hx hb hd ht (fun q => hgo _ _ _ _ _ ((fun q => h.1 ((tf_le hxx h0).mp q)) q) hG hlo hst p e s m args below meth c H locs ls D cA ad A C hP hD hS hl) (fun q => hgo _ _ _ _ _ ((fun q => h.2 (Int.not_le.mp fun z => q ((tf_le hxx h0).mpr z))) q) hG hlo hst p e s m args below meth c H locs ls D cA ad A C hP hD hS hl)

set_option maxHeartbeats 1000000 in
theorem tf_s_icmp {l : Launch} {y : Nat} {sc : Option (Nat × (Int → Int))} {Post : tf_Out → tf_Sto → Prop} {pc : Nat} {lo : tf_Lo} {st : List tf_Av} {cs : tf_Cs} {G : tf_Sto} {go : Nat → tf_Lo → List tf_Av → tf_Cs → tf_Sto → Prop} {cd : ClassFile.Cond} {off : Int} (hi : tf_tab y pc = some (.if_icmp cd off)) (hgo : ∀ pc lo st cs G, go pc lo st cs G → tf_AW l y sc Post pc lo st cs G) (h : tf_pI st fun z r => tf_pI r fun x r => bif tf_back pc off then tf_cnd cd x z (go (tf_tgt pc off) lo r cs G) (go (pc + 3) lo r cs G) else False) : tf_AW l y sc Post pc lo st cs G := by
  obtain ⟨n, hd, hn⟩ := tf_tab_ok hi
  have hn : n = 3 := tf_ln (k := 2) hn rfl
  subst hn
  obtain ⟨z, r1, rfl, h1⟩ := tf_pI_ok h
  obtain ⟨x, r, rfl, h⟩ := tf_pI_ok h1
  obtain ⟨hbk, h⟩ := tf_bif h
  have ht := tf_tgt_ok hbk
  intro hG hlo hst p e s m args below meth c H locs ls D cA ad A C hP hD hS hl
  obtain ⟨hx, hb, hr, hml, hown, hts, hnw, hlk, hK, hA, hA0, hlt, hex, hfl, hsc, hsw⟩ := id C
  have hxx := tf_ok_hd (tf_ok_tl hst)
  have h0 := tf_ok_hd hst
  have hst := tf_ok_tl (tf_ok_tl hst)
  cases cd with
  | eq => exact lv_icmp_eq (x := Int32.ofInt x) (y := Int32.ofInt z) (rest := r.map (tf_cv ad)) hx hb hd ht (fun q => hgo _ _ _ _ _ ((fun q => h.1 ((tf_eq hxx h0).mp q)) q) hG hlo hst p e s m args below meth c H locs ls D cA ad A C hP hD hS hl) (fun q => hgo _ _ _ _ _ ((fun q => h.2 (fun z => q ((tf_eq hxx h0).mpr z))) q) hG hlo hst p e s m args below meth c H locs ls D cA ad A C hP hD hS hl)
  | ne => exact lv_icmp_ne (x := Int32.ofInt x) (y := Int32.ofInt z) (rest := r.map (tf_cv ad)) hx hb hd ht (fun q => hgo _ _ _ _ _ ((fun q => h.1 (fun z => q ((tf_eq hxx h0).mpr z))) q) hG hlo hst p e s m args below meth c H locs ls D cA ad A C hP hD hS hl) (fun q => hgo _ _ _ _ _ ((fun q => h.2 ((tf_eq hxx h0).mp q)) q) hG hlo hst p e s m args below meth c H locs ls D cA ad A C hP hD hS hl)
  | lt => exact lv_icmp_lt (x := Int32.ofInt x) (y := Int32.ofInt z) (rest := r.map (tf_cv ad)) hx hb hd ht (fun q => hgo _ _ _ _ _ ((fun q => h.1 ((tf_lt hxx h0).mp q)) q) hG hlo hst p e s m args below meth c H locs ls D cA ad A C hP hD hS hl) (fun q => hgo _ _ _ _ _ ((fun q => h.2 (Int.not_lt.mp fun z => q ((tf_lt hxx h0).mpr z))) q) hG hlo hst p e s m args below meth c H locs ls D cA ad A C hP hD hS hl)
  | ge => exact lv_icmp_ge (x := Int32.ofInt x) (y := Int32.ofInt z) (rest := r.map (tf_cv ad)) hx hb hd ht (fun q => hgo _ _ _ _ _ ((fun q => h.1 ((tf_le h0 hxx).mp q)) q) hG hlo hst p e s m args below meth c H locs ls D cA ad A C hP hD hS hl) (fun q => hgo _ _ _ _ _ ((fun q => h.2 (Int.not_le.mp fun z => q ((tf_le h0 hxx).mpr z))) q) hG hlo hst p e s m args below meth c H locs ls D cA ad A C hP hD hS hl)
  | gt => exact lv_icmp_gt (x := Int32.ofInt x) (y := Int32.ofInt z) (rest := r.map (tf_cv ad)) hx hb hd ht (fun q => hgo _ _ _ _ _ ((fun q => h.1 ((tf_lt h0 hxx).mp q)) q) hG hlo hst p e s m args below meth c H locs ls D cA ad A C hP hD hS hl) (fun q => hgo _ _ _ _ _ ((fun q => h.2 (Int.not_lt.mp fun z => q ((tf_lt h0 hxx).mpr z))) q) hG hlo hst p e s m args below meth c H locs ls D cA ad A C hP hD hS hl)
  | le => exact lv_icmp_le (x := Int32.ofInt x) (y := Int32.ofInt z) (rest := r.map (tf_cv ad)) hx hb hd ht (fun q => hgo _ _ _ _ _ ((fun q => h.1 ((tf_le hxx h0).mp q)) q) hG hlo hst p e s m args below meth c H locs ls D cA ad A C hP hD hS hl) (fun q => hgo _ _ _ _ _ ((fun q => h.2 (Int.not_le.mp fun z => q ((tf_le hxx h0).mpr z))) q) hG hlo hst p e s m args below meth c H locs ls D cA ad A C hP hD hS hl)

set_option maxHeartbeats 1000000 in
theorem tf_s_goto {l : Launch} {y : Nat} {sc : Option (Nat × (Int → Int))} {Post : tf_Out → tf_Sto → Prop} {pc : Nat} {lo : tf_Lo} {st : List tf_Av} {cs : tf_Cs} {G : tf_Sto} {go : Nat → tf_Lo → List tf_Av → tf_Cs → tf_Sto → Prop} {off : Int} (hi : tf_tab y pc = some (.goto off)) (hgo : ∀ pc lo st cs G, go pc lo st cs G → tf_AW l y sc Post pc lo st cs G) (h : bif tf_back pc off then go (tf_tgt pc off) lo st cs G else False) : tf_AW l y sc Post pc lo st cs G := by
  obtain ⟨n, hd, hn⟩ := tf_tab_ok hi
  have hn : n = 3 := tf_ln (k := 2) hn rfl
  subst hn
  obtain ⟨hbk, h⟩ := tf_bif h
  have ht := tf_tgt_ok hbk
  intro hG hlo hst p e s m args below meth c H locs ls D cA ad A C hP hD hS hl
  obtain ⟨hx, hb, hr, hml, hown, hts, hnw, hlk, hK, hA, hA0, hlt, hex, hfl, hsc, hsw⟩ := id C
  exact lv_goto hx hb hd ht (hgo _ _ _ _ _ h hG hlo hst p e s m args below meth c H locs ls D cA ad A C hP hD hS hl)
