-- MATH D: trees of terms: bisimulations, numberings
def mh (hd rt sh : Int → Int) (t : Int) : Int := if sh (rt t) = -1 then -1 else hd (sh (rt t))
def mc (ch : Int → Int → Int) (rt sh : Int → Int) (t k : Int) : Int := ch (sh (rt t)) k
def mf_lf (n : Int) (hd : Int → Int) (T : Int → Int → Prop) (s : Int) : Prop := ∀ u, mf_dom n u → T s u → hd u = -1
def mf_bis (n : Int) (hd : Int → Int) (ch : Int → Int → Int) (T B : Int → Int → Prop) : Prop := ∀ s t, mf_dom n s → mf_dom n t → B s t → (mf_lf n hd T s ↔ mf_lf n hd T t) ∧ (mf_lf n hd T s → T s t) ∧
  ∀ u v, mf_dom n u → mf_dom n v → T s u → T t v → 0 ≤ hd u → 0 ≤ hd v → hd u = hd v ∧ ∀ k, 0 ≤ k → k < hd u % 4 → B (ch u k) (ch v k)
def mf_ck (n : Int) (h r : Int → Int) (c : Int → Int → Int) (K : Int → Int → Prop) : Prop := ∀ s t, mf_dom n s → mf_dom n t → K s t → h s = h t ∧ (h s = -1 → r s = r t) ∧ ∀ k, 0 ≤ k → k < mf_w (h s) → K (c s k) (c t k)
def mf_Num (n c : Int) (f : Int → Int) : Prop := (∀ t, mf_dom n t → mf_dom c (f t)) ∧ ∀ x, mf_dom c x → ∃ t, mf_dom n t ∧ f t = x
def mf_sol (n : Int) (hd : Int → Int) (ch : Int → Int → Int) (T : Int → Int → Prop) (c : Int) (f : Int → Int) : Prop := mf_Num n c f ∧ mf_bis n hd ch T (fun s t => f s = f t) ∧ (∀ s t, mf_dom n s → mf_dom n t → T s t → f s = f t) ∧
  ∀ B, mf_bis n hd ch T B → ∀ s t, mf_dom n s → mf_dom n t → B s t → f s = f t
theorem mf_sol_iff {n : Int} {hd : Int → Int} {ch : Int → Int → Int} {T : Int → Int → Prop} {c c' : Int} {f f' : Int → Int} (h : mf_sol n hd ch T c f) (h' : mf_sol n hd ch T c' f') {s t : Int} (hs : mf_dom n s) (ht : mf_dom n t) : f s = f t ↔ f' s = f' t :=
  ⟨fun q => h'.2.2.2 _ h.2.1 s t hs ht q, fun q => h.2.2.2 _ h'.2.1 s t hs ht q⟩
theorem mf_cnt_all (m : Nat) : mf_cnt (fun _ => True) m = m := by
  induction m with
  | zero => rfl
  | succ m ih =>
    show mf_cnt (fun _ => True) m + mf_b True = ((m + 1 : Nat) : Int)
    rw [ih, mf_b1 trivial]
    omega
theorem mf_num_cnt {n c : Int} {f : Int → Int} (h : mf_Num n c f) (hc : 0 ≤ c) : c = mf_cnt (mf_fst (fun _ => True) (fun a b => f a = f b)) n.toNat := by
  have h1 := mf_cnt_ids (D := fun _ => True) (n := n.toNat) (c := c.toNat) (f := f) (P := fun _ => True) (fun t h0 h1 _ => by
    have := h.1 t (mf_nat_dom h0 h1)
    exact ⟨this.1, mf_dom_nat this⟩) (fun k h0 h1 _ => by
    obtain ⟨t, h2, h3⟩ := h.2 k (mf_nat_dom h0 h1)
    exact ⟨t, h2.1, mf_dom_nat h2, trivial, h3⟩)
  rw [mf_cnt_all] at h1
  rw [show mf_cnt (mf_fst (fun _ => True) (fun a b => f a = f b)) n.toNat = mf_cnt (fun t => mf_fst (fun _ => True) (fun a b => f a = f b) t ∧ True) n.toNat from mf_cnt_congr (fun t _ _ => ⟨fun q => ⟨q, trivial⟩, fun q => q.1⟩)]
  omega
/-- the finer numbering has no fewer classes -/
theorem mf_num_le {n c c' : Int} {f g : Int → Int} (hf : mf_Num n c f) (hg : mf_Num n c' g) (hc : 0 ≤ c) (hc' : 0 ≤ c') (h : ∀ s t, mf_dom n s → mf_dom n t → g s = g t → f s = f t) : c ≤ c' := by
  rw [mf_num_cnt hf hc, mf_num_cnt hg hc']
  refine mf_cnt_le (fun t t0 t1 q => ⟨trivial, fun s s0 s1 _ z => q.2 s s0 s1 trivial ?_⟩)
  exact h s t ⟨s0, by omega⟩ (mf_nat_dom t0 t1) z
theorem mf_num_eq {n c : Int} {f g : Int → Int} (hf : mf_Num n c f) (hg : mf_Num n c g) (hc : 0 ≤ c) (h : ∀ s t, mf_dom n s → mf_dom n t → g s = g t → f s = f t) : ∀ s t, mf_dom n s → mf_dom n t → f s = f t → g s = g t := by
  intro s t hs ht
  refine mf_ker_eq (n := n.toNat) (f := f) (g := g) (fun a b a0 a1 b0 b1 => h a b (mf_nat_dom a0 a1) (mf_nat_dom b0 b1)) ?_ s t hs.1 (mf_dom_nat hs) ht.1 (mf_dom_nat ht)
  rw [← mf_num_cnt hf hc, ← mf_num_cnt hg hc]
  exact Int.le_refl _
theorem mf_num_n {n c : Int} {f : Int → Int} (h : mf_Num n c f) (hc : 0 ≤ c) (hn : 0 ≤ n) : c ≤ n := by
  rw [mf_num_cnt h hc]
  have := (mf_cnt_in (mf_fst (fun _ => True) (fun a b => f a = f b)) n.toNat).2
  omega
section
variable {n : Int} {hd : Int → Int} {ch : Int → Int → Int} {E : List (Int × Int)} {rt sh : Int → Int}
theorem mf_lf_iff (hr : mf_rep n hd ch E rt sh) {s : Int} (hs : mf_dom n s) : mf_lf n hd (mf_T n hd ch E) s ↔ sh (rt s) = -1 := by
  constructor
  · intro h
    rcases (hr.1 s hs).2.2 with q | ⟨q1, q2, q3⟩
    · exact q.1
    · have := h _ q1 ((hr.2 _ _ hs q1).mp q2.symm)
      omega
  · intro h u hu hT
    have e := (hr.2 _ _ hs hu).mpr hT
    rcases (hr.1 u hu).2.2 with q | ⟨q1, q2, q3⟩
    · exact q.2
    · rw [← e, h] at q1
      have := q1.1
      omega
theorem mf_bis_ck (hr : mf_rep n hd ch E rt sh) {B : Int → Int → Prop} (h : mf_bis n hd ch (mf_T n hd ch E) B) : mf_ck n (mh hd rt sh) rt (mc ch rt sh) B := by
  intro s t hs ht hB
  obtain ⟨h1, h2, h3⟩ := h s t hs ht hB
  rw [mf_lf_iff hr hs] at h1 h2
  rw [mf_lf_iff hr ht] at h1
  unfold mh mc
  by_cases q : sh (rt s) = -1
  · rw [if_pos q, if_pos (h1.mp q)]
    refine ⟨rfl, fun _ => (hr.2 _ _ hs ht).mpr (h2 q), fun k k0 k1 => ?_⟩
    unfold mf_w at k1
    rw [if_pos rfl] at k1
    omega
  · have q' : sh (rt t) ≠ -1 := fun z => q (h1.mpr z)
    rw [if_neg q, if_neg q']
    obtain ⟨a1, a2, a3⟩ : mf_dom n (sh (rt s)) ∧ rt (sh (rt s)) = rt s ∧ 0 ≤ hd (sh (rt s)) := by
      rcases (hr.1 s hs).2.2 with z | z
      · exact absurd z.1 q
      · exact z
    obtain ⟨b1, b2, b3⟩ : mf_dom n (sh (rt t)) ∧ rt (sh (rt t)) = rt t ∧ 0 ≤ hd (sh (rt t)) := by
      rcases (hr.1 t ht).2.2 with z | z
      · exact absurd z.1 q'
      · exact z
    obtain ⟨c1, c2⟩ := h3 _ _ a1 b1 ((hr.2 _ _ hs a1).mp a2.symm) ((hr.2 _ _ ht b1).mp b2.symm) a3 b3
    refine ⟨c1, fun z => by omega, fun k k0 k1 => c2 k k0 ?_⟩
    unfold mf_w at k1
    rwa [if_neg (by omega)] at k1
theorem mf_bis_of (hr : mf_rep n hd ch E rt sh) (hc : mf_con n hd ch E) (hw : mf_wf n hd ch) {f : Int → Int} (hT : ∀ s t, mf_dom n s → mf_dom n t → rt s = rt t → f s = f t) (h : mf_ck n (mh hd rt sh) rt (mc ch rt sh) (fun s t => f s = f t)) :
    mf_bis n hd ch (mf_T n hd ch E) (fun s t => f s = f t) := by
  intro s t hs ht hB
  obtain ⟨h1, h2, h3⟩ := h s t hs ht hB
  rw [mf_lf_iff hr hs, mf_lf_iff hr ht]
  have nn : ∀ u, mf_dom n u → sh (rt u) ≠ -1 → mf_dom n (sh (rt u)) ∧ rt (sh (rt u)) = rt u ∧ 0 ≤ hd (sh (rt u)) := by
    intro u hu q
    rcases (hr.1 u hu).2.2 with z | z
    · exact absurd z.1 q
    · exact z
  unfold mh at h1 h2 h3
  refine ⟨?_, fun q => ?_, fun u v hu hv hTu hTv u0 v0 => ?_⟩
  · by_cases q : sh (rt s) = -1
    · rw [if_pos q] at h1
      refine ⟨fun _ => ?_, fun _ => q⟩
      apply Classical.byContradiction
      intro q'
      rw [if_neg q'] at h1
      have := (nn t ht q').2.2
      omega
    · rw [if_neg q] at h1
      refine ⟨fun z => absurd z q, fun q' => ?_⟩
      rw [if_pos q'] at h1
      have := (nn s hs q).2.2
      omega
  · rw [if_pos q] at h2
    exact (hr.2 _ _ hs ht).mp (h2 rfl)
  · have eu := (hr.2 _ _ hs hu).mpr hTu
    have ev := (hr.2 _ _ ht hv).mpr hTv
    have qs : sh (rt s) ≠ -1 := by
      intro z
      rcases (hr.1 u hu).2.2 with y | y
      · omega
      · rw [← eu, z] at y; have := y.1.1; omega
    have qt : sh (rt t) ≠ -1 := by
      intro z
      rcases (hr.1 v hv).2.2 with y | y
      · omega
      · rw [← ev, z] at y; have := y.1.1; omega
    rw [if_neg qs, if_neg qt] at h1
    rw [if_neg qs] at h3
    obtain ⟨a1, a2, a3⟩ := nn s hs qs
    obtain ⟨b1, b2, b3⟩ := nn t ht qt
    have Tu : mf_T n hd ch E u (sh (rt s)) := (hr.2 _ _ hu a1).mp (by rw [a2, eu])
    have Tv : mf_T n hd ch E v (sh (rt t)) := (hr.2 _ _ hv b1).mp (by rw [b2, ev])
    have du := hc _ _ hu a1 Tu u0 a3
    have dv := hc _ _ hv b1 Tv v0 b3
    refine ⟨by omega, fun k k0 k1 => ?_⟩
    have x1 := mf_wf_ch hw hu u0 k0 k1
    have x2 := mf_wf_ch hw a1 a3 k0 (by omega)
    have x3 := mf_wf_ch hw hv v0 k0 (by omega)
    have x4 := mf_wf_ch hw b1 b3 k0 (by omega)
    have e1 := hT _ _ x1 x2 ((hr.2 _ _ x1 x2).mpr (mf_T_dec _ _ hu a1 Tu u0 du k k0 k1))
    have e2 := hT _ _ x3 x4 ((hr.2 _ _ x3 x4).mpr (mf_T_dec _ _ hv b1 Tv v0 dv k k0 (by omega)))
    have e3 : f (mc ch rt sh s k) = f (mc ch rt sh t k) := h3 k k0 (by unfold mf_w; rw [if_neg (by omega)]; omega)
    exact e1.trans (e3.trans e2.symm)
theorem mc_dom (hp : mf_par n hd rt sh) (hw : mf_wf n hd ch) {t k : Int} (ht : mf_dom n t) (k0 : 0 ≤ k) (k1 : k < mf_w (mh hd rt sh t)) : mf_dom n (mc ch rt sh t k) ∧ sh (rt t) ≠ -1 ∧ mf_dom n (sh (rt t)) ∧ 0 ≤ hd (sh (rt t)) ∧ k < hd (sh (rt t)) % 4 := by
  unfold mh at k1
  by_cases q : sh (rt t) = -1
  · rw [if_pos q] at k1
    unfold mf_w at k1
    rw [if_pos rfl] at k1
    omega
  · rw [if_neg q] at k1
    rcases (hp t ht).2.2 with z | z
    · exact absurd z.1 q
    · have h0 := z.2.2
      unfold mf_w at k1
      rw [if_neg (by omega)] at k1
      exact ⟨mf_wf_ch hw z.1 h0 k0 k1, q, z.1, h0, k1⟩
theorem mh_in (hp : mf_par n hd rt sh) (hw : mf_wf n hd ch) {t : Int} (ht : mf_dom n t) : (mh hd rt sh t = -1 ∧ sh (rt t) = -1) ∨ (0 ≤ mh hd rt sh t ∧ mh hd rt sh t < 64 ∧ sh (rt t) ≠ -1 ∧ mf_dom n (sh (rt t)) ∧ mh hd rt sh t = hd (sh (rt t))) := by
  unfold mh
  by_cases q : sh (rt t) = -1
  · rw [if_pos q]; exact Or.inl ⟨rfl, q⟩
  · rw [if_neg q]
    rcases (hp t ht).2.2 with z | z
    · exact absurd z.1 q
    · rcases (hw _ z.1).1 with y | y
      · have := z.2.2; omega
      · exact Or.inr ⟨y.1, y.2, q, z.1, rfl⟩
end
