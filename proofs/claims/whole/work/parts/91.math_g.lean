/-- the bytes of a number below a thousand -/
def tnum (v : Int) : List Int := (if 99 < v then [48 + v / 100] else []) ++ ((if 9 < v then [48 + v / 10 % 10] else []) ++ [48 + v % 10])
/-- what is left of a tree when its head and all but j of those below are written -/
def tR (s : Int → List Int) (bx : Int → Int) (w : Int) (j : Nat) : List Int := match j with
  | 0 => if 0 < w then [41] else []
  | j + 1 => (if (j : Int) + 1 = w then 40 else 44) :: (s (bx (w - ((j : Int) + 1))) ++ tR s bx w j)
def thead (h lst : Int → Int) (x : Int) : List Int := if h x = -1 then 86 :: tnum (lst x) else 83 :: tnum (h x / 4)
def tS (h lst : Int → Int) (b : Int → Int → Int) (d : Nat) (x : Int) : List Int := match d with
  | 0 => []
  | d + 1 => thead h lst x ++ tR (fun y => tS h lst b d y) (b x) (mf_w (h x)) (mf_w (h x)).toNat
def tok (h : Int → Int) (b : Int → Int → Int) (d : Nat) (x : Int) : Prop := match d with
  | 0 => False
  | d + 1 => ∀ k, 0 ≤ k → k < mf_w (h x) → tok h b d (b x k)
section
variable {h h' lst lst' : Int → Int} {b b' : Int → Int → Int} {c c' : Int} {R : Int → Int → Prop}
theorem tok_mono {d e : Nat} (hde : d ≤ e) : ∀ {x : Int}, tok h b d x → tok h b e x := by
  induction d generalizing e with
  | zero => intro x hx; exact False.elim hx
  | succ d ih =>
    intro x hx
    cases e with
    | zero => omega
    | succ e => exact fun k k0 k1 => ih (by omega) (hx k k0 k1)
theorem tok_ex {x : Int} (hf : tfin c h b x) : ∃ d, tok h b d x := by
  refine hf (fun x => ∃ d, tok h b d x) ?_
  intro y hy hc
  have main : ∀ m : Nat, (m : Int) ≤ mf_w (h y) → ∃ d, ∀ k, 0 ≤ k → k < (m : Int) → tok h b d (b y k) := by
    intro m
    induction m with
    | zero => intro _; exact ⟨0, fun k k0 k1 => by omega⟩
    | succ m ih =>
      intro hm
      obtain ⟨d, hd⟩ := ih (by omega)
      obtain ⟨e, he⟩ := hc (m : Int) (by omega) (by omega)
      refine ⟨d + e, fun k k0 k1 => ?_⟩
      by_cases q : k = (m : Int)
      · subst q
        exact tok_mono (by omega) he
      · exact tok_mono (by omega) (hd k k0 (by omega))
  have hw := mf_w_in (h y)
  obtain ⟨d, hd⟩ := main (mf_w (h y)).toNat (by omega)
  exact ⟨d + 1, fun k k0 k1 => hd k k0 (by omega)⟩
theorem tiso.tokd (hi : tiso c h b c' h' b' R) {d : Nat} : ∀ {x y : Int}, R x y → tok h b d x → tok h' b' d y := by
  induction d with
  | zero => intro x y _ hx; exact False.elim hx
  | succ d ih =>
    intro x y hr hx k k0 k1
    obtain ⟨_, _, e, q⟩ := hi.2.2.1 x y hr
    rw [e] at k1
    exact ih (q k k0 k1) (hx k k0 k1)
theorem tR_congr {s s' : Int → List Int} {bx bx' : Int → Int} {w : Int} (hs : ∀ k, 0 ≤ k → k < w → s (bx k) = s' (bx' k)) : ∀ j : Nat, (j : Int) ≤ w → tR s bx w j = tR s' bx' w j := by
  intro j
  induction j with
  | zero => intro _; rfl
  | succ j ih =>
    intro hj
    simp only [tR]
    rw [ih (by omega), hs (w - ((j : Int) + 1)) (by omega) (by omega)]
theorem tiso.tSd (hi : tiso c h b c' h' b' R) (hl : ∀ x y, R x y → h x = -1 → lst x = lst' y) {d : Nat} : ∀ {x y : Int}, R x y → tS h lst b d x = tS h' lst' b' d y := by
  induction d with
  | zero => intro x y _; rfl
  | succ d ih =>
    intro x y hr
    obtain ⟨_, _, e, q⟩ := hi.2.2.1 x y hr
    have hw := mf_w_in (h x)
    have e1 : thead h lst x = thead h' lst' y := by
      unfold thead
      rw [e]
      by_cases q1 : h x = -1
      · rw [if_pos q1, if_pos q1, hl x y hr q1]
      · rw [if_neg q1, if_neg q1]
    have e2 := tR_congr (s := fun y => tS h lst b d y) (s' := fun y => tS h' lst' b' d y) (bx := b x) (bx' := b' y) (w := mf_w (h x)) (fun k k0 k1 => ih (q k k0 k1)) (mf_w (h x)).toNat (by omega)
    simp only [tS]
    rw [e1, e, e2]
end
theorem tnum_len (v : Int) : 1 ≤ (tnum v).length ∧ (tnum v).length ≤ 3 := by
  unfold tnum
  simp only [List.length_append, List.length_cons, List.length_nil]
  constructor
  · omega
  · split <;> split <;> simp
theorem thead_len (h lst : Int → Int) (x : Int) : 2 ≤ (thead h lst x).length ∧ (thead h lst x).length ≤ 4 := by
  unfold thead
  split <;> simp only [List.length_cons]
  · have := tnum_len (lst x); omega
  · have := tnum_len (h x / 4); omega
/-- an array holds the first 200 of a list -/
def wr (W : Int → Int) (D : List Int) : Prop := ∀ j : Nat, j < 200 → j < D.length → D[j]? = some (W j)
theorem wr_nil {W : Int → Int} : wr W [] := by
  intro j _ hj
  simp at hj
theorem wr_add {W W' : Int → Int} {D : List Int} {v : Int} (hw : wr W D) (h1 : ∀ j : Int, j ≠ D.length → W' j = W j) (h2 : D.length < 200 → W' D.length = v) : wr W' (D ++ [v]) := by
  intro j j2 hj
  simp only [List.length_append, List.length_cons, List.length_nil] at hj
  by_cases q : j = D.length
  · subst q
    rw [List.getElem?_append_right (Nat.le_refl _), Nat.sub_self, h2 j2]
    rfl
  · rw [List.getElem?_append_left (by omega), h1 j (by omega)]
    exact hw j j2 (by omega)
theorem wr_congr {W W' : Int → Int} {D : List Int} (hw : wr W D) (h : ∀ j : Nat, j < 200 → W' j = W j) : wr W' D := by
  intro j j2 hj
  rw [h j j2]
  exact hw j j2 hj
/-- a pile of things, each with what it stands for -/
def stk (I : Int → List Int → Prop) (m : Nat) (s : List Int) : Prop := match m with
  | 0 => s = []
  | m + 1 => ∃ s1 s2, I (m : Int) s1 ∧ stk I m s2 ∧ s = s1 ++ s2
theorem stk_congr {I I' : Int → List Int → Prop} {m : Nat} : ∀ {s : List Int}, (∀ j : Int, 0 ≤ j → j < m → ∀ s, I j s → I' j s) → stk I m s → stk I' m s := by
  induction m with
  | zero => intro s _ hs; exact hs
  | succ m ih =>
    rintro s hI ⟨s1, s2, a1, a2, a3⟩
    exact ⟨s1, s2, hI _ (by omega) (by omega) _ a1, ih (fun j j0 j1 => hI j j0 (by omega)) a2, a3⟩
