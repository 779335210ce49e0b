-- the cells as the proofs number them, out of the order in which they were made
def c_pm (k : Nat) : Nat := bif Nat.blt k 36 then k else (bif Nat.beq k 36 then 38 else (bif Nat.beq k 37 then 36 else (bif Nat.blt k 68 then k + 2 else (bif Nat.beq k 68 then 37 else (bif Nat.beq k 69 then 39 else k)))))
def c_rn (f : Option (Option Nat)) : Option (Option Nat) := match f with
  | some (some k) => some (some (c_pm k))
  | some none => some none
  | none => none
def c_ren (e : tf_Ent) : tf_Ent := match e with
  | .inl q => .inl (q.1, q.2.map c_rn)
  | .inr q => .inr q
def c_rv (v : tf_Av) : tf_Av := match v with
  | .inr (.inr k) => .inr (.inr (c_pm k))
  | .inr (.inl z) => .inr (.inl z)
  | .inl z => .inl z
theorem c_pm_id {k : Nat} (h : 70 ≤ k) : c_pm k = k := by
  have f : ∀ n : Nat, n ≤ 70 → Nat.blt k n = false := fun n hn => by
    cases hb : Nat.blt k n with
    | false => rfl
    | true =>
      have := Nat.le_of_ble_eq_true hb
      omega
  have g : ∀ n : Nat, n < 70 → Nat.beq k n = false := fun n hn => by
    cases hb : Nat.beq k n with
    | false => rfl
    | true =>
      have := Nat.eq_of_beq_eq_true hb
      omega
  unfold c_pm
  rw [f 36 (by decide), g 36 (by decide), g 37 (by decide), f 68 (by decide), g 68 (by decide), g 69 (by decide)]
  rfl
theorem c_pm_inj : ∀ i j : Fin 70, c_pm i.val = c_pm j.val → i = j := by decide +kernel
theorem c_pcell (ad : Nat → Nat) (cA : Nat → ClassId) (k : Nat) (e : tf_Ent) : tf_cell (fun i => ad (c_pm i)) cA (fun _ _ => 0) k e = tf_cell ad cA (fun _ _ => 0) (c_pm k) (c_ren e) := by
  match e with
  | .inr q => rfl
  | .inl (ci, fs) =>
    show (ad (c_pm k), Sum.inr (ci, fs.mapIdx (fun j f => tf_fv (fun i => ad (c_pm i)) (fun _ _ => 0) k j f))) = (ad (c_pm k), Sum.inr (ci, (fs.map c_rn).mapIdx (fun j f => tf_fv ad (fun _ _ => 0) (c_pm k) j f)))
    congr 3
    apply List.ext_getElem?
    intro i
    rw [List.getElem?_mapIdx, List.getElem?_mapIdx, List.getElem?_map]
    cases hf : fs[i]? with
    | none => rfl
    | some f =>
      match f with
      | none => rfl
      | some none => rfl
      | some (some q) => rfl
theorem c_pget {LAY : List tf_Ent} (hp : ∀ k : Fin 70, LAY[c_pm k.val]? = (tf_LAY[k.val]?).map c_ren) (ad : Nat → Nat) (cA : Nat → ClassId) {k : Nat} {q : Nat × va_E} (h : (cw_w (fun i => ad (c_pm i)) cA tf_LAY)[k]? = some q) : k < 70 ∧ (cw_w ad cA LAY)[c_pm k]? = some q := by
  have hk : k < 70 := by
    have := (List.getElem?_eq_some_iff.mp h).1
    rw [cw_len] at this
    exact this
  refine ⟨hk, ?_⟩
  have hp := hp ⟨k, hk⟩
  unfold cw_w at h ⊢
  rw [List.getElem?_mapIdx] at h ⊢
  rw [hp]
  cases he : tf_LAY[k]? with
  | none => rw [he] at h; cases h
  | some e =>
    rw [he] at h
    have h : some (tf_cell (fun i => ad (c_pm i)) cA (fun _ _ => 0) k e) = some q := h
    rw [c_pcell] at h
    exact h
section
variable {l : Launch} {p : Program} {e : Env} {R : Room} {s : State} {m : MethodId} {args : Array Value} {below : List Frame} {meth : Method} {c : Code} {Q : State → Prop} {D : va_G} {cA : Nat → ClassId} {A : Nat → Prop} {ad0 : Nat → Nat} {nL : Nat} {pc : Nat} {lo lo' : tf_Lo} {LAY : List tf_Ent} {cells slots : Nat}
theorem c_perm (hp : ∀ k : Fin 70, LAY[c_pm k.val]? = (tf_LAY[k.val]?).map c_ren) (hlo : lo = lo'.map (fun q => (q.1, c_rv q.2))) (h : c_AW p l e R s m args below meth c Q D cA A ad0 0 nL pc lo' [] tf_LAY cells slots) : c_AW p l e R s m args below meth c Q D cA A ad0 0 nL pc lo [] LAY cells slots := by
  intro H locs ls ad h0 hP hD hS hl
  refine h H locs ls (fun i => ad (c_pm i)) (fun i hi => ?_) (fun k q hk => hP _ q (c_pget hp ad cA hk).2) ⟨fun i j x y hx hy hxy => ?_, fun k q hk => hD.2 _ q (c_pget hp ad cA hk).2⟩ hS ?_
  · show ad (c_pm i) = ad0 i
    rw [c_pm_id (by omega)]
    exact h0 i (by omega)
  · obtain ⟨a1, a2⟩ := c_pget hp ad cA hx
    obtain ⟨b1, b2⟩ := c_pget hp ad cA hy
    have := c_pm_inj ⟨i, a1⟩ ⟨j, b1⟩ (hD.1 _ _ x y a2 b2 hxy)
    exact congrArg Fin.val this
  · have e1 : lo'.map (tf_cp (fun i => ad (c_pm i))) = lo.map (tf_cp ad) := by
      rw [hlo, List.map_map]
      apply List.map_congr_left
      intro q _
      obtain ⟨i, v⟩ := q
      match v with
      | .inl z => rfl
      | .inr (.inl z) => rfl
      | .inr (.inr k) => rfl
    rw [e1]
    exact hl
end
