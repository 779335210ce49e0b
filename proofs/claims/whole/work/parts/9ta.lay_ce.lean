def c_v0 (f : Option (Option Nat)) : Value := match f with
  | none => .int (Int32.ofInt 0)
  | some _ => .null
def c_b0 (f : Option (Option Nat)) : Bool := match f with
  | some (some _) => false
  | _ => true
theorem c_f1 {fs0 : List (Option (Option Nat))} (h : fs0.all c_b0 = true) (ad : Nat → Nat) (k : Nat) : fs0.mapIdx (fun j f => tf_fv ad (fun _ _ => 0) k j f) = fs0.map c_v0 := by
  apply List.ext_getElem?
  intro i
  rw [List.getElem?_mapIdx, List.getElem?_map]
  cases hf : fs0[i]? with
  | none => rfl
  | some f =>
    have hb := List.all_eq_true.mp h f (List.mem_of_getElem? hf)
    match f, hb with
    | none, _ => rfl
    | some none, _ => rfl
