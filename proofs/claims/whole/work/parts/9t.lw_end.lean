theorem INV0 : INV 0 [] (fun _ _ => 0) := by
  have hz : ∀ t : Int, ¬ mf_dom 0 t := fun t ht => by
    have a := ht.1
    have b := ht.2
    omega
  refine ⟨⟨0, fun _ => 0, fun _ _ => 0, fun _ _ => 0, fun _ _ => 0, fun _ _ => 0, fun _ _ => 0, ?_, ?_, rfl, ?_, ?_, ?_⟩, ?_, rfl, rfl, ?_, rfl, ?_⟩
  · refine ⟨⟨fun t ht => absurd ht (hz t), fun i i0 i1 => by omega⟩, by omega, ⟨by decide, by decide⟩, fun t ht => absurd ht (hz t), ?_, ⟨fun t ht => absurd ht (hz t), fun s t hs => absurd hs (hz s)⟩, fun s t hs => absurd hs (hz s)⟩
    intro q hq
    cases hq
  · exact ⟨rfl, fun t ht => absurd ht (hz t), fun i i0 i1 => by omega⟩
  · exact ⟨⟨by decide, by decide⟩, fun j hj => absurd hj (hz j)⟩
  · exact fun q => absurd rfl q
  · refine ⟨rfl, by decide, wr_nil, (fun v hv => by cases hv), rfl, fun _ _ _ => rfl, fun a d _ => ?_⟩
    show ¬ b64 0 _ = true
    rw [b64_0]
    decide
  · exact ⟨rfl, fun t ht => absurd ht (hz t)⟩
  · exact fun j hj => absurd hj (hz j)
  · exact wr_nil
theorem okG0 : tf_okG (fun _ _ => 0) := by
  intro k e he
  match e with
  | .inl _ => exact fun j => (⟨by decide, by decide⟩ : tf_inI 0)
  | .inr (t, n) =>
    intro j
    show tf_okE t 0
    unfold tf_okE
    by_cases h3 : t = 3
    · rw [if_pos h3]; exact ⟨by decide, by decide⟩
    · rw [if_neg h3]
      by_cases h1 : t = 1
      · rw [if_pos h1]; exact ⟨by decide, by decide⟩
      · rw [if_neg h1]
        by_cases h2 : t = 2
        · rw [if_pos h2]; exact Or.inl rfl
        · rw [if_neg h2]; exact ⟨by decide, by decide⟩
def lw_P (b : Addr) (xs : List Int32) (args : Array Value) (s : State) : Prop := args = #[.ref b] ∧ s.IntsAt b xs ∧ xs.length ≤ 3072 ∧ (Jvm.Cond.and given_1 narrow_1).before args s = true
def lw_Q (_ : Array Value) (s : State) (o : Outcome) (t : State) : Prop := o = .returned (some (.int 1)) ∧ Framed s o t [] 601024 7293034
def lw_Z (below : List Frame) (a : Array Value) (s : State) : State → Prop := fun t => ∃ o, t.status = .running ∧ Ended t below o ∧ lw_Q a s o t
section
variable {l : Launch} {p : Program} {e : Env} {s : State} {m : MethodId} {args : Array Value} {below : List Frame} {meth : Method} {c : Code} {D : va_G} {cA : Nat → ClassId} {ad0 : Nat → Nat}
set_option maxRecDepth 20000 in
theorem law_end (hfl : l.flags = pinnedFlags ++ [noTraceFlag]) {b L : Nat} {xs : Nat → Int32} (hL : L ≤ 3072) (hx : p.tables.exec = Jvm.exec) (hb : c.code = code) (hr : meth.sig.returnType = ret) (hml : c.maxLocals = 8) (hown : s.vm.findClass "TermForgeLaw" = some m.cls) (hts : ∀ w ∈ tf_gt, w.before args s = true) (hnw : ∀ w ∈ tf_nt, va_Nw w s) (hlk : meth.locks = false)
    (hK : va_K D tf_cls (tf_tys cA) s) (hex : c.exceptionTable.toList.map (fun h => (h.startPc, h.endPc, h.handlerPc, h.catchType)) = []) (hX : va_X b L xs s s.heap) (hbl : b < s.heap.size) (hsw : tf_SW s) (had : ad0 9999 = b) :
    c_AW p l e room_1 s m args below meth c (lw_Z below args s) D cA (fun q => s.heap.size ≤ q) ad0 0 8 23 [(4, tf_i 0), (3, tf_r 67), (2, tf_r 42), (1, tf_r 0), (0, tf_r 9999)] [] tf_LAY 70 125625 := by
  intro H locs ls ad h0 hP hD hS hl
  have e9 : ad 9999 = b := by rw [h0 9999 (Or.inr (by decide)), had]
  have hw := law_loop (l := l) (N := L) (xs := fun i => (xs i.toNat).toInt) hL (L + 7) (fun _ _ => 0) 0 [] 0 70 125625 INV0 (by omega) (by omega) (by omega) (by omega) (by omega)
  have hlo : ∀ q ∈ [(0, tf_r 9999), (1, tf_r 0), (2, tf_r 42), (3, tf_r 67), (4, tf_i 0)], tf_okv q.2 := by
    intro q hq
    simp only [List.mem_cons, List.not_mem_nil, or_false] at hq
    rcases hq with rfl | rfl | rfl | rfl | rfl
    · trivial
    · trivial
    · trivial
    · trivial
    · exact ⟨by decide, by decide⟩
  have hl2 : lv_has ls (tf_nl 152) ([(0, tf_r 9999), (1, tf_r 0), (2, tf_r 42), (3, tf_r 67), (4, tf_i 0)].map (tf_cp ad)) := by
    refine ⟨hl.1, hl.2.1, fun q hq => hl.2.2 q ?_⟩
    simp only [List.map_cons, List.map_nil, List.mem_cons, List.not_mem_nil, or_false] at hq ⊢
    rcases hq with h | h | h | h | h <;> simp [h]
  have key := hw ⟨okG0, Nat.le_of_ble_eq_true rfl, Nat.le_of_ble_eq_true rfl⟩ hlo (fun v hv => by cases hv) p e s m args below meth c H locs ls D cA ad (fun q => s.heap.size ≤ q)
    ⟨hx, hb, hr, hml, hown, hts, hnw, hlk, hK, fun q hq => hq, fun q hq cell hc => absurd (Array.getElem?_eq_some_iff.mp hc).1 (Nat.not_lt.mpr hq), (fun q => by cases q), hex, hfl, ?_, hsw⟩ hP hD ⟨hS, (fun q => by cases q)⟩ hl2
  · refine tf_W.mono key ?_
    rintro t ⟨o, h1, h2, ⟨L', w1, w2, w3, w4⟩, hF, out, G', hPost, hG', hoR, hP'⟩
    obtain ⟨r, rfl, rfl⟩ := hPost
    have ho : o = .returned (some (.int 1)) := hoR.1
    exact ⟨o, h1, h2, ho, ⟨_, ho⟩, w1, State.sameButNew.drop_fresh (L := []) (J := L') (k := 601024) (n := 7293034) w2 w3⟩
  · intro L1 xs1 hsc
    cases hsc
    refine ⟨by omega, fun i => tf_rng _, ?_, by rw [e9]; exact hbl, by rw [e9]; exact Nat.not_le.mpr hbl⟩
    rw [e9]
    have ex : (fun j : Nat => Int32.ofInt ((fun i : Int => (xs i.toNat).toInt) (j : Int))) = xs := by
      funext j
      show Int32.ofInt (xs ((j : Int)).toNat).toInt = xs j
      rw [tf_of, Int.toNat_natCast]
    rw [ex]
    exact hX
end
