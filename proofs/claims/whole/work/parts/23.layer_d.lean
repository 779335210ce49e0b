-- LAYER D: what a stretch of a method asks (computed)
def tf_get (lo : tf_Lo) (i : Nat) : Option tf_Av := match lo with
  | [] => none
  | q :: r => bif Nat.beq q.1 i then some q.2 else tf_get r i
def tf_is2 (v : tf_Av) : Bool := match v with
  | .inr (.inl _) => true
  | _ => false
def tf_set1 (lo : tf_Lo) (i : Nat) (v : tf_Av) : tf_Lo := (i, v) :: lo.filter (fun q => !(Nat.beq q.1 i) && !(Nat.beq (q.1 + 1) i && tf_is2 q.2))
def tf_set2 (lo : tf_Lo) (i : Nat) (v : tf_Av) : tf_Lo := (i, v) :: lo.filter (fun q => !(Nat.beq q.1 i) && (!(Nat.beq q.1 (i + 1)) && !(Nat.beq (q.1 + 1) i && tf_is2 q.2)))
def tf_pick (lo : tf_Lo) (is : List Nat) : tf_Lo := match is with
  | [] => []
  | i :: r => match tf_get lo i with
    | some v => (i, v) :: tf_pick lo r
    | none => tf_pick lo r
def tf_pI (st : List tf_Av) (k : Int → List tf_Av → Prop) : Prop := match st with
  | .inl x :: r => k x r
  | _ => False
def tf_pL (st : List tf_Av) (k : Int → List tf_Av → Prop) : Prop := match st with
  | .inr (.inl x) :: r => k x r
  | _ => False
def tf_pR (st : List tf_Av) (k : Nat → List tf_Av → Prop) : Prop := match st with
  | .inr (.inr x) :: r => k x r
  | _ => False
def tf_p1 (st : List tf_Av) (k : tf_Av → List tf_Av → Prop) : Prop := match st with
  | x :: r => bif tf_is2 x then False else k x r
  | _ => False
def tf_gI (lo : tf_Lo) (i : Nat) (k : Int → Prop) : Prop := match tf_get lo i with
  | some (.inl x) => k x
  | _ => False
def tf_gL (lo : tf_Lo) (i : Nat) (k : Int → Prop) : Prop := match tf_get lo i with
  | some (.inr (.inl x)) => k x
  | _ => False
def tf_gR (lo : tf_Lo) (i : Nat) (k : Nat → Prop) : Prop := match tf_get lo i with
  | some (.inr (.inr x)) => k x
  | _ => False
def tf_and (x y : Int) : Int := (Int32.ofInt x &&& Int32.ofInt y).toInt
def tf_or (x y : Int) : Int := (Int32.ofInt x ||| Int32.ofInt y).toInt
def tf_xor (x y : Int) : Int := (Int32.ofInt x ^^^ Int32.ofInt y).toInt
def tf_shl (x y : Int) : Int := (Int32.ofInt x <<< (Int32.ofInt y &&& 31)).toInt
def tf_shr (x y : Int) : Int := (Int32.ofInt x >>> (Int32.ofInt y &&& 31)).toInt
def tf_ushr (x y : Int) : Int := ((Int32.ofInt x).toUInt32 >>> ((Int32.ofInt y).toUInt32 &&& Int32.toUInt32 31)).toInt32.toInt
def tf_land (x y : Int) : Int := (Int64.ofInt x &&& Int64.ofInt y).toInt
def tf_lor (x y : Int) : Int := (Int64.ofInt x ||| Int64.ofInt y).toInt
def tf_lshl (x y : Int) : Int := (Int64.ofInt x <<< ((Int32.ofInt y).toInt64 &&& 63)).toInt
def tf_lsub (x y : Int) : Int := (Int64.ofInt x - Int64.ofInt y).toInt
def tf_lneg (x : Int) : Int := (-(Int64.ofInt x)).toInt
def tf_lushr (x y : Int) : Int := ((Int64.ofInt x).toUInt64 >>> ((Int32.ofInt y).toInt64.toUInt64 &&& Int64.toUInt64 63)).toInt64.toInt
def tf_l2i (x : Int) : Int := (Int64.ofInt x).toInt32.toInt
def tf_lcmp (x y : Int) : Int := if x < y then -1 else if x = y then 0 else 1
def tf_cnd (cd : ClassFile.Cond) (x y : Int) (a b : Prop) : Prop := match cd with
  | .eq => (x = y → a) ∧ (x ≠ y → b)
  | .ne => (x ≠ y → a) ∧ (x = y → b)
  | .lt => (x < y → a) ∧ (y ≤ x → b)
  | .ge => (y ≤ x → a) ∧ (x < y → b)
  | .gt => (y < x → a) ∧ (x ≤ y → b)
  | .le => (x ≤ y → a) ∧ (y < x → b)
def tf_tsw (pc : Nat) (x : Int) (v : Int) (offs : List Int) (k : Nat → Prop) : Prop := match offs with
  | [] => True
  | o :: r => (x = v → k ((pc : Int) + o).toNat) ∧ tf_tsw pc x (v + 1) r k
/-- how an end of a call goes on -/
def tf_ret (thr : Bool) (rt : Option FieldType) (kr : List tf_Av → tf_Sto → Prop) (kt : Nat → tf_Sto → Prop) : tf_Out → tf_Sto → Prop := fun o G' =>
  match thr, rt with
  | false, none => o = .inl none ∧ kr [] G'
  | false, some .long => ∃ r : Int, o = .inl (some (.inr (.inl r))) ∧ kr [.inr (.inl r)] G'
  | false, some _ => ∃ r : Int, o = .inl (some (.inl r)) ∧ kr [.inl r] G'
  | true, none => (o = .inl none ∧ kr [] G') ∨ (o = .inr 0 ∧ kt 0 G') ∨ (o = .inr 1 ∧ kt 1 G') ∨ (o = .inr 2 ∧ kt 2 G')
  | true, some .long => (∃ r : Int, o = .inl (some (.inr (.inl r))) ∧ kr [.inr (.inl r)] G') ∨ (o = .inr 0 ∧ kt 0 G') ∨ (o = .inr 1 ∧ kt 1 G') ∨ (o = .inr 2 ∧ kt 2 G')
  | true, some _ => (∃ r : Int, o = .inl (some (.inl r)) ∧ kr [.inl r] G') ∨ (o = .inr 0 ∧ kt 0 G') ∨ (o = .inr 1 ∧ kt 1 G') ∨ (o = .inr 2 ∧ kt 2 G')
def tf_cat (v : tf_Av) : Nat := bif tf_is2 v then 2 else 1
def tf_cats (st : List tf_Av) : Nat := match st with
  | [] => 0
  | v :: r => tf_cat v + tf_cats r
/-- the first n of a stack, in the order of arguments, and the rest -/
def tf_take (n : Nat) (st acc : List tf_Av) (k : List tf_Av → List tf_Av → Prop) : Prop := match n with
  | 0 => k acc st
  | n + 1 => match st with
    | v :: r => tf_take n r (v :: acc) k
    | [] => False
/-- is the receiver an object of the class of the method -/
def tf_isr (as : List tf_Av) (ci : Nat) : Bool := match as with
  | .inr (.inr k) :: _ => match tf_lay k with
    | some (.inl o) => Nat.beq o.1 ci
    | _ => false
  | _ => false
def tf_call1 (l : Launch) (y y' : Nat) (virt : Bool) (pc : Nat) (lo : tf_Lo) (st : List tf_Av) (cs : tf_Cs) (G : tf_Sto) (kt : Nat → tf_Cs → tf_Sto → Prop) (go : Nat → tf_Lo → List tf_Av → tf_Cs → tf_Sto → Prop) : Prop :=
  bif Nat.ble (tf_rk y' + 1) (tf_rk y) && Nat.ble (19 + tf_nl y' + tf_lc y') (tf_lc y) && tf_ok y' then
    tf_take (tf_na y') st [] (fun as r => bif Nat.ble (tf_cats r) 8 && (!virt || tf_isr as (tf_oc y')) then
      (bif Nat.beq (tf_mc y') 0 && Nat.beq (tf_ms y') 0 then tf_RUN l y' as G (tf_ret (tf_th y') (tf_rt y') (fun v G' => go (pc + 3) lo (v ++ r) (cs.1, cs.2 && tf_pu y') G') (fun x G' => kt x (cs.1, cs.2 && tf_pu y') G'))
       else (((tf_cs cs).1 + tf_mc y' ≤ tf_mc y ∧ (tf_cs cs).2 + tf_ms y' ≤ tf_ms y) ∧
        tf_RUN l y' as G (tf_ret (tf_th y') (tf_rt y') (fun v G' => go (pc + 3) lo (v ++ r) (some ((tf_cs cs).1 + tf_mc y', (tf_cs cs).2 + tf_ms y'), cs.2 && tf_pu y') G') (fun x G' => kt x (some ((tf_cs cs).1 + tf_mc y', (tf_cs cs).2 + tf_ms y'), cs.2 && tf_pu y') G'))))
      else False)
  else False
def tf_nox (lo : tf_Lo) : Bool := match lo with
  | [] => true
  | (_, .inr (.inr k)) :: r => !(Nat.beq k 9998) && tf_nox r
  | _ :: r => tf_nox r
/-- what an exception of kind x at pc does: the handler there, or the end -/
def tf_thr (y : Nat) (Post : tf_Out → tf_Sto → Prop) (pc : Nat) (lo : tf_Lo) (go : Nat → tf_Lo → List tf_Av → tf_Cs → tf_Sto → Prop) (x : Nat) (cs : tf_Cs) (G : tf_Sto) : Prop :=
  match tf_hdl (tf_oc y) pc x (tf_hs y) with
  | some h => bif tf_nox lo then go h lo [.inr (.inr 9998)] cs G else False
  | none => bif (tf_hs y).isEmpty && (!tf_pu y || cs.2) then Post (.inr x) G else False
def tf_hA (k : Nat) (f : Nat → Nat → Prop) : Prop := match tf_lay k with
  | some (.inr q) => f q.1 q.2
  | _ => False
def tf_hO (k : Nat) (f : Nat → List (Option (Option Nat)) → Prop) : Prop := match tf_lay k with
  | some (.inl q) => f q.1 q.2
  | _ => False
def tf_hS (sc : Option (Nat × (Int → Int))) (f : Nat → (Int → Int) → Prop) : Prop := match sc with
  | some q => f q.1 q.2
  | none => False
def tf_hF (oc ix : Nat) (f : Nat → Nat → Prop) : Prop := match tf_fld oc ix with
  | some q => f q.1 q.2
  | none => False
def tf_hJ (fs : List (Option (Option Nat))) (j : Nat) (a : Prop) (b : Nat → Prop) : Prop := match fs[j]? with
  | some none => a
  | some (some (some k)) => b k
  | _ => False
def tf_hP (ci j : Nat) (a b : Prop) : Prop := match tf_fpt ci j with
  | some .int => a
  | some .boolean => b
  | _ => False
def tf_nil (st : List tf_Av) (P : Prop) : Prop := match st with
  | [] => P
  | _ => False
def tf_rI (y : Nat) (a b : Prop) : Prop := match tf_rt y with
  | some .int => a
  | some .boolean => b
  | _ => False
def tf_rL (y : Nat) (a : Prop) : Prop := match tf_rt y with
  | some .long => a
  | _ => False
def tf_rV (y : Nat) (a : Prop) : Prop := match tf_rt y with
  | none => a
  | _ => False
theorem tf_hA_ok {k : Nat} {f : Nat → Nat → Prop} (h : tf_hA k f) : ∃ t N, tf_lay k = some (.inr (t, N)) ∧ f t N := by
  unfold tf_hA at h
  split at h
  · rename_i q hq
    exact ⟨q.1, q.2, hq, h⟩
  · exact h.elim
theorem tf_hO_ok {k : Nat} {f : Nat → List (Option (Option Nat)) → Prop} (h : tf_hO k f) : ∃ t N, tf_lay k = some (.inl (t, N)) ∧ f t N := by
  unfold tf_hO at h
  split at h
  · rename_i q hq
    exact ⟨q.1, q.2, hq, h⟩
  · exact h.elim
theorem tf_hS_ok {sc : Option (Nat × (Int → Int))} {f : Nat → (Int → Int) → Prop} (h : tf_hS sc f) : ∃ L xs, sc = some (L, xs) ∧ f L xs := by
  unfold tf_hS at h
  split at h
  · rename_i q
    exact ⟨q.1, q.2, rfl, h⟩
  · exact h.elim
theorem tf_hF_ok {oc ix : Nat} {f : Nat → Nat → Prop} (h : tf_hF oc ix f) : ∃ ci j, tf_fld oc ix = some (ci, j) ∧ f ci j := by
  unfold tf_hF at h
  split at h
  · rename_i q hq
    exact ⟨q.1, q.2, hq, h⟩
  · exact h.elim
theorem tf_hJ_ok {fs : List (Option (Option Nat))} {j : Nat} {a : Prop} {b : Nat → Prop} (h : tf_hJ fs j a b) : (fs[j]? = some none ∧ a) ∨ ∃ k, fs[j]? = some (some (some k)) ∧ b k := by
  unfold tf_hJ at h
  split at h
  · rename_i hq
    exact Or.inl ⟨hq, h⟩
  · rename_i k hq
    exact Or.inr ⟨k, hq, h⟩
  · exact h.elim
theorem tf_hP_ok {ci j : Nat} {a b : Prop} (h : tf_hP ci j a b) : (tf_fpt ci j = some .int ∧ a) ∨ (tf_fpt ci j = some .boolean ∧ b) := by
  unfold tf_hP at h
  split at h
  · rename_i hq
    exact Or.inl ⟨hq, h⟩
  · rename_i hq
    exact Or.inr ⟨hq, h⟩
  · exact h.elim
theorem tf_nil_ok {st : List tf_Av} {P : Prop} (h : tf_nil st P) : st = [] ∧ P := by
  unfold tf_nil at h
  split at h
  · exact ⟨rfl, h⟩
  · exact h.elim
theorem tf_rI_ok {y : Nat} {a b : Prop} (h : tf_rI y a b) : (tf_rt y = some .int ∧ a) ∨ (tf_rt y = some .boolean ∧ b) := by
  unfold tf_rI at h
  split at h
  · rename_i hq
    exact Or.inl ⟨hq, h⟩
  · rename_i hq
    exact Or.inr ⟨hq, h⟩
  · exact h.elim
theorem tf_rL_ok {y : Nat} {a : Prop} (h : tf_rL y a) : tf_rt y = some .long ∧ a := by
  unfold tf_rL at h
  split at h
  · rename_i hq
    exact ⟨hq, h⟩
  · exact h.elim
theorem tf_rV_ok {y : Nat} {a : Prop} (h : tf_rV y a) : tf_rt y = none ∧ a := by
  unfold tf_rV at h
  split at h
  · rename_i hq
    exact ⟨hq, h⟩
  · exact h.elim
def tf_b8 (z : Int) : Bool := decide (-128 ≤ z) && decide (z ≤ 127)
def tf_b16 (z : Int) : Bool := decide (-32768 ≤ z) && decide (z ≤ 32767)
def tf_tgt (pc : Nat) (off : Int) : Nat := ((pc : Int) + off).toNat
def tf_back (pc : Nat) (off : Int) : Bool := decide (0 ≤ (pc : Int) + off)
/-- one instruction -/
def tf_step (l : Launch) (y : Nat) (sc : Option (Nat × (Int → Int))) (Post : tf_Out → tf_Sto → Prop) (i : Instr) (pc : Nat) (lo : tf_Lo) (st : List tf_Av) (cs : tf_Cs) (G : tf_Sto)
    (go : Nat → tf_Lo → List tf_Av → tf_Cs → tf_Sto → Prop) : Prop := match i with
  | .iconst z => bif tf_b8 z then go (pc + 1) lo (.inl z :: st) cs G else False
  | .bipush z => bif tf_b8 z then go (pc + 2) lo (.inl z :: st) cs G else False
  | .sipush z => bif tf_b16 z then go (pc + 3) lo (.inl z :: st) cs G else False
  | .lconst z => go (pc + 1) lo (.inr (.inl (z : Nat)) :: st) cs G
  | .ldc ix => match tf_cst (tf_oc y) ix with
    | some z => bif decide (tf_inI z) then go (pc + 2) lo (.inl z :: st) cs G else False
    | none => False
  | .ldc2_w ix => match tf_csl (tf_oc y) ix with
    | some z => bif decide (tf_inL z) then go (pc + 3) lo (.inr (.inl z) :: st) cs G else False
    | none => False
  | .iload_n k => tf_gI lo k fun x => go (pc + 1) lo (.inl x :: st) cs G
  | .iload k => tf_gI lo k fun x => go (pc + 2) lo (.inl x :: st) cs G
  | .lload_n k => tf_gL lo k fun x => go (pc + 1) lo (.inr (.inl x) :: st) cs G
  | .lload k => tf_gL lo k fun x => go (pc + 2) lo (.inr (.inl x) :: st) cs G
  | .aload_n k => tf_gR lo k fun x => go (pc + 1) lo (.inr (.inr x) :: st) cs G
  | .aload k => tf_gR lo k fun x => go (pc + 2) lo (.inr (.inr x) :: st) cs G
  | .istore_n k => tf_pI st fun x r => bif Nat.blt k (tf_nl y) then go (pc + 1) (tf_set1 lo k (.inl x)) r cs G else False
  | .istore k => tf_pI st fun x r => bif Nat.blt k (tf_nl y) then go (pc + 2) (tf_set1 lo k (.inl x)) r cs G else False
  | .lstore_n k => tf_pL st fun x r => bif Nat.blt (k + 1) (tf_nl y) then go (pc + 1) (tf_set2 lo k (.inr (.inl x))) r cs G else False
  | .lstore k => tf_pL st fun x r => bif Nat.blt (k + 1) (tf_nl y) then go (pc + 2) (tf_set2 lo k (.inr (.inl x))) r cs G else False
  | .astore_n k => tf_pR st fun x r => bif Nat.blt k (tf_nl y) then go (pc + 1) (tf_set1 lo k (.inr (.inr x))) r cs G else False
  | .astore k => tf_pR st fun x r => bif Nat.blt k (tf_nl y) then go (pc + 2) (tf_set1 lo k (.inr (.inr x))) r cs G else False
  | .iinc k z => tf_gI lo k fun x => bif Nat.blt k (tf_nl y) then (tf_inI (x + z) ∧ go (pc + 3) (tf_set1 lo k (.inl (x + z))) st cs G) else False
  | .iadd => tf_pI st fun z r => tf_pI r fun x r => tf_inI (x + z) ∧ go (pc + 1) lo (.inl (x + z) :: r) cs G
  | .isub => tf_pI st fun z r => tf_pI r fun x r => tf_inI (x - z) ∧ go (pc + 1) lo (.inl (x - z) :: r) cs G
  | .imul => tf_pI st fun z r => tf_pI r fun x r => tf_inI (x * z) ∧ go (pc + 1) lo (.inl (x * z) :: r) cs G
  | .idiv => tf_pI st fun z r => tf_pI r fun x r => (0 ≤ x ∧ 0 < z) ∧ go (pc + 1) lo (.inl (x / z) :: r) cs G
  | .irem => tf_pI st fun z r => tf_pI r fun x r => (0 ≤ x ∧ 0 < z) ∧ go (pc + 1) lo (.inl (x % z) :: r) cs G
  | .ineg => tf_pI st fun x r => tf_inI (-x) ∧ go (pc + 1) lo (.inl (-x) :: r) cs G
  | .iand => tf_pI st fun z r => tf_pI r fun x r => go (pc + 1) lo (.inl (tf_and x z) :: r) cs G
  | .ior => tf_pI st fun z r => tf_pI r fun x r => go (pc + 1) lo (.inl (tf_or x z) :: r) cs G
  | .ixor => tf_pI st fun z r => tf_pI r fun x r => go (pc + 1) lo (.inl (tf_xor x z) :: r) cs G
  | .ishl => tf_pI st fun z r => tf_pI r fun x r => go (pc + 1) lo (.inl (tf_shl x z) :: r) cs G
  | .ishr => tf_pI st fun z r => tf_pI r fun x r => go (pc + 1) lo (.inl (tf_shr x z) :: r) cs G
  | .iushr => tf_pI st fun z r => tf_pI r fun x r => go (pc + 1) lo (.inl (tf_ushr x z) :: r) cs G
  | .i2l => tf_pI st fun x r => go (pc + 1) lo (.inr (.inl x) :: r) cs G
  | .i2b => tf_pI st fun x r => (-128 ≤ x ∧ x ≤ 127) ∧ go (pc + 1) lo (.inl x :: r) cs G
  | .ladd => tf_pL st fun z r => tf_pL r fun x r => tf_inL (x + z) ∧ go (pc + 1) lo (.inr (.inl (x + z)) :: r) cs G
  | .land => tf_pL st fun z r => tf_pL r fun x r => go (pc + 1) lo (.inr (.inl (tf_land x z)) :: r) cs G
  | .lor => tf_pL st fun z r => tf_pL r fun x r => go (pc + 1) lo (.inr (.inl (tf_lor x z)) :: r) cs G
  | .lshl => tf_pI st fun z r => tf_pL r fun x r => go (pc + 1) lo (.inr (.inl (tf_lshl x z)) :: r) cs G
  | .lsub => tf_pL st fun z r => tf_pL r fun x r => go (pc + 1) lo (.inr (.inl (tf_lsub x z)) :: r) cs G
  | .lneg => tf_pL st fun x r => go (pc + 1) lo (.inr (.inl (tf_lneg x)) :: r) cs G
  | .lushr => tf_pI st fun z r => tf_pL r fun x r => go (pc + 1) lo (.inr (.inl (tf_lushr x z)) :: r) cs G
  | .l2i => tf_pL st fun x r => go (pc + 1) lo (.inl (tf_l2i x) :: r) cs G
  | .lcmp => tf_pL st fun z r => tf_pL r fun x r => go (pc + 1) lo (.inl (tf_lcmp x z) :: r) cs G
  | .dup => tf_p1 st fun v r => go (pc + 1) lo (v :: v :: r) cs G
  | .pop => tf_p1 st fun _ r => go (pc + 1) lo r cs G
  | .dup2 => tf_p1 st fun v r => tf_p1 r fun w r => go (pc + 1) lo (v :: w :: v :: w :: r) cs G
  | .ifCond cd off => tf_pI st fun x r => bif tf_back pc off then tf_cnd cd x 0 (go (tf_tgt pc off) lo r cs G) (go (pc + 3) lo r cs G) else False
  | .if_icmp cd off => tf_pI st fun z r => tf_pI r fun x r => bif tf_back pc off then tf_cnd cd x z (go (tf_tgt pc off) lo r cs G) (go (pc + 3) lo r cs G) else False
  | .goto off => bif tf_back pc off then go (tf_tgt pc off) lo st cs G else False
  | .tableswitch d lw hi offs => tf_pI st fun x r => bif tf_back pc d && offs.toList.all (tf_back pc) && decide (hi = lw + offs.size - 1) then
      ((x < lw ∨ hi < x → go (tf_tgt pc d) lo r cs G) ∧ tf_tsw pc x lw offs.toList (fun t => go t lo r cs G)) else False
  | .arraylength => tf_pR st fun k r => bif Nat.beq k 9999 then tf_hS sc (fun L _ => go (pc + 1) lo (.inl (L : Int) :: r) cs G)
    else tf_hA k fun _ N => bif Nat.blt N 2147483648 then go (pc + 1) lo (.inl (N : Int) :: r) cs G else False
  | .iaload => tf_pI st fun i r => tf_pR r fun k r => bif Nat.beq k 9999 then tf_hS sc (fun L xs => (0 ≤ i ∧ i < (L : Int)) ∧ go (pc + 1) lo (.inl (xs i) :: r) cs G)
    else tf_hA k fun t N => bif Nat.beq t 0 then (0 ≤ i ∧ i < (N : Int)) ∧ go (pc + 1) lo (.inl (G k i) :: r) cs G else False
  | .baload => tf_pI st fun i r => tf_pR r fun k r => tf_hA k fun t N => bif Nat.beq t 1 || Nat.beq t 2 then (0 ≤ i ∧ i < (N : Int)) ∧ go (pc + 1) lo (.inl (G k i) :: r) cs G else False
  | .laload => tf_pI st fun i r => tf_pR r fun k r => tf_hA k fun t N => bif Nat.beq t 3 then (0 ≤ i ∧ i < (N : Int)) ∧ go (pc + 1) lo (.inr (.inl (G k i)) :: r) cs G else False
  | .iastore => tf_pI st fun x r => tf_pI r fun i r => tf_pR r fun k r => tf_hA k fun t N => bif Nat.beq t 0 then (0 ≤ i ∧ i < (N : Int)) ∧ go (pc + 1) lo r (cs.1, false) (tf_up G k i x) else False
  | .bastore => tf_pI st fun x r => tf_pI r fun i r => tf_pR r fun k r => tf_hA k fun t N => bif Nat.beq t 1 then (0 ≤ i ∧ i < (N : Int)) ∧ (-128 ≤ x ∧ x ≤ 127) ∧ go (pc + 1) lo r (cs.1, false) (tf_up G k i x)
      else (bif Nat.beq t 2 then (0 ≤ i ∧ i < (N : Int)) ∧ (x = 0 ∨ x = 1) ∧ go (pc + 1) lo r (cs.1, false) (tf_up G k i x) else False)
  | .lastore => tf_pL st fun x r => tf_pI r fun i r => tf_pR r fun k r => tf_hA k fun t N => bif Nat.beq t 3 then (0 ≤ i ∧ i < (N : Int)) ∧ go (pc + 1) lo r (cs.1, false) (tf_up G k i x) else False
  | .getfield ix => tf_pR st fun k r => tf_hF (tf_oc y) ix fun ci j => tf_hO k fun ci' fs => bif Nat.beq ci ci' then
      tf_hJ fs j (go (pc + 3) lo (.inl (G k (j : Int)) :: r) cs G) (fun k' => go (pc + 3) lo (.inr (.inr k') :: r) cs G) else False
  | .putfield ix => tf_pI st fun x r => tf_pR r fun k r => tf_hF (tf_oc y) ix fun ci j => tf_hO k fun ci' fs => bif Nat.beq ci ci' then
      tf_hJ fs j (tf_hP ci j (go (pc + 3) lo r (cs.1, false) (tf_up G k (j : Int) x)) ((x = 0 ∨ x = 1) ∧ go (pc + 3) lo r (cs.1, false) (tf_up G k (j : Int) x))) (fun _ => False) else False
  | .invokevirtual ix => match tf_inv (tf_oc y) ix with
      | some y' => bif tf_vi y' then tf_call1 l y y' true pc lo st cs G (fun x cs G => tf_thr y Post pc lo go x cs G) go else False
      | none => False
  | .invokestatic ix => match tf_inv (tf_oc y) ix with
      | some 900 => tf_pI st fun z r => tf_pI r fun x r => bif Nat.ble (tf_cats r + 13) (tf_lc y) && Nat.ble 1 (tf_rk y) then go (pc + 3) lo (.inl (if x < z then z else x) :: r) cs G else False
      | some 901 => tf_pL st fun z r => tf_pL r fun x r => bif Nat.ble (tf_cats r + 15) (tf_lc y) && Nat.ble 1 (tf_rk y) then go (pc + 3) lo (.inr (.inl (if z < x then z else x)) :: r) cs G else False
      | some 902 => tf_pI st fun n r => tf_pI r fun dp r => tf_pR r fun k1 r => tf_pI r fun sp r => tf_pR r fun k0 r => match tf_lay k0, tf_lay k1 with
          | some (.inr (1, N0)), some (.inr (1, N1)) => bif Nat.ble (tf_cats r + 40) (tf_lc y) && Nat.ble 1 (tf_rk y) then
              ((0 ≤ sp ∧ 0 ≤ dp ∧ 0 ≤ n ∧ sp + n ≤ (N0 : Int) ∧ dp + n ≤ (N1 : Int)) ∧ go (pc + 3) lo r (cs.1, false) (tf_cpy G k0 k1 sp dp n)) else False
          | _, _ => False
      | some y' => bif tf_vi y' then False else tf_call1 l y y' false pc lo st cs G (fun x cs G => tf_thr y Post pc lo go x cs G) go
      | none => False
  | .new _ => match tf_thx y pc with
      | some q => bif (tf_hs y).isEmpty && Nat.ble 6 (tf_rk y) && Nat.ble (tf_cats st + 82) (tf_lc y) && cs.2 && tf_cz0 y then (((tf_cs cs).1 + 1 ≤ tf_mc y ∧ (tf_cs cs).2 + 6 ≤ tf_ms y) ∧ Post (.inr q.2.2.2) G) else False
      | none => False
  | .ireturn => tf_pI st fun x r => bif tf_pu y then False else tf_nil r (tf_rI y (Post (.inl (some (.inl x))) G) ((x = 0 ∨ x = 1) ∧ Post (.inl (some (.inl x))) G))
  | .lreturn => tf_pL st fun x r => bif tf_pu y then False else tf_nil r (tf_rL y (Post (.inl (some (.inr (.inl x)))) G))
  | .return_ => bif tf_pu y && !cs.2 then False else tf_nil st (tf_rV y (Post (.inl none) G))
  | _ => False
/-- a stretch: up to f instructions, ended at the cuts (a pc, and the locals that live there) -/
def tf_cut (cuts : List (Nat × List Nat)) (pc : Nat) : Option (List Nat) := match cuts with
  | [] => none
  | q :: r => bif Nat.beq q.1 pc then some q.2 else tf_cut r pc
def tf_vc (l : Launch) (y : Nat) (sc : Option (Nat × (Int → Int))) (Post : tf_Out → tf_Sto → Prop) (cuts : List (Nat × List Nat)) (f pc : Nat) (lo : tf_Lo) (st : List tf_Av) (cs : tf_Cs) (G : tf_Sto) : Prop := match f with
  | 0 => False
  | f + 1 => match tf_tab y pc with
    | none => False
    | some i => tf_step l y sc Post i pc lo st cs G (fun pc lo st cs G => match tf_cut cuts pc with
        | some is => tf_AW l y sc Post pc (tf_pick lo is) st cs G
        | none => tf_vc l y sc Post cuts f pc lo st cs G)
