section
variable {l : Launch} {p : Program} {e : Env} {R : Room} {s : State} {m : MethodId} {args : Array Value} {below : List Frame} {meth : Method} {c : Code} {Q : State → Prop} {D : va_G} {cA : Nat → ClassId} {A : Nat → Prop} {ad0 : Nat → Nat} {n0 : Nat} {cc : ByteArray} {oc nL : Nat} {pc : Nat} {lo : tf_Lo} {st : List tf_Av} {LAY : List tf_Ent} {cells slots : Nat}
theorem c_ldcW (X : c_X p s m args c D cA A cc oc nL) {z : Int} {ix : Nat} (hd : decode cc pc = .ok (.ldc ix, 2)) (hz : Cond.constant (tf_cn oc) ix (Int32.ofInt z) ∈ tf_gt) (h : c_AW p l e R s m args below meth c Q D cA A ad0 n0 nL (pc + 2) lo (tf_i z :: st) LAY cells slots) : c_AW p l e R s m args below meth c Q D cA A ad0 n0 nL pc lo st LAY cells slots :=
  fun H locs ls ad h0 hP hD hS hl => lv_ldc X.1 X.2.1 X.2.2.2.1 (X.2.2.2.2.1 _ hz) hd (h H locs ls ad h0 hP hD hS hl)
end
