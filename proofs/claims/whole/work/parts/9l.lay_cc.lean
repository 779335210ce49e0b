section
variable {l : Launch} {p : Program} {e : Env} {R : Room} {s : State} {m : MethodId} {args : Array Value} {below : List Frame} {meth : Method} {c : Code} {Q : State → Prop} {D : va_G} {cA : Nat → ClassId} {A : Nat → Prop} {ad0 : Nat → Nat} {n0 : Nat} {nL : Nat} {pc : Nat} {lo : tf_Lo} {st : List tf_Av} {LAY : List tf_Ent} {cells slots : Nat}
theorem c_norm (pc2 : Nat) (lo2 : tf_Lo) (st2 : List tf_Av) (LAY2 : List tf_Ent) (cells2 slots2 : Nat) (h1 : pc = pc2) (h0 : lo = lo2) (h2 : st = st2) (h3 : LAY = LAY2) (h4 : cells = cells2) (h5 : slots = slots2) (h : c_AW p l e R s m args below meth c Q D cA A ad0 n0 nL pc2 lo2 st2 LAY2 cells2 slots2) : c_AW p l e R s m args below meth c Q D cA A ad0 n0 nL pc lo st LAY cells slots := by
  subst h1
  subst h0
  subst h2
  subst h3
  subst h4
  subst h5
  exact h
end
