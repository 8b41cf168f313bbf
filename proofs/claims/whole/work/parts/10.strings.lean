section STR
variable {p : Program} {l : Launch} {e : Env} {R : Room} {s : State} {m : MethodId} {args : Array Value} {below : List Frame} {meth : Method} {c : Code} {ZZ : State → Prop} {ce sl : Nat} {S : sG} {y d : Nat} {lw : Prop}
theorem str_ok (X : Cx S y d lw p R s m args c ce sl) : StrOk S y p l e R s m args below meth c ce sl ZZ := sorry
end STR
