/-! Calls of methods that make nothing, between rooms by depth. -/
def zR (d : Nat) : Room := { frames := d, cells := 0, slots := 0, locals := 40 * d }
section ZC
variable {l : Launch} {G : hz_G} {p : Program} {e : Env} {s : State} {m : MethodId} {args : Array Value} {below : List Frame} {meth : Method} {c : Code} {Q : State → Prop} {n pc d d2 : Nat} {L : List (Option Value)} {st : List Value} {h : hz_H}
variable {y y2 : MethodName} {cc cc2 : ByteArray} {nL nL2 : Nat} {ret ret2 : Option FieldType}
theorem zroom {d d2 nL2 : Nat} (hd : d2 + 1 ≤ d) (hn : nL2 ≤ 21) : (zR d2).frames + 1 ≤ (zR d).frames ∧ 8 + (nL2 + 11) + (zR d2).locals ≤ (zR d).locals := by
  show d2 + 1 ≤ d ∧ 8 + (nL2 + 11) + 40 * d2 ≤ 40 * d
  omega
theorem zcV {own : String} {idx k i ci : Nat} {fs : List Value} {r : vw_C} {as2 rest : List Value} {post : Option Value → hz_H → Nat → Prop} (B : hz_B lw_tbl zAO zCl zKT G y cc nL ret p s m args meth c) (hown : y.cls = own) (cb : hz_cB lw_tbl own idx y2 cc2 nL2 ret2 k) (hin : Cond.instanceMethod y2 ∈ hz_T lw_tbl) (hse : Cond.selects r.1 y2 y2 ∈ hz_T lw_tbl)
    (hM : hz_M lw_tbl zAO zCl zKT l y2 cc2 nL2 ret2 (zR d2) G (.ref i :: as2) h n post) (hd : d2 + 1 ≤ d) (hn : nL2 ≤ 21) (hi : h i = some (.inr (ci, fs))) (hc : zCl[ci]? = some r) (hk : as2.length = k) (hW : (rest.map fun v => v.category).sum ≤ 8) (hst : st = as2.reverse ++ .ref i :: rest) (hdg : decode cc pc = .ok (.invokevirtual idx, 3))
    (kk : ∀ (r : Option Value) (h' : hz_H) (n' : Nat), post r h' n' → hz_g zCl G p l e (zR d) s m args below meth c nL Q n' 0 0 (pc + 3) L (r.toList ++ rest) h') : hz_g zCl G p l e (zR d) s m args below meth c nL Q n 0 0 pc L st h :=
  hz_callV B hown cb hin hse hM (zroom hd hn) ⟨Nat.le_refl _, Nat.le_refl _⟩ hi hc hk hW hst hdg kk
theorem zcVN {own : String} {idx k i ci : Nat} {fs : List Value} {r : vw_C} {as2 rest : List Value} {post : Option Value → hz_H → Nat → Prop} (B : hz_B lw_tbl zAO zCl zKT G y cc nL ret p s m args meth c) (hown : y.cls = own) (cb : hz_cN lw_tbl own idx y2 cc2 nL2 ret2 k) (hin : Cond.instanceMethod y2 ∈ hz_T lw_tbl) (hse : Cond.selects r.1 y2 y2 ∈ hz_T lw_tbl)
    (hM : hz_M lw_tbl zAO zCl zKT l y2 cc2 nL2 ret2 (zR d2) G (.ref i :: as2) h n post) (hd : d2 + 1 ≤ d) (hn : nL2 ≤ 21) (hi : h i = some (.inr (ci, fs))) (hc : zCl[ci]? = some r) (hk : as2.length = k) (hW : (rest.map fun v => v.category).sum ≤ 8) (hst : st = as2.reverse ++ .ref i :: rest) (hdg : decode cc pc = .ok (.invokevirtual idx, 3))
    (kk : ∀ (r : Option Value) (h' : hz_H) (n' : Nat), post r h' n' → hz_g zCl G p l e (zR d) s m args below meth c nL Q n' 0 0 (pc + 3) L (r.toList ++ rest) h') : hz_g zCl G p l e (zR d) s m args below meth c nL Q n 0 0 pc L st h :=
  hz_callVN B hown cb hin hse hM (zroom hd hn) ⟨Nat.le_refl _, Nat.le_refl _⟩ hi hc hk hW hst hdg kk
theorem zcS {own : String} {idx k : Nat} {as2 rest : List Value} {post : Option Value → hz_H → Nat → Prop} (B : hz_B lw_tbl zAO zCl zKT G y cc nL ret p s m args meth c) (hown : y.cls = own) (cb : hz_cB lw_tbl own idx y2 cc2 nL2 ret2 k) (hin : Cond.static y2 ∈ hz_T lw_tbl)
    (hM : hz_M lw_tbl zAO zCl zKT l y2 cc2 nL2 ret2 (zR d2) G as2 h n post) (hd : d2 + 1 ≤ d) (hn : nL2 ≤ 21) (hk : as2.length = k) (hW : (rest.map fun v => v.category).sum ≤ 8) (hst : st = as2.reverse ++ rest) (hdg : decode cc pc = .ok (.invokestatic idx, 3))
    (kk : ∀ (r : Option Value) (h' : hz_H) (n' : Nat), post r h' n' → hz_g zCl G p l e (zR d) s m args below meth c nL Q n' 0 0 (pc + 3) L (r.toList ++ rest) h') : hz_g zCl G p l e (zR d) s m args below meth c nL Q n 0 0 pc L st h :=
  hz_callS B hown cb hin hM (zroom hd hn) ⟨Nat.le_refl _, Nat.le_refl _⟩ hk hW hst hdg kk
theorem zcSN {own : String} {idx k : Nat} {as2 rest : List Value} {post : Option Value → hz_H → Nat → Prop} (B : hz_B lw_tbl zAO zCl zKT G y cc nL ret p s m args meth c) (hown : y.cls = own) (cb : hz_cN lw_tbl own idx y2 cc2 nL2 ret2 k) (hin : Cond.static y2 ∈ hz_T lw_tbl)
    (hM : hz_M lw_tbl zAO zCl zKT l y2 cc2 nL2 ret2 (zR d2) G as2 h n post) (hd : d2 + 1 ≤ d) (hn : nL2 ≤ 21) (hk : as2.length = k) (hW : (rest.map fun v => v.category).sum ≤ 8) (hst : st = as2.reverse ++ rest) (hdg : decode cc pc = .ok (.invokestatic idx, 3))
    (kk : ∀ (r : Option Value) (h' : hz_H) (n' : Nat), post r h' n' → hz_g zCl G p l e (zR d) s m args below meth c nL Q n' 0 0 (pc + 3) L (r.toList ++ rest) h') : hz_g zCl G p l e (zR d) s m args below meth c nL Q n 0 0 pc L st h :=
  hz_callSN B hown cb hin hM (zroom hd hn) ⟨Nat.le_refl _, Nat.le_refl _⟩ hk hW hst hdg kk
/-- an answer as the contracts have it -/
theorem zki {rest : List Value} {v : Int32} {H1 : hz_H} (g : hz_g zCl G p l e (zR d) s m args below meth c nL Q n 0 0 (pc + 3) L (.int v :: rest) H1) : ∀ (r : Option Value) (h' : hz_H) (n' : Nat), (r = some (.int v) ∧ h' = H1 ∧ n' = n) → hz_g zCl G p l e (zR d) s m args below meth c nL Q n' 0 0 (pc + 3) L (r.toList ++ rest) h' := by
  rintro r h' n' ⟨rfl, rfl, rfl⟩
  exact g
theorem zkv {rest : List Value} {H1 : hz_H} (g : hz_g zCl G p l e (zR d) s m args below meth c nL Q n 0 0 (pc + 3) L rest H1) : ∀ (r : Option Value) (h' : hz_H) (n' : Nat), (r = none ∧ h' = H1 ∧ n' = n) → hz_g zCl G p l e (zR d) s m args below meth c nL Q n' 0 0 (pc + 3) L (r.toList ++ rest) h' := by
  rintro r h' n' ⟨rfl, rfl, rfl⟩
  exact g
end ZC
/-- the place, by its number -/
theorem zat {G : hz_G} {p : Program} {l : Launch} {e : Env} {R : Room} {s : State} {m : MethodId} {args : Array Value} {below : List Frame} {meth : Method} {c : Code} {nL : Nat} {Q : State → Prop} {n cells slots pc : Nat} {L : List (Option Value)} {st : List Value} {h : hz_H} (pc0 : Nat) (hp : Nat.beq pc pc0 = true) (k : hz_g zCl G p l e R s m args below meth c nL Q n cells slots pc0 L st h) : hz_g zCl G p l e R s m args below meth c nL Q n cells slots pc L st h := by
  have e0 := Nat.eq_of_beq_eq_true hp
  subst e0
  exact k
