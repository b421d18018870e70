/-! a float out of the pool, the wide form -/
section q_ldcwf_s
variable {p : Program} {l : Launch} {e : Env} {R : Room} {s : State} {m : MethodId} {args : Array Value} {below : List Frame} {meth : Method} {c : Code} {H : Heap} {locs : List Loc} {cells slots : Nat} {QZ : State → Prop} {cc : ByteArray} {LS : Array Slot} {rest : List Value} {pc : Nat}
theorem q_ldcwfS {T : State} (X : Stand p l e R s m args below meth c T locs cells slots) (hexec : p.tables.exec = Jvm.exec) {own : String} {index : Nat} {v : UInt32} (hown : s.vm.findClass own = some m.cls)
    (hconst : (Cond.constantFloat own index v).before args s = true) {g : JFrame} (hg : g.method = m) (hdg : decode c.code g.pc = .ok (.ldc_w index, 3)) :
    ∀ target, Steps p.tables e below (T.setTop { g with pc := g.pc + 3, stack := .float v :: g.stack }) target → Steps p.tables e below (T.setTop g) target := by
  obtain ⟨k, cf, hk, hcf, hcp⟩ := Cond.constantFloat_spec hown hconst
  obtain ⟨k', hk', he⟩ := X.warmed.alike.2.2 _ _ hk
  intro target hrest
  subst hg
  jvm_step X.here [hexec, hdg, ldc_w.wp_float (s := T) (f := g) X.here.top hk' (by rw [he]; exact hcf) hcp]
  exact hrest
theorem q_ldcwfW (hexec : p.tables.exec = Jvm.exec) (hb : c.code = cc) {own : String} {index : Nat} {v : UInt32} (hown : s.vm.findClass own = some m.cls) (hconst : (Jvm.Cond.constantFloat own index v).before args s = true) (hdg : decode cc pc = .ok (.ldc_w index, 3)) (kk : W p l e R s m args below meth c H locs cells slots QZ (F0 m (pc + 3) LS (.float v :: rest))) : W p l e R s m args below meth c H locs cells slots QZ (F0 m pc LS rest) := by
  intro T hT X
  obtain ⟨t, a, b⟩ := kk T hT X
  exact ⟨t, q_ldcwfS X hexec hown hconst (g := F0 m pc LS rest) rfl (by rw [hb]; exact hdg) t a, b⟩
end q_ldcwf_s
theorem q_ldcwf {k : q_MI} {pc : Nat} {ls : List (Option Value)} {st : List Value} {I : q_Mem} {Q : Option Value → q_Mem → Prop} {index : Nat} {v : UInt32} (hc : q_wd (Jvm.Cond.constantFloat k.1.cls index v)) (hd : decode k.2.1 pc = .ok (.ldc_w index, 3)) (kk : q_X k (pc + 3) ls (.float v :: st) I Q) : q_X k pc ls st I Q := by
  intro ω p l e R s m args below meth c cells slots QZ hC hR H locs LS hL hP hS
  exact q_ldcwfW hC.1 hC.2.1 hC.2.2.2.1 (hC.2.2.2.2.1 _ (q_in hc.1 hc.2)) hd (kk ω p l e R s m args below meth c cells slots QZ hC hR H locs LS hL hP hS)
