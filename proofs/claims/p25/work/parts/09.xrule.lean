/-! THE X LAYER's rules, an instruction each -/
section q_rules
variable {k : q_MI} {pc : Nat} {ls : List (Option Value)} {st : List Value} {I : q_Mem} {Q : Option Value → q_Mem → Prop}
theorem q_iconst {n : Int} {v : Int32} (hd : decode k.2.1 pc = .ok (.iconst n, 1)) (hv : Int32.ofInt n = v) (kk : q_X k (pc + 1) ls (.int v :: st) I Q) : q_X k pc ls st I Q := by
  intro ω p l e R s m args below meth c cells slots QZ hC hR H locs LS hL hP hS
  exact lv_iconst hC.1 hC.2.1 hd hv (kk ω p l e R s m args below meth c cells slots QZ hC hR H locs LS hL hP hS)
theorem q_bipush {n : Int} {v : Int32} (hd : decode k.2.1 pc = .ok (.bipush n, 2)) (hv : (Int8.ofInt n).toInt32 = v) (kk : q_X k (pc + 2) ls (.int v :: st) I Q) : q_X k pc ls st I Q := by
  intro ω p l e R s m args below meth c cells slots QZ hC hR H locs LS hL hP hS
  exact lv_bipush hC.1 hC.2.1 hd hv (kk ω p l e R s m args below meth c cells slots QZ hC hR H locs LS hL hP hS)
theorem q_sipush {n : Int} {v : Int32} (hd : decode k.2.1 pc = .ok (.sipush n, 3)) (hv : (Int16.ofInt n).toInt32 = v) (kk : q_X k (pc + 3) ls (.int v :: st) I Q) : q_X k pc ls st I Q := by
  intro ω p l e R s m args below meth c cells slots QZ hC hR H locs LS hL hP hS
  exact lv_sipush hC.1 hC.2.1 hd hv (kk ω p l e R s m args below meth c cells slots QZ hC hR H locs LS hL hP hS)
theorem q_ldc {index : Nat} {v : Int32} (hc : q_wd (Jvm.Cond.constant k.1.cls index v)) (hd : decode k.2.1 pc = .ok (.ldc index, 2)) (kk : q_X k (pc + 2) ls (.int v :: st) I Q) : q_X k pc ls st I Q := by
  intro ω p l e R s m args below meth c cells slots QZ hC hR H locs LS hL hP hS
  exact lv_ldc hC.1 hC.2.1 hC.2.2.2.1 (hC.2.2.2.2.1 _ (q_in hc.1 hc.2)) hd (kk ω p l e R s m args below meth c cells slots QZ hC hR H locs LS hL hP hS)
theorem q_ldcw {index : Nat} {v : Int32} (hc : q_wd (Jvm.Cond.constant k.1.cls index v)) (hd : decode k.2.1 pc = .ok (.ldc_w index, 3)) (kk : q_X k (pc + 3) ls (.int v :: st) I Q) : q_X k pc ls st I Q := by
  intro ω p l e R s m args below meth c cells slots QZ hC hR H locs LS hL hP hS
  exact lv_ldcw hC.1 hC.2.1 hC.2.2.2.1 (hC.2.2.2.2.1 _ (q_in hc.1 hc.2)) hd (kk ω p l e R s m args below meth c cells slots QZ hC hR H locs LS hL hP hS)
theorem q_ldcf {index : Nat} {v : UInt32} (hc : q_wd (Jvm.Cond.constantFloat k.1.cls index v)) (hd : decode k.2.1 pc = .ok (.ldc index, 2)) (kk : q_X k (pc + 2) ls (.float v :: st) I Q) : q_X k pc ls st I Q := by
  intro ω p l e R s m args below meth c cells slots QZ hC hR H locs LS hL hP hS
  exact lv_ldcf hC.1 hC.2.1 hC.2.2.2.1 (hC.2.2.2.2.1 _ (q_in hc.1 hc.2)) hd (kk ω p l e R s m args below meth c cells slots QZ hC hR H locs LS hL hP hS)
theorem q_iload_n {j : Fin 4} {x : Int32} (hd : decode k.2.1 pc = .ok (.iload_n j, 1)) (hl : ls[(j : Nat)]? = some (some (.int x))) (kk : q_X k (pc + 1) ls (.int x :: st) I Q) : q_X k pc ls st I Q := by
  intro ω p l e R s m args below meth c cells slots QZ hC hR H locs LS hL hP hS
  exact lv_iload_n hC.1 hC.2.1 hd rfl (hL.2.2 _ _ hl).2 (kk ω p l e R s m args below meth c cells slots QZ hC hR H locs LS hL hP hS)
theorem q_iload {i : Nat} {x : Int32} (hd : decode k.2.1 pc = .ok (.iload i, 2)) (hl : ls[i]? = some (some (.int x))) (kk : q_X k (pc + 2) ls (.int x :: st) I Q) : q_X k pc ls st I Q := by
  intro ω p l e R s m args below meth c cells slots QZ hC hR H locs LS hL hP hS
  exact lv_iload hC.1 hC.2.1 hd (hL.2.2 _ _ hl).2 (kk ω p l e R s m args below meth c cells slots QZ hC hR H locs LS hL hP hS)
theorem q_fload_n {j : Fin 4} {x : UInt32} (hd : decode k.2.1 pc = .ok (.fload_n j, 1)) (hl : ls[(j : Nat)]? = some (some (.float x))) (kk : q_X k (pc + 1) ls (.float x :: st) I Q) : q_X k pc ls st I Q := by
  intro ω p l e R s m args below meth c cells slots QZ hC hR H locs LS hL hP hS
  exact lv_fload_n hC.1 hC.2.1 hd rfl (hL.2.2 _ _ hl).2 (kk ω p l e R s m args below meth c cells slots QZ hC hR H locs LS hL hP hS)
theorem q_aload_n {j : Fin 4} {a : Nat} (hd : decode k.2.1 pc = .ok (.aload_n j, 1)) (hl : ls[(j : Nat)]? = some (some (.ref a))) (kk : q_X k (pc + 1) ls (.ref a :: st) I Q) : q_X k pc ls st I Q := by
  intro ω p l e R s m args below meth c cells slots QZ hC hR H locs LS hL hP hS
  exact lv_aload_n hC.1 hC.2.1 hd rfl (hL.2.2 _ _ hl).2 (kk ω p l e R s m args below meth c cells slots QZ hC hR H locs LS hL hP hS)
theorem q_aload_nN {j : Fin 4} (hd : decode k.2.1 pc = .ok (.aload_n j, 1)) (hl : ls[(j : Nat)]? = some (some .null)) (kk : q_X k (pc + 1) ls (.null :: st) I Q) : q_X k pc ls st I Q := by
  intro ω p l e R s m args below meth c cells slots QZ hC hR H locs LS hL hP hS
  exact lv_aload_nN hC.1 hC.2.1 hd rfl (hL.2.2 _ _ hl).2 (kk ω p l e R s m args below meth c cells slots QZ hC hR H locs LS hL hP hS)
theorem q_aload {i : Nat} {a : Nat} (hd : decode k.2.1 pc = .ok (.aload i, 2)) (hl : ls[i]? = some (some (.ref a))) (kk : q_X k (pc + 2) ls (.ref a :: st) I Q) : q_X k pc ls st I Q := by
  intro ω p l e R s m args below meth c cells slots QZ hC hR H locs LS hL hP hS
  exact lv_aload hC.1 hC.2.1 hd (hL.2.2 _ _ hl).2 (kk ω p l e R s m args below meth c cells slots QZ hC hR H locs LS hL hP hS)
theorem q_aloadN {i : Nat} (hd : decode k.2.1 pc = .ok (.aload i, 2)) (hl : ls[i]? = some (some .null)) (kk : q_X k (pc + 2) ls (.null :: st) I Q) : q_X k pc ls st I Q := by
  intro ω p l e R s m args below meth c cells slots QZ hC hR H locs LS hL hP hS
  exact lv_aloadN hC.1 hC.2.1 hd (hL.2.2 _ _ hl).2 (kk ω p l e R s m args below meth c cells slots QZ hC hR H locs LS hL hP hS)
theorem q_Cx.len {ω : q_Om} {n n' : Nat} {p : Program} {R : Room} {s : State} {m : MethodId} {args : Array Value} {c : Code} {cells slots : Nat} (h : n = n') (hC : q_Cx ω k n p R s m args c cells slots) : q_Cx ω k n' p R s m args c cells slots := h ▸ hC
theorem q_istore_n {j : Fin 4} {x : Int32} {ls' : List (Option Value)} (hd : decode k.2.1 pc = .ok (.istore_n j, 1)) (hi : (j : Nat) < ls.length) (hl : ls.set (j : Nat) (some (.int x)) = ls') (kk : q_X k (pc + 1) ls' st I Q) : q_X k pc ls (.int x :: st) I Q := by
  intro ω p l e R s m args below meth c cells slots QZ hC hR H locs LS hL hP hS
  subst hl
  exact lv_istore_n hC.1 hC.2.1 hd rfl hL.has hi rfl (fun LS' h' => kk ω p l e R s m args below meth c cells slots QZ (hC.len (by rw [List.length_set])) hR H locs LS' (hL.store rfl hi h') hP hS)
theorem q_istore {i : Nat} {x : Int32} {ls' : List (Option Value)} (hd : decode k.2.1 pc = .ok (.istore i, 2)) (hi : i < ls.length) (hl : ls.set i (some (.int x)) = ls') (kk : q_X k (pc + 2) ls' st I Q) : q_X k pc ls (.int x :: st) I Q := by
  intro ω p l e R s m args below meth c cells slots QZ hC hR H locs LS hL hP hS
  subst hl
  exact lv_istore hC.1 hC.2.1 hd hL.has hi rfl (fun LS' h' => kk ω p l e R s m args below meth c cells slots QZ (hC.len (by rw [List.length_set])) hR H locs LS' (hL.store rfl hi h') hP hS)
theorem q_fstore_n {j : Fin 4} {x : UInt32} {ls' : List (Option Value)} (hd : decode k.2.1 pc = .ok (.fstore_n j, 1)) (hi : (j : Nat) < ls.length) (hl : ls.set (j : Nat) (some (.float x)) = ls') (kk : q_X k (pc + 1) ls' st I Q) : q_X k pc ls (.float x :: st) I Q := by
  intro ω p l e R s m args below meth c cells slots QZ hC hR H locs LS hL hP hS
  subst hl
  exact lv_fstore_n hC.1 hC.2.1 hd rfl hL.has hi rfl (fun LS' h' => kk ω p l e R s m args below meth c cells slots QZ (hC.len (by rw [List.length_set])) hR H locs LS' (hL.store rfl hi h') hP hS)
theorem q_astore_n {j : Fin 4} {a : Nat} {ls' : List (Option Value)} (hd : decode k.2.1 pc = .ok (.astore_n j, 1)) (hi : (j : Nat) < ls.length) (hl : ls.set (j : Nat) (some (.ref a)) = ls') (kk : q_X k (pc + 1) ls' st I Q) : q_X k pc ls (.ref a :: st) I Q := by
  intro ω p l e R s m args below meth c cells slots QZ hC hR H locs LS hL hP hS
  subst hl
  exact lv_astore_n hC.1 hC.2.1 hd rfl hL.has hi rfl (fun LS' h' => kk ω p l e R s m args below meth c cells slots QZ (hC.len (by rw [List.length_set])) hR H locs LS' (hL.store rfl hi h') hP hS)
theorem q_astore_nN {j : Fin 4} {ls' : List (Option Value)} (hd : decode k.2.1 pc = .ok (.astore_n j, 1)) (hi : (j : Nat) < ls.length) (hl : ls.set (j : Nat) (some .null) = ls') (kk : q_X k (pc + 1) ls' st I Q) : q_X k pc ls (.null :: st) I Q := by
  intro ω p l e R s m args below meth c cells slots QZ hC hR H locs LS hL hP hS
  subst hl
  exact lv_astore_nN hC.1 hC.2.1 hd rfl hL.has hi rfl (fun LS' h' => kk ω p l e R s m args below meth c cells slots QZ (hC.len (by rw [List.length_set])) hR H locs LS' (hL.store rfl hi h') hP hS)
theorem q_astore {i : Nat} {a : Nat} {ls' : List (Option Value)} (hd : decode k.2.1 pc = .ok (.astore i, 2)) (hi : i < ls.length) (hl : ls.set i (some (.ref a)) = ls') (kk : q_X k (pc + 2) ls' st I Q) : q_X k pc ls (.ref a :: st) I Q := by
  intro ω p l e R s m args below meth c cells slots QZ hC hR H locs LS hL hP hS
  subst hl
  exact lv_astore hC.1 hC.2.1 hd hL.has hi rfl (fun LS' h' => kk ω p l e R s m args below meth c cells slots QZ (hC.len (by rw [List.length_set])) hR H locs LS' (hL.store rfl hi h') hP hS)
theorem q_astoreN {i : Nat} {ls' : List (Option Value)} (hd : decode k.2.1 pc = .ok (.astore i, 2)) (hi : i < ls.length) (hl : ls.set i (some .null) = ls') (kk : q_X k (pc + 2) ls' st I Q) : q_X k pc ls (.null :: st) I Q := by
  intro ω p l e R s m args below meth c cells slots QZ hC hR H locs LS hL hP hS
  subst hl
  exact lv_astoreN hC.1 hC.2.1 hd hL.has hi rfl (fun LS' h' => kk ω p l e R s m args below meth c cells slots QZ (hC.len (by rw [List.length_set])) hR H locs LS' (hL.store rfl hi h') hP hS)
theorem q_iinc {i : Nat} {n : Int} {x v : Int32} {ls' : List (Option Value)} (hd : decode k.2.1 pc = .ok (.iinc i n, 3)) (hx : ls[i]? = some (some (.int x))) (hv : x + Int32.ofInt n = v) (hl : ls.set i (some (.int v)) = ls') (kk : q_X k (pc + 3) ls' st I Q) : q_X k pc ls st I Q := by
  intro ω p l e R s m args below meth c cells slots QZ hC hR H locs LS hL hP hS
  subst hl
  have hi : i < ls.length := by
    rcases Nat.lt_or_ge i ls.length with q | q
    · exact q
    · rw [List.getElem?_eq_none q] at hx; cases hx
  have hm : (i, q_cv ω (.int x)) ∈ q_lp ω ls := List.mem_filterMap.mpr ⟨i, List.mem_range.mpr hi, by rw [hx]; rfl⟩
  obtain ⟨kx, hk⟩ := List.getElem?_of_mem hm
  exact lv_iinc hC.1 hC.2.1 hd hL.has hk hv hi rfl (fun LS' h' => kk ω p l e R s m args below meth c cells slots QZ (hC.len (by rw [List.length_set])) hR H locs LS' (hL.store rfl hi h') hP hS)
end q_rules
