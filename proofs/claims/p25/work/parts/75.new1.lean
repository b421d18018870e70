/-! THE N LAYER: what is made. The world is a list of cells that grows; addresses are the machine's own. -/
abbrev n_tys (ca : Nat → ClassId) : List (ClassId × FieldType) := [(ca 10, .int), (ca 11, .char), (ca 12, .object RX0), (ca 13, .object RX2), (ca 14, .object RX3)]
def n_LH (LS : Array Slot) (ls : List (Option Value)) : Prop := LS.size = ls.length ∧ lv_wf LS ∧ ∀ (i : Nat) (v : Value), ls[i]? = some (some v) → v.category = 1 ∧ LS[i]? = some (.val v)
def n_lp (ls : List (Option Value)) : List (Nat × Value) := (List.range ls.length).filterMap (fun i => (ls[i]?.join).map (fun v => (i, v)))
theorem n_LH.has {LS : Array Slot} {ls : List (Option Value)} (h : n_LH LS ls) : lv_has LS ls.length (n_lp ls) := by
  refine ⟨h.1, h.2.1, fun q hq => ?_⟩
  obtain ⟨i, -, hi⟩ := List.mem_filterMap.mp hq
  cases hv : ls[i]? with
  | none => rw [hv] at hi; cases hi
  | some o =>
    cases o with
    | none => rw [hv] at hi; cases hi
    | some v =>
      rw [hv] at hi
      cases hi
      exact (h.2.2 i v hv).2
theorem n_LH.store {LS LS' : Array Slot} {ls : List (Option Value)} {i : Nat} {v : Value} (h : n_LH LS ls) (hc : v.category = 1) (hi : i < ls.length)
    (h' : lv_has LS' ls.length ((i, v) :: (n_lp ls).filter (fun q => !(q.1 == i) && !(q.1 + 1 == i && q.2.category == 2)))) : n_LH LS' (ls.set i (some v)) := by
  refine ⟨by rw [List.length_set]; exact h'.1, h'.2.1, fun j w hj => ?_⟩
  rw [List.getElem?_set] at hj
  by_cases hij : i = j
  · subst hij
    rw [if_pos rfl, if_pos hi] at hj
    cases hj
    exact ⟨hc, h'.2.2 (i, v) List.mem_cons_self⟩
  · rw [if_neg hij] at hj
    have hw := (h.2.2 j w hj).1
    refine ⟨hw, h'.2.2 (j, w) (List.mem_cons_of_mem _ (List.mem_filter.mpr ⟨List.mem_filterMap.mpr ⟨j, List.mem_range.mpr ?_, by rw [hj]; rfl⟩, ?_⟩))⟩
    · rcases Nat.lt_or_ge j ls.length with q | q
      · exact q
      · rw [List.getElem?_eq_none q] at hj; cases hj
    · have e1 : (j == i) = false := by simp; exact fun e => hij e.symm
      have e2 : (w.category == 2) = false := by rw [hw]; rfl
      simp [e1, e2]
/-- words that calls and arrays want -/
def n_Nx (U : State) : Prop := va_Nw (.methodLinkNest RX6 28 yX4_init RX6) U ∧ va_AO RX0 U ∧ va_AO RX2 U ∧ va_AO RX3 U
theorem n_Nx.warm {s U : State} (hW : s.WarmedH U.vm) (h : n_Nx s) : n_Nx U := ⟨va_Nw.warmM hW h.1, h.2.1.moved hW.alike, h.2.2.1.moved hW.alike, h.2.2.2.moved hW.alike⟩
theorem n_Nx.same {s U : State} (hv : s.vm = U.vm) (h : n_Nx s) : n_Nx U := by
  have e : s.vm.Alike U.vm := by rw [hv]; exact Vm.Alike.refl U.vm
  exact ⟨va_Nw.same rfl hv h.1, h.2.1.moved e, h.2.2.1.moved e, h.2.2.2.moved e⟩
abbrev n_Cx (D : va_G) (ca : Nat → ClassId) (A : Nat → Prop) (k : q_MI) (nL : Nat) (p : Program) (R : Room) (s : State) (m : MethodId) (args : Array Value) (meth : Method) (c : Code) (mc ms : Nat) : Prop :=
  p.tables.exec = Jvm.exec ∧ c.code = k.2.1 ∧ c.maxLocals = nL ∧ s.vm.findClass k.1.cls = some m.cls ∧ (∀ w ∈ q_gw, w.before args s = true) ∧ va_K D vwCl (n_tys ca) s ∧ (∀ q, s.heap.size ≤ q → A q) ∧ n_Nx s ∧ k.2.2.2.2.1 ≤ R.frames ∧ k.2.2.2.2.2 ≤ R.locals ∧ mc ≤ R.cells ∧ ms ≤ R.slots ∧ (k.1.name = "<init>" → meth.name = "<init>")
def n_X (D : va_G) (ca : Nat → ClassId) (A : Nat → Prop) (k : q_MI) (mc ms : Nat) (Fz : Nat → List (Option Value) → List Value → va_W → Prop) (pc : Nat) (ls : List (Option Value)) (st : List Value) (ws : va_W) (nc ns : Nat) : Prop :=
  ∀ (p : Program) (l : Launch) (e : Env) (R : Room) (s : State) (m : MethodId) (args : Array Value) (below : List Frame) (meth : Method) (c : Code) (QZ : State → Prop), n_Cx D ca A k ls.length p R s m args meth c mc ms →
    (∀ (pc' : Nat) (LS' : Array Slot) (H' : Heap) (locs' : List Loc) (ls' : List (Option Value)) (st' : List Value) (ws' : va_W), Fz pc' ls' st' ws' → n_LH LS' ls' → va_P D vwCl ws' H' → va_D A ws' → va_S A s.heap H' locs' → W p l e R s m args below meth c H' locs' mc ms QZ (F0 m pc' LS' st')) →
    ∀ (H : Heap) (locs : List Loc) (LS : Array Slot), nc ≤ mc → ns ≤ ms → n_LH LS ls → va_P D vwCl ws H → va_D A ws → va_S A s.heap H locs → W p l e R s m args below meth c H locs nc ns QZ (F0 m pc LS st)
/-- a constructor's contract -/
def n_M (D : va_G) (ca : Nat → ClassId) (k : q_MI) (as : List Value) (ws : va_W) (mc ms : Nat) (Q : va_W → Prop) : Prop :=
  ∀ (l : Launch) (sz : Nat), Met l k.1 (q_ws k) { frames := k.2.2.2.2.1, cells := mc, slots := ms, locals := k.2.2.2.2.2 } (va_Pc as (fun U => U.heap.size = sz ∧ va_P D vwCl ws U.heap ∧ va_K D vwCl (n_tys ca) U ∧ va_D (fun _ => True) ws ∧ n_Nx U)) (va_Qv Q (fun w t => va_P D vwCl w t.heap ∧ va_D (va_A ws sz) w) (va_A ws sz)) mc ms (va_A ws sz)
theorem va_RA.inj {U : State} {cA cB : ClassId} : ∀ {ty : FieldType}, (ty = .int ∨ ty = .char ∨ ∃ C, ty = .object C) → va_RA U cA ty → va_RA U cB ty → cA = cB := by
  intro ty ht h1 h2
  rcases ht with rfl | rfl | ⟨C, rfl⟩
  · exact Option.some.inj (Eq.trans (Eq.symm h1) h2)
  · exact Option.some.inj (Eq.trans (Eq.symm h1) h2)
  · obtain ⟨_, _, _, _, _, e1⟩ := h1
    obtain ⟨_, _, _, _, _, e2⟩ := h2
    exact Option.some.inj (Eq.trans (Eq.symm e1) e2)
theorem n_cA {D : va_G} {tys : List (ClassId × FieldType)} {cA cB : ClassId} {ty : FieldType} {s : State} {i : Nat} (h : va_K D vwCl (tys ++ [(cA, ty)]) s) (hi : tys[i]? = some (cB, ty)) (ht : ty = .int ∨ ty = .char ∨ ∃ C, ty = .object C) : cA = cB := by
  have h1 := (h.2 tys.length (cA, ty) (by rw [List.getElem?_append_right (Nat.le_refl _)]; simp)).2
  have hil := (List.getElem?_eq_some_iff.mp hi).1
  have h2 := (h.2 i (cB, ty) (by rw [List.getElem?_append_left hil]; exact hi)).2
  exact va_RA.inj ht h1 h2
/-- behind a call: the callee's cells stand last -/
theorem n_join {A0 : Nat → Prop} {D : va_G} {w0 wc w1 : va_W} {H H1 : Heap} (hP : va_P D vwCl (w0 ++ wc) H) (hD : va_D A0 (w0 ++ wc)) (hk : ∀ q : Nat, q < H.size → ¬ va_A wc H.size q → H1[q]? = H[q]?) (hF : ∀ q, va_A wc H.size q → A0 q) (hP1 : va_P D vwCl w1 H1) (hD1 : va_D (va_A wc H.size) w1) : va_P D vwCl (w0 ++ w1) H1 ∧ va_D A0 (w0 ++ w1) := by
  have g0 : ∀ (k : Nat) (q : Nat × va_E), w0[k]? = some q → (w0 ++ wc)[k]? = some q := by
    intro k q hq
    rw [List.getElem?_append_left (List.getElem?_eq_some_iff.mp hq).1]; exact hq
  have gc : ∀ (k : Nat) (q : Nat × va_E), wc[k]? = some q → (w0 ++ wc)[w0.length + k]? = some q := by
    intro k q hq
    rw [List.getElem?_append_right (by omega), Nat.add_sub_cancel_left]; exact hq
  have apart : ∀ (k : Nat) (q : Nat × va_E), w0[k]? = some q → q.1 < H.size ∧ ¬ va_A wc H.size q.1 := by
    intro k q hq
    have hlt := (hP k q (g0 k q hq)).lt
    refine ⟨hlt, fun z => ?_⟩
    rcases z with ⟨j, e, hj⟩ | z
    · have := hD.1 k (w0.length + j) q (q.1, e) (g0 k q hq) (gc j _ hj) rfl
      have := (List.getElem?_eq_some_iff.mp hq).1
      omega
    · omega
  have hP0 : va_P D vwCl w0 H := fun k q hq => hP k q (g0 k q hq)
  refine ⟨(hP0.kept (fun k q hq => hk q.1 (apart k q hq).1 (apart k q hq).2)).app hP1, va_D.app ⟨fun i j p q hi hj => hD.1 i j p q (g0 i p hi) (g0 j q hj), fun k q hq => hD.2 k q (g0 k q hq)⟩ ⟨hD1.1, fun k q hq => hF _ (hD1.2 k q hq)⟩ (fun i j p q hi hj e => ?_)⟩
  exact (apart i p hi).2 (by rw [e]; exact hD1.2 j q hj)
section n_rules
variable {D : va_G} {ca : Nat → ClassId} {A : Nat → Prop} {k : q_MI} {mc ms : Nat} {Fz : Nat → List (Option Value) → List Value → va_W → Prop} {pc : Nat} {ls : List (Option Value)} {st : List Value} {ws : va_W} {nc ns : Nat}
theorem n_end (h : Fz pc ls st ws) : n_X D ca A k mc ms Fz pc ls st ws nc ns := by
  intro p l e R s m args below meth c QZ hC hR H locs LS h1 h2 hL hP hD hS
  exact W.widen h1 h2 (hR pc LS H locs ls st ws h hL hP hD hS)
theorem n_iconst {n : Int} {v : Int32} (hd : decode k.2.1 pc = .ok (.iconst n, 1)) (hv : Int32.ofInt n = v) (kk : n_X D ca A k mc ms Fz (pc + 1) ls (.int v :: st) ws nc ns) : n_X D ca A k mc ms Fz pc ls st ws nc ns := by
  intro p l e R s m args below meth c QZ hC hR H locs LS h1 h2 hL hP hD hS
  exact lv_iconst hC.1 hC.2.1 hd hv (kk p l e R s m args below meth c QZ hC hR H locs LS h1 h2 hL hP hD hS)
theorem n_bipush {n : Int} {v : Int32} (hd : decode k.2.1 pc = .ok (.bipush n, 2)) (hv : (Int8.ofInt n).toInt32 = v) (kk : n_X D ca A k mc ms Fz (pc + 2) ls (.int v :: st) ws nc ns) : n_X D ca A k mc ms Fz pc ls st ws nc ns := by
  intro p l e R s m args below meth c QZ hC hR H locs LS h1 h2 hL hP hD hS
  exact lv_bipush hC.1 hC.2.1 hd hv (kk p l e R s m args below meth c QZ hC hR H locs LS h1 h2 hL hP hD hS)
theorem n_sipush {n : Int} {v : Int32} (hd : decode k.2.1 pc = .ok (.sipush n, 3)) (hv : (Int16.ofInt n).toInt32 = v) (kk : n_X D ca A k mc ms Fz (pc + 3) ls (.int v :: st) ws nc ns) : n_X D ca A k mc ms Fz pc ls st ws nc ns := by
  intro p l e R s m args below meth c QZ hC hR H locs LS h1 h2 hL hP hD hS
  exact lv_sipush hC.1 hC.2.1 hd hv (kk p l e R s m args below meth c QZ hC hR H locs LS h1 h2 hL hP hD hS)
theorem n_iload_n {j : Fin 4} {x : Int32} (hd : decode k.2.1 pc = .ok (.iload_n j, 1)) (hl : ls[(j : Nat)]? = some (some (.int x))) (kk : n_X D ca A k mc ms Fz (pc + 1) ls (.int x :: st) ws nc ns) : n_X D ca A k mc ms Fz pc ls st ws nc ns := by
  intro p l e R s m args below meth c QZ hC hR H locs LS h1 h2 hL hP hD hS
  exact lv_iload_n hC.1 hC.2.1 hd rfl (hL.2.2 _ _ hl).2 (kk p l e R s m args below meth c QZ hC hR H locs LS h1 h2 hL hP hD hS)
theorem n_aload_n {j : Fin 4} {a : Nat} (hd : decode k.2.1 pc = .ok (.aload_n j, 1)) (hl : ls[(j : Nat)]? = some (some (.ref a))) (kk : n_X D ca A k mc ms Fz (pc + 1) ls (.ref a :: st) ws nc ns) : n_X D ca A k mc ms Fz pc ls st ws nc ns := by
  intro p l e R s m args below meth c QZ hC hR H locs LS h1 h2 hL hP hD hS
  exact lv_aload_n hC.1 hC.2.1 hd rfl (hL.2.2 _ _ hl).2 (kk p l e R s m args below meth c QZ hC hR H locs LS h1 h2 hL hP hD hS)
theorem n_Cx.len {n n' : Nat} {p : Program} {R : Room} {s : State} {m : MethodId} {args : Array Value} {meth : Method} {c : Code} (h : n = n') (hC : n_Cx D ca A k n p R s m args meth c mc ms) : n_Cx D ca A k n' p R s m args meth c mc ms := h ▸ hC
theorem n_istore_n {j : Fin 4} {x : Int32} {ls' : List (Option Value)} (hd : decode k.2.1 pc = .ok (.istore_n j, 1)) (hi : (j : Nat) < ls.length) (hl : ls.set (j : Nat) (some (.int x)) = ls') (kk : n_X D ca A k mc ms Fz (pc + 1) ls' st ws nc ns) : n_X D ca A k mc ms Fz pc ls (.int x :: st) ws nc ns := by
  intro p l e R s m args below meth c QZ hC hR H locs LS h1 h2 hL hP hD hS
  subst hl
  exact lv_istore_n hC.1 hC.2.1 hd rfl hL.has hi rfl (fun LS' h' => kk p l e R s m args below meth c QZ (n_Cx.len (by rw [List.length_set]) hC) hR H locs LS' h1 h2 (hL.store rfl hi h') hP hD hS)
theorem n_astore_n {j : Fin 4} {a : Nat} {ls' : List (Option Value)} (hd : decode k.2.1 pc = .ok (.astore_n j, 1)) (hi : (j : Nat) < ls.length) (hl : ls.set (j : Nat) (some (.ref a)) = ls') (kk : n_X D ca A k mc ms Fz (pc + 1) ls' st ws nc ns) : n_X D ca A k mc ms Fz pc ls (.ref a :: st) ws nc ns := by
  intro p l e R s m args below meth c QZ hC hR H locs LS h1 h2 hL hP hD hS
  subst hl
  exact lv_astore_n hC.1 hC.2.1 hd rfl hL.has hi rfl (fun LS' h' => kk p l e R s m args below meth c QZ (n_Cx.len (by rw [List.length_set]) hC) hR H locs LS' h1 h2 (hL.store rfl hi h') hP hD hS)
theorem n_iinc {i : Nat} {n : Int} {x v : Int32} {ls' : List (Option Value)} (hd : decode k.2.1 pc = .ok (.iinc i n, 3)) (hx : ls[i]? = some (some (.int x))) (hv : x + Int32.ofInt n = v) (hl : ls.set i (some (.int v)) = ls') (kk : n_X D ca A k mc ms Fz (pc + 3) ls' st ws nc ns) : n_X D ca A k mc ms Fz pc ls st ws nc ns := by
  intro p l e R s m args below meth c QZ hC hR H locs LS h1 h2 hL hP hD hS
  subst hl
  have hi : i < ls.length := by
    rcases Nat.lt_or_ge i ls.length with q | q
    · exact q
    · rw [List.getElem?_eq_none q] at hx; cases hx
  have hm : (i, Value.int x) ∈ n_lp ls := List.mem_filterMap.mpr ⟨i, List.mem_range.mpr hi, by rw [hx]; rfl⟩
  obtain ⟨kx, hk⟩ := List.getElem?_of_mem hm
  exact lv_iinc hC.1 hC.2.1 hd hL.has hk hv hi rfl (fun LS' h' => kk p l e R s m args below meth c QZ (n_Cx.len (by rw [List.length_set]) hC) hR H locs LS' h1 h2 (hL.store rfl hi h') hP hD hS)
theorem n_goto {off : Int} {tgt : Nat} (hd : decode k.2.1 pc = .ok (.goto off, 3)) (ht : (pc : Int) + off = (tgt : Int)) (kk : n_X D ca A k mc ms Fz tgt ls st ws nc ns) : n_X D ca A k mc ms Fz pc ls st ws nc ns := by
  intro p l e R s m args below meth c QZ hC hR H locs LS h1 h2 hL hP hD hS
  exact lv_goto hC.1 hC.2.1 hd ht (kk p l e R s m args below meth c QZ hC hR H locs LS h1 h2 hL hP hD hS)
theorem n_icmp_ge {a b : Nat} {off : Int} {tgt : Nat} (ha : a < 2 ^ 31) (hb : b < 2 ^ 31) (hd : decode k.2.1 pc = .ok (.if_icmp .ge off, 3)) (ht : (pc : Int) + off = (tgt : Int)) (kt : b ≤ a → n_X D ca A k mc ms Fz tgt ls st ws nc ns) (kf : a < b → n_X D ca A k mc ms Fz (pc + 3) ls st ws nc ns) : n_X D ca A k mc ms Fz pc ls (.int (nI b) :: .int (nI a) :: st) ws nc ns := by
  intro p l e R s m args below meth c QZ hC hR H locs LS h1 h2 hL hP hD hS
  exact lv_icmp_ge hC.1 hC.2.1 hd ht (fun q => kt ((nI_leI hb ha).mp q) p l e R s m args below meth c QZ hC hR H locs LS h1 h2 hL hP hD hS) (fun q => kf (Nat.not_le.mp (fun z => q ((nI_leI hb ha).mpr z))) p l e R s m args below meth c QZ hC hR H locs LS h1 h2 hL hP hD hS)
theorem n_dup {v : Value} (hd : decode k.2.1 pc = .ok (.dup, 1)) (hv : v.category = 1) (kk : n_X D ca A k mc ms Fz (pc + 1) ls (v :: v :: st) ws nc ns) : n_X D ca A k mc ms Fz pc ls (v :: st) ws nc ns := by
  intro p l e R s m args below meth c QZ hC hR H locs LS h1 h2 hL hP hD hS
  exact lv_dup hC.1 hC.2.1 hd hv (kk p l e R s m args below meth c QZ hC hR H locs LS h1 h2 hL hP hD hS)
theorem n_alen {a i t0 : Nat} {cA : ClassId} {x : vp_A} {ty : FieldType} {v : Int32} (ha : ws[i]? = some (a, .inl (cA, x))) (ht : (n_tys ca)[t0]? = some (cA, ty)) (hv : Int32.ofNat x.1 = v) (hd : decode k.2.1 pc = .ok (.arraylength, 1)) (kk : n_X D ca A k mc ms Fz (pc + 1) ls (.int v :: st) ws nc ns) : n_X D ca A k mc ms Fz pc ls (.ref a :: st) ws nc ns := by
  intro p l e R s m args below meth c QZ hC hR H locs LS h1 h2 hL hP hD hS
  exact va_alen hC.1 hC.2.1 hC.2.2.2.2.2.1 hP i t0 ha ht hv hd (kk p l e R s m args below meth c QZ hC hR H locs LS h1 h2 hL hP hD hS)
theorem n_get {idx ci j q0 a : Nat} {fs : List Value} {v : Value} (hf : q_Fl k.1.cls idx ci j) (he : ws[q0]? = some (a, .inr (ci, fs))) (hv : fs[j]? = some v) (hd : decode k.2.1 pc = .ok (.getfield idx, 3)) (kk : n_X D ca A k mc ms Fz (pc + 3) ls (v :: st) ws nc ns) : n_X D ca A k mc ms Fz pc ls (.ref a :: st) ws nc ns := by
  intro p l e R s m args below meth c QZ hC hR H locs LS h1 h2 hL hP hD hS
  exact va_get hC.1 hC.2.1 hC.2.2.2.2.1 (q_wsin ci hf.1) hC.2.2.2.1 hC.2.2.2.2.2.1 hP q0 he (q_vc ci hf.1) j hf.2.1 (hC.2.2.2.2.1 _ (q_in hf.2.2.1 hf.2.2.2)) (fun _ h9 => h9) hv hd (kk p l e R s m args below meth c QZ hC hR H locs LS h1 h2 hL hP hD hS)
theorem n_putF {idx ci j q0 a : Nat} {fs : List Value} {v : Value} (hf : q_Fl k.1.cls idx ci j) (he : ws[q0]? = some (a, .inr (ci, fs))) (hfin : ((q_T ci) j).2.2.2 = true) (hi : k.1.name = "<init>") (hdecl : ((q_T ci) j).1 = k.1.cls) (hn : narrow (q_ty ci j) v = v ∧ fits (q_ty ci j) v = true) (hl : j < fs.length) (hd : decode k.2.1 pc = .ok (.putfield idx, 3)) (kk : n_X D ca A k mc ms Fz (pc + 3) ls st (ws.set q0 (a, .inr (ci, fs.set j v))) nc ns) : n_X D ca A k mc ms Fz pc ls (v :: .ref a :: st) ws nc ns := by
  intro p l e R s m args below meth c QZ hC hR H locs LS h1 h2 hL hP hD hS
  exact va_putF (v := v) hC.1 hC.2.1 hC.2.2.2.2.1 (q_wsin ci hf.1) (q_ty ci) (q_tyok ci hf.1) (q_nm ci hf.1) hC.2.2.2.1 hC.2.2.2.2.2.1 hP hD hS q0 he (q_vc ci hf.1) j hf.2.1 (hC.2.2.2.2.1 _ (q_in hf.2.2.1 hf.2.2.2)) (fun _ h9 => h9) hfin (hC.2.2.2.2.2.2.2.2.2.2.2.2 hi) hdecl (q_tyok ci hf.1 j hf.2.1) hn.1 hn.2 hl hd (fun H1 locs1 hP1 hD1 hS1 => kk p l e R s m args below meth c QZ hC hR H1 locs1 LS h1 h2 hL hP1 hD1 hS1)
theorem n_putI {idx ci j q0 a : Nat} {fs : List Value} {v : Value} (hf : q_Fl k.1.cls idx ci j) (he : ws[q0]? = some (a, .inr (ci, fs))) (hfin : ((q_T ci) j).2.2.2 = false) (hn : narrow (q_ty ci j) v = v ∧ fits (q_ty ci j) v = true) (hl : j < fs.length) (hd : decode k.2.1 pc = .ok (.putfield idx, 3)) (kk : n_X D ca A k mc ms Fz (pc + 3) ls st (ws.set q0 (a, .inr (ci, fs.set j v))) nc ns) : n_X D ca A k mc ms Fz pc ls (v :: .ref a :: st) ws nc ns := by
  intro p l e R s m args below meth c QZ hC hR H locs LS h1 h2 hL hP hD hS
  exact va_put (v := v) hC.1 hC.2.1 hC.2.2.2.2.1 (q_wsin ci hf.1) (q_ty ci) (q_tyok ci hf.1) (q_nm ci hf.1) hC.2.2.2.1 hC.2.2.2.2.2.1 hP hD hS q0 he (q_vc ci hf.1) j hf.2.1 (hC.2.2.2.2.1 _ (q_in hf.2.2.1 hf.2.2.2)) (fun _ h9 => h9) hfin (q_tyok ci hf.1 j hf.2.1) hn.1 hn.2 hl hd (fun H1 locs1 hP1 hD1 hS1 => kk p l e R s m args below meth c QZ hC hR H1 locs1 LS h1 h2 hL hP1 hD1 hS1)
theorem n_newI {N : Nat} {n : Int32} (hw : q_wd (.arrayClass .int)) (hN : n = nI N) (hN2 : N ≤ 100000) (hc : nc + 1 ≤ mc) (hs : ns + N ≤ ms) (hd : decode k.2.1 pc = .ok (.newarray .int, 2)) (kk : ∀ q : Nat, n_X D ca A k mc ms Fz (pc + 2) ls (.ref q :: st) (ws ++ [(q, .inl (ca 10, N, .inl (fun _ => 0)))]) (nc + 1) (ns + N)) : n_X D ca A k mc ms Fz pc ls (.int n :: st) ws nc ns := by
  intro p l e R s m args below meth c QZ hC hR H locs LS h1 h2 hL hP hD hS
  subst hN
  refine va_newa (atype := .int) (ty := .int) (a0 := (N, .inl (fun _ => 0))) hC.1 hC.2.1 (hC.2.2.2.2.1 _ (q_in hw.1 hw.2)) rfl hC.2.2.2.2.2.1 hP hD hS hC.2.2.2.2.2.2.1 (fun _ => rfl) (nn (by omega)) (nI_clamp (by omega)) (by show N * 4 ≤ 536870912; omega) (Nat.le_trans hc hC.2.2.2.2.2.2.2.2.2.2.1) (Nat.le_trans hs hC.2.2.2.2.2.2.2.2.2.2.2.1) hd (fun q cA H1 hK1 hP1 hD1 hS1 => ?_)
  obtain rfl := n_cA (i := 0) hK1 rfl (Or.inl rfl)
  exact kk q p l e R s m args below meth c QZ hC hR H1 locs LS hc hs hL hP1 hD1 hS1
theorem n_newC {N : Nat} {n : Int32} (hw : q_wd (.arrayClass .char)) (hN : n = nI N) (hN2 : N ≤ 100000) (hc : nc + 1 ≤ mc) (hs : ns + N ≤ ms) (hd : decode k.2.1 pc = .ok (.newarray .char, 2)) (kk : ∀ q : Nat, n_X D ca A k mc ms Fz (pc + 2) ls (.ref q :: st) (ws ++ [(q, .inl (ca 11, N, .inl (fun _ => 0)))]) (nc + 1) (ns + N)) : n_X D ca A k mc ms Fz pc ls (.int n :: st) ws nc ns := by
  intro p l e R s m args below meth c QZ hC hR H locs LS h1 h2 hL hP hD hS
  subst hN
  refine va_newa (atype := .char) (ty := .char) (a0 := (N, .inl (fun _ => 0))) hC.1 hC.2.1 (hC.2.2.2.2.1 _ (q_in hw.1 hw.2)) rfl hC.2.2.2.2.2.1 hP hD hS hC.2.2.2.2.2.2.1 (fun _ => rfl) (nn (by omega)) (nI_clamp (by omega)) (by show N * 2 ≤ 536870912; omega) (Nat.le_trans hc hC.2.2.2.2.2.2.2.2.2.2.1) (Nat.le_trans hs hC.2.2.2.2.2.2.2.2.2.2.2.1) hd (fun q cA H1 hK1 hP1 hD1 hS1 => ?_)
  obtain rfl := n_cA (i := 1) hK1 rfl (Or.inr (Or.inl rfl))
  exact kk q p l e R s m args below meth c QZ hC hR H1 locs LS hc hs hL hP1 hD1 hS1
theorem n_newQ {C : String} {idx t0 N : Nat} {n : Int32} {cB : ClassId} (hcl : q_wd (.classLink k.1.cls idx C)) (hao : ∀ U, n_Nx U → va_AO C U) (ht : (n_tys ca)[t0]? = some (cB, .object C)) (hN : n = nI N) (hN2 : N ≤ 100000) (hc : nc + 1 ≤ mc) (hs : ns + N ≤ ms) (hd : decode k.2.1 pc = .ok (.anewarray idx, 3)) (kk : ∀ q : Nat, n_X D ca A k mc ms Fz (pc + 3) ls (.ref q :: st) (ws ++ [(q, .inl (cB, N, .inr (.inr (.inr (.inr (fun _ => none))))))]) (nc + 1) (ns + N)) : n_X D ca A k mc ms Fz pc ls (.int n :: st) ws nc ns := by
  intro p l e R s m args below meth c QZ hC hR H locs LS h1 h2 hL hP hD hS
  subst hN
  refine va_newq (C := C) hC.1 hC.2.1 hC.2.2.2.1 (hC.2.2.2.2.1 _ (q_in hcl.1 hcl.2)) (hao s hC.2.2.2.2.2.2.2.1) hC.2.2.2.2.2.1 hP hD hS hC.2.2.2.2.2.2.1 (nn (by omega)) (nI_clamp (by omega)) (by omega) (Nat.le_trans hc hC.2.2.2.2.2.2.2.2.2.2.1) (Nat.le_trans hs hC.2.2.2.2.2.2.2.2.2.2.2.1) hd (fun q cA H1 hK1 hP1 hD1 hS1 => ?_)
  obtain rfl := n_cA (i := t0) hK1 ht (Or.inr (Or.inr ⟨C, rfl⟩))
  exact kk q p l e R s m args below meth c QZ hC hR H1 locs LS hc hs hL hP1 hD1 hS1
/-- a new object's fields -/
def n_z (ci : Nat) : List Value := (List.range (q_nf ci)).map (fun j => defaultValue (q_ty ci j))
theorem n_new {idx ci : Nat} (h7 : ci < 6) (hcl : q_wd (.classLink k.1.cls idx (q_C ci))) (hin : q_wd (.instantiable (q_C ci) (q_nf ci))) (hini : q_wd (.initialized (q_C ci))) (hc : nc + 1 ≤ mc) (hs : ns + q_nf ci ≤ ms) (hd : decode k.2.1 pc = .ok (.new idx, 3)) (kk : ∀ q : Nat, n_X D ca A k mc ms Fz (pc + 3) ls (.ref q :: st) (ws ++ [(q, .inr (ci, n_z ci))]) (nc + 1) (ns + q_nf ci)) : n_X D ca A k mc ms Fz pc ls st ws nc ns := by
  intro p l e R s m args below meth c QZ hC hR H locs LS h1 h2 hL hP hD hS
  refine va_new (ci := ci) (fs := n_z ci) (C := q_C ci) (T := q_T ci) (N := q_nf ci) hC.1 hC.2.1 hC.2.2.2.2.1 (q_wsin ci h7) (q_ty ci) (q_tyok ci h7) hC.2.2.2.1 (hC.2.2.2.2.1 _ (q_in hcl.1 hcl.2)) (hC.2.2.2.2.1 _ (q_in hin.1 hin.2)) (hC.2.2.2.2.1 _ (q_in hini.1 hini.2)) hC.2.2.2.2.2.1 hP hD hS hC.2.2.2.2.2.2.1 (q_vc ci h7) (fun j hj => ?_) (Nat.le_trans hc hC.2.2.2.2.2.2.2.2.2.2.1) (Nat.le_trans hs hC.2.2.2.2.2.2.2.2.2.2.2.1) hd (fun q H1 hP1 hD1 hS1 => kk q p l e R s m args below meth c QZ hC hR H1 locs LS hc hs hL hP1 hD1 hS1)
  rw [vp_V, List.getD_eq_getElem?_getD, n_z, List.getElem?_map, List.getElem?_range hj]
  rfl
theorem n_objInit {idx a : Nat} (hl : q_wd (.methodLink k.1.cls idx Lib.objectInit) ∧ q_wd (.instanceMethod Lib.objectInit) ∧ q_wd (.code Lib.objectInit ⟨#[0xb1]⟩ 1 none)) (hfr : 1 ≤ k.2.2.2.2.1) (hlo : (st.map fun v => v.category).sum + 12 ≤ k.2.2.2.2.2) (hd : decode k.2.1 pc = .ok (.invokespecial idx, 3)) (kk : n_X D ca A k mc ms Fz (pc + 3) ls st ws nc ns) : n_X D ca A k mc ms Fz pc ls (.ref a :: st) ws nc ns := by
  intro p l e R s m args below meth c QZ hC hR H locs LS h1 h2 hL hP hD hS
  exact W.objInit hC.1 hC.2.1 hC.2.2.2.1 (hC.2.2.2.2.1 _ (q_in hl.1.1 hl.1.2)) (hC.2.2.2.2.1 _ (q_in hl.2.1.1 hl.2.1.2)) (hC.2.2.2.2.1 _ (q_in hl.2.2.1 hl.2.2.2)) rfl (by rw [hC.2.2.1]; exact hL.1) rfl hd (Nat.le_trans hfr hC.2.2.2.2.2.2.2.2.1) (Nat.le_trans (by show 2 * 0 + _ + 12 ≤ _; omega) hC.2.2.2.2.2.2.2.2.2.1) (kk p l e R s m args below meth c QZ hC hR H locs LS h1 h2 hL hP hD hS)
theorem n_aast {a i t0 i0 qk ci v N : Nat} {cA : ClassId} {vs : List Value} {f : Nat → Option Nat} {x : Int32} (h7 : ci < 6) (ha : ws[i0]? = some (a, .inl (cA, N, .inr (.inr (.inr (.inr f)))))) (ht : (n_tys ca)[t0]? = some (cA, .object (q_C ci))) (hv : ws[qk]? = some (v, .inr (ci, vs))) (hx : x = nI i) (hi : i < N) (hN : N < 2 ^ 31) (hd : decode k.2.1 pc = .ok (.aastore, 1)) (kk : n_X D ca A k mc ms Fz (pc + 1) ls st (ws.set i0 (a, .inl (cA, N, .inr (.inr (.inr (.inr (va_up f i (some v)))))))) nc ns) : n_X D ca A k mc ms Fz pc ls (.ref v :: .int x :: .ref a :: st) ws nc ns := by
  intro p l e R s m args below meth c QZ hC hR H locs LS h1 h2 hL hP hD hS
  subst hx
  refine va_astq hC.1 hC.2.1 hC.2.2.2.2.2.1 hP hD hS i0 t0 qk ci (r := (q_C ci, q_T ci, q_nf ci)) ha ht hv (q_vc ci h7) (vp_in_nI hi hN) hd (fun H1 locs1 hP1 hD1 hS1 => ?_)
  rw [nI_clamp (by omega)] at hP1 hD1
  exact kk p l e R s m args below meth c QZ hC hR H1 locs1 LS h1 h2 hL hP1 hD1 hS1
theorem n_blind {as : List Value} {sz : Nat} : FrameBlind (va_Pc as (fun U => U.heap.size = sz ∧ va_P D vwCl ws U.heap ∧ va_K D vwCl (n_tys ca) U ∧ va_D (fun _ => True) ws ∧ n_Nx U)) := by
  intro a U g mk h
  obtain ⟨h1, h2, h3, h4, h5, h6⟩ := h
  exact ⟨h1, h2, h3, va_K.moved (u := U) (U := U.calling g mk a) (Vm.Alike.refl U.vm) h4, h5, n_Nx.same (s := U) rfl h6⟩
theorem n_cI {kc : q_MI} {As : List Value} {b idx n mc1 ms1 : Nat} {w0 wc : va_W} {Q1 : va_W → Prop} (hl : q_lkB k.1.cls idx kc n ∧ kc.1.name = "<init>" ∧ q_wd (.instanceMethod kc.1)) (hret : kc.2.2.2.1 = none) (hm : n_M D ca kc (.ref b :: As) wc mc1 ms1 Q1) (hn : As.length = n) (hf : q_fit kc k) (hst : (st.map fun v => v.category).sum ≤ 8) (hc : nc + mc1 ≤ mc) (hs : ns + ms1 ≤ ms) (hd : decode k.2.1 pc = .ok (.invokespecial idx, 3)) (kk : ∀ w1, Q1 w1 → n_X D ca A k mc ms Fz (pc + 3) ls st (w0 ++ w1) (nc + mc1) (ns + ms1)) : n_X D ca A k mc ms Fz pc ls (As.reverse ++ .ref b :: st) (w0 ++ wc) nc ns := by
  intro p l e R s m args below meth c QZ hC hR H locs LS h1 h2 hL hP hD hS
  obtain ⟨hx, hb, hml, hown, hts, hK, hA, hN, hfr, hlo, hce, hsl, hnm⟩ := id hC
  obtain ⟨⟨g1, g2, g3, g4, g5⟩, g6, g7⟩ := hl
  have bf : ∀ {w : Cond}, q_wd w → w.before args s = true := fun h => hts _ (q_in h.1 h.2)
  have gw0 : ∀ (j : Nat) (q : Nat × va_E), wc[j]? = some q → (w0 ++ wc)[w0.length + j]? = some q := by
    intro j q hq
    rw [List.getElem?_append_right (by omega), Nat.add_sub_cancel_left]; exact hq
  have hPc : va_P D vwCl wc H := fun j q hq => hP _ q (gw0 j q hq)
  have hDc : va_D (fun _ => True) wc := ⟨fun i j p q hi hj e => by have := hD.1 _ _ p q (gw0 i p hi) (gw0 j q hj) e; omega, fun _ _ _ => trivial⟩
  have hF : ∀ q, va_A wc H.size q → A q := by
    intro q hq
    rcases hq with ⟨j, e, hj⟩ | hq
    · exact hD.2 _ _ (gw0 j _ hj)
    · exact hA q (Nat.le_trans hS.1 hq)
  refine va_callv (va_runI (As := As) (rest := st) ⟨hx, hb, hml, hown, hts⟩ (hm l H.size)
    ⟨⟨rfl, rfl, Nat.le_trans hf.1 hfr, Nat.le_trans hf.2 hlo, pay_in hts (q_gws g3), by rw [← hret]; exact List.mem_cons_self, by rw [← hret]; exact bf g3, bf g2, g4, q_ar g5, bf g1⟩, g6, bf g7⟩
    ⟨n_blind, fun U hU hW => ⟨rfl, by rw [hU], by rw [hU]; exact hPc, va_K.moved hW.alike hK, hDc, n_Nx.warm hW hN⟩⟩ rfl hn hL.1 rfl (lv_room hst) hd ⟨Nat.le_trans hc hce, Nat.le_trans hs hsl⟩) hS (fun q _ h => hF q h) hF (fun u t H1 locs1 ht hvm hw hB hz1 hk1 hS1 => ?_)
  obtain ⟨hP1, hD1⟩ := hB
  rw [ht] at hP1
  obtain ⟨hP2, hD2⟩ := n_join hP hD hk1 hF hP1 hD1
  exact kk u hw p l e R s m args below meth c QZ hC hR H1 locs1 LS hc hs hL hP2 hD2 hS1
end n_rules
