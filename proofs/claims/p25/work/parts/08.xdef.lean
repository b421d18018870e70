/-! THE X LAYER. All objects of the run stand in a fixed layout of 356 cells (numbered 0 to 361; 356 and on: what was there before). References are cell numbers; what changes is one memory of ints, cell by cell, place by place. q_X is the judgement of a method's body over it, q_M a method's contract. -/
abbrev q_Om : Type := (Nat → Prop) × (Nat → Nat) × va_G × (Nat → ClassId) × Nat × (Nat → Int32)
abbrev q_Mem : Type := Nat → Nat → Int32
abbrev q_A (ω : q_Om) : Nat → Prop := ω.1
abbrev q_ad (ω : q_Om) (k : Nat) : Nat := ω.2.1 k
abbrev q_D (ω : q_Om) : va_G := ω.2.2.1
abbrev q_ca (ω : q_Om) (k : Nat) : ClassId := ω.2.2.2.1 k
abbrev q_L (ω : q_Om) : Nat := ω.2.2.2.2.1
abbrev q_xs (ω : q_Om) : Nat → Int32 := ω.2.2.2.2.2
/-- the kinds within a season's 50 cells, and the lengths of its arrays -/
def q_sk (j : Nat) : Nat := if j = 0 then 3 else if j = 1 then 12 else if j = 2 then 13 else if j = 3 then 10 else if j < 20 then (if j % 2 = 0 then 0 else 10) else 2
def q_sl (j : Nat) : Nat := if j = 1 then 8 else if j = 2 then 30 else if j = 3 then 5 else 20
def q_kd (k : Nat) : Nat := if k = 0 then 5 else if k < 101 then q_sk ((k - 1) % 50) else if k = 101 then 1 else if k = 102 then 14 else if k < 353 then q_sk ((k - 103) % 50) else if k = 353 then 4 else if k = 354 then 11 else if k = 355 then 10 else 99
def q_ln (k : Nat) : Nat := if k < 101 then q_sl ((k - 1) % 50) else if k = 102 then 5 else if k < 353 then q_sl ((k - 103) % 50) else if k = 354 then 60 else if k = 355 then 4 else if k = 357 then 554 else if k = 358 then 554 else if k = 359 then 2216 else if k = 360 then 60 else 4
/-- the fields that hold references, and how far away what they hold lies -/
def q_ro (c j : Nat) : Option Nat := match c, j with
  | 0, 1 => some 1
  | 1, 0 => some 1
  | 3, 0 => some 1
  | 3, 1 => some 2
  | 3, 2 => some 3
  | 4, 0 => some 1
  | 4, 1 => some 2
  | 5, 0 => some 1
  | 5, 1 => some 51
  | 5, 2 => some 101
  | 5, 3 => some 353
  | 6, 0 => some 1
  | 6, 1 => some 2
  | 6, 2 => some 3
  | 6, 4 => some 4
  | 6, 9 => some 5
  | _, _ => none
/-- the elements of an array of references -/
def q_el (c k i : Nat) : Nat := if c = 12 then k + 3 + 2 * i else if c = 13 then k + 18 + i else k + 1 + 50 * i
def q_fv (ω : q_Om) (I : q_Mem) (k j : Nat) : Value := match q_ro (q_kd k) j with
  | some d => .ref (q_ad ω (k + d))
  | none => .int (I k j)
def q_cell (ω : q_Om) (I : q_Mem) (k : Nat) : va_E := if q_kd k < 6 then .inr (q_kd k, (List.range (q_nf (q_kd k))).map (q_fv ω I k)) else if q_kd k < 12 then .inl (q_ca ω (q_kd k), q_ln k, .inl (I k)) else .inl (q_ca ω (q_kd k), q_ln k, .inr (.inr (.inr (.inr (fun i => some (q_ad ω (q_el (q_kd k) k i)))))))
def q_P (ω : q_Om) (I : q_Mem) : va_W := (List.range 356).map (fun k => (q_ad ω k, q_cell ω I k))
def q_tys (ω : q_Om) : List (ClassId × FieldType) := [(q_ca ω 10, .int), (q_ca ω 11, .char), (q_ca ω 12, .object RX0), (q_ca ω 13, .object RX2), (q_ca ω 14, .object RX3)]
def q_up (I : q_Mem) (a j : Nat) (x : Int32) : q_Mem := fun a' j' => if a' = a ∧ j' = j then x else I a' j'
theorem q_P_get {ω : q_Om} {I : q_Mem} {k : Nat} (h : k < 356) : (q_P ω I)[k]? = some (q_ad ω k, q_cell ω I k) := by
  simp only [q_P, List.getElem?_map, List.getElem?_range h, Option.map_some]
theorem q_cell_obj {ω : q_Om} {I : q_Mem} {k ci : Nat} (h : q_kd k = ci) (h7 : ci < 6) : q_cell ω I k = .inr (ci, (List.range (q_nf ci)).map (q_fv ω I k)) := by
  subst h
  simp only [q_cell, if_pos h7]
theorem q_cell_arr {ω : q_Om} {I : q_Mem} {k ci : Nat} (h : q_kd k = ci) (h7 : 6 ≤ ci) (h12 : ci < 12) : q_cell ω I k = .inl (q_ca ω ci, q_ln k, .inl (I k)) := by
  subst h
  simp only [q_cell, if_neg (Nat.not_lt.mpr h7), if_pos h12]
theorem q_cell_ref {ω : q_Om} {I : q_Mem} {k ci : Nat} (h : q_kd k = ci) (h12 : 12 ≤ ci) : q_cell ω I k = .inl (q_ca ω ci, q_ln k, .inr (.inr (.inr (.inr (fun i => some (q_ad ω (q_el ci k i))))))) := by
  subst h
  simp only [q_cell, if_neg (show ¬ q_kd k < 6 by omega), if_neg (Nat.not_lt.mpr h12)]
theorem q_cell_ne {ω : q_Om} {I : q_Mem} {a k j : Nat} {x : Int32} (h : k ≠ a) : q_cell ω (q_up I a j x) k = q_cell ω I k := by
  have e : q_up I a j x k = I k := by
    funext j'
    simp only [q_up, h, false_and, if_false]
  have e2 : q_fv ω (q_up I a j x) k = q_fv ω I k := by
    funext j'
    simp only [q_fv, e]
  simp only [q_cell, e, e2]
theorem q_P_set {ω : q_Om} {I : q_Mem} {a j : Nat} {x : Int32} {c : va_E} (h : q_cell ω (q_up I a j x) a = c) : (q_P ω I).set a (q_ad ω a, c) = q_P ω (q_up I a j x) := by
  apply List.ext_getElem?
  intro i
  subst h
  rw [List.getElem?_set]
  by_cases hi : a = i
  · subst hi
    rw [if_pos rfl]
    by_cases hl : a < 356
    · rw [q_P_get hl, if_pos (by simpa [q_P] using hl)]
    · rw [if_neg (by simpa [q_P] using hl)]
      symm
      simp only [q_P, List.getElem?_map, Option.map_eq_none_iff, List.getElem?_eq_none_iff, List.length_range]
      omega
  · rw [if_neg hi]
    simp only [q_P, List.getElem?_map]
    by_cases hl : i < 356
    · rw [List.getElem?_range hl]
      simp only [Option.map_some]
      rw [q_cell_ne (fun e => hi e.symm)]
    · rw [List.getElem?_eq_none (by simp; omega)]
      rfl
theorem q_setI {ω : q_Om} {I : q_Mem} {a j ci : Nat} {x : Int32} (h : q_kd a = ci) (h7 : ci < 6) (hj : q_ro ci j = none) : (q_P ω I).set a (q_ad ω a, .inr (ci, ((List.range (q_nf ci)).map (q_fv ω I a)).set j (.int x))) = q_P ω (q_up I a j x) := by
  refine q_P_set ?_
  rw [q_cell_obj h h7]
  refine congrArg (fun l => Sum.inr (ci, l)) ?_
  apply List.ext_getElem?
  intro i
  rw [List.getElem?_set, List.getElem?_map, List.getElem?_map]
  by_cases hi : j = i
  · subst hi
    rw [if_pos rfl]
    by_cases hl : j < q_nf ci
    · rw [List.getElem?_range hl, if_pos (by simpa using hl)]
      simp [q_fv, h, hj, q_up]
    · rw [List.getElem?_eq_none (by simp; omega), if_neg (by simpa using hl)]
      rfl
  · rw [if_neg hi]
    by_cases hl : i < q_nf ci
    · rw [List.getElem?_range hl]
      simp only [Option.map_some]
      have : q_up I a j x a i = I a i := by simp [q_up]; exact fun e => absurd e.symm hi
      simp only [q_fv, this]
    · rw [List.getElem?_eq_none (by simp; omega)]
      rfl
theorem q_setA {ω : q_Om} {I : q_Mem} {a j ci : Nat} {x : Int32} (h : q_kd a = ci) (h7 : 6 ≤ ci) (h12 : ci < 12) : (q_P ω I).set a (q_ad ω a, .inl (q_ca ω ci, q_ln a, .inl (upd (I a) j x))) = q_P ω (q_up I a j x) := by
  refine q_P_set ?_
  rw [q_cell_arr h h7 h12]
  have : q_up I a j x a = upd (I a) j x := by
    funext i
    simp [q_up, upd]
  rw [this]
/-- a private method of the outer one that nested ones call -/
def q_Nt (U : State) : Prop := va_Nw (.methodLinkNest RX3 85 yX6_isOutside RX6) U
theorem q_Nt.warm {s U : State} (hW : s.WarmedH U.vm) (h : q_Nt s) : q_Nt U := va_Nw.warmM hW h
theorem q_Nt.same {s U : State} (hv : s.vm = U.vm) (h : q_Nt s) : q_Nt U := va_Nw.same rfl hv h
def q_Od (ω : q_Om) (U : State) (H : Heap) : Prop := (va_X (q_ad ω 380) (q_L ω) (q_xs ω) U H ∧ q_ad ω 380 < H.size ∧ ¬ q_A ω (q_ad ω 380)) ∧ q_Nt U
theorem q_Od.moved {ω : q_Om} {u U : State} {H : Heap} (hvm : u.vm.Alike U.vm) (hN : q_Nt U) (h : q_Od ω u H) : q_Od ω U H := by
  obtain ⟨⟨h8, h9⟩, -⟩ := h
  exact ⟨⟨va_X.moved hvm h8, h9⟩, hN⟩
theorem q_Od.kept {ω : q_Om} {U : State} {H H1 : Heap} (h : q_Od ω U H) (hz : H.size ≤ H1.size) (hq : ∀ a : Nat, a < H.size → ¬ q_A ω a → H1[a]? = H[a]?) : q_Od ω U H1 := by
  obtain ⟨⟨h8, h9, h10⟩, h11⟩ := h
  exact ⟨⟨h8.kept (hq _ h9 h10), Nat.lt_of_lt_of_le h9 hz, h10⟩, h11⟩
/-! values and locals -/
def q_cv (ω : q_Om) : Value → Value
  | .ref k => .ref (q_ad ω k)
  | v => v
theorem q_cv_cat (ω : q_Om) (v : Value) : (q_cv ω v).category = v.category := by
  cases v <;> rfl
def q_LH (ω : q_Om) (LS : Array Slot) (ls : List (Option Value)) : Prop := LS.size = ls.length ∧ lv_wf LS ∧ ∀ (i : Nat) (v : Value), ls[i]? = some (some v) → v.category = 1 ∧ LS[i]? = some (.val (q_cv ω v))
def q_lp (ω : q_Om) (ls : List (Option Value)) : List (Nat × Value) := (List.range ls.length).filterMap (fun i => (ls[i]?.join).map (fun v => (i, q_cv ω v)))
theorem q_LH.has {ω : q_Om} {LS : Array Slot} {ls : List (Option Value)} (h : q_LH ω LS ls) : lv_has LS ls.length (q_lp ω ls) := by
  refine ⟨h.1, h.2.1, fun q hq => ?_⟩
  obtain ⟨i, -, hi⟩ := List.mem_filterMap.mp hq
  cases hv : ls[i]? with
  | none => rw [hv] at hi; cases hi
  | some o =>
    cases o with
    | none => rw [hv] at hi; cases hi
    | some v =>
      rw [hv] at hi
      cases hi
      exact (h.2.2 i v hv).2
theorem q_LH.store {ω : q_Om} {LS LS' : Array Slot} {ls : List (Option Value)} {i : Nat} {v : Value} (h : q_LH ω LS ls) (hc : v.category = 1) (hi : i < ls.length)
    (h' : lv_has LS' ls.length ((i, q_cv ω v) :: (q_lp ω ls).filter (fun q => !(q.1 == i) && !(q.1 + 1 == i && q.2.category == 2)))) : q_LH ω LS' (ls.set i (some v)) := by
  refine ⟨by rw [List.length_set]; exact h'.1, h'.2.1, fun j w hj => ?_⟩
  rw [List.getElem?_set] at hj
  by_cases hij : i = j
  · subst hij
    rw [if_pos rfl, if_pos hi] at hj
    cases hj
    exact ⟨hc, h'.2.2 (i, q_cv ω v) List.mem_cons_self⟩
  · rw [if_neg hij] at hj
    have hw := (h.2.2 j w hj).1
    refine ⟨hw, h'.2.2 (j, q_cv ω w) (List.mem_cons_of_mem _ (List.mem_filter.mpr ⟨List.mem_filterMap.mpr ⟨j, List.mem_range.mpr ?_, by rw [hj]; rfl⟩, ?_⟩))⟩
    · rcases Nat.lt_or_ge j ls.length with q | q
      · exact q
      · rw [List.getElem?_eq_none q] at hj; cases hj
    · have e1 : (j == i) = false := by simp; exact fun e => hij e.symm
      have e2 : ((q_cv ω w).category == 2) = false := by rw [q_cv_cat, hw]; rfl
      simp [e1, e2]
/-! the judgements -/
def q_gw : List Cond := lw_tbl.filter goodWord
theorem q_in {w : Cond} (h : w ∈ lw_tbl) (hg : goodWord w = true) : w ∈ q_gw := List.mem_filter.mpr ⟨h, hg⟩
theorem q_good : GoodIn lw_tbl q_gw := fun w hw => ⟨(List.mem_filter.mp hw).1, good_of_word (List.mem_filter.mp hw).2⟩
theorem q_good2 : GoodIn q_gw q_gw := fun w hw => ⟨hw, good_of_word (List.mem_filter.mp hw).2⟩
abbrev q_ws (k : q_MI) : List Cond := Cond.code k.1 k.2.1 k.2.2.1 k.2.2.2.1 :: q_gw
abbrev q_rm (k : q_MI) : Room := { frames := k.2.2.2.2.1, cells := 0, slots := 0, locals := k.2.2.2.2.2 }
def q_Pc (ω : q_Om) (as : List Value) (I : q_Mem) : Array Value → State → Prop := fun v U => v = (as.map (q_cv ω)).toArray ∧ va_P (q_D ω) vwCl (q_P ω I) U.heap ∧ va_K (q_D ω) vwCl (q_tys ω) U ∧ va_D (q_A ω) (q_P ω I) ∧ q_Od ω U U.heap
def q_Qc (ω : q_Om) (Q : Option Value → q_Mem → Prop) : Array Value → State → Outcome → State → Prop := fun _ st o t => (∃ (v : Option Value) (J : q_Mem), o = .returned (v.map (q_cv ω)) ∧ Q v J ∧ va_P (q_D ω) vwCl (q_P ω J) t.heap) ∧ va_F (q_A ω) st t
def q_M (k : q_MI) (as : List Value) (I : q_Mem) (Q : Option Value → q_Mem → Prop) : Prop := ∀ (ω : q_Om) (l : Launch), Met l k.1 (q_ws k) (q_rm k) (q_Pc ω as I) (q_Qc ω Q) 0 0 (q_A ω)
def q_Rt (cc : ByteArray) (ret : Option FieldType) (pc : Nat) (v : Option Value) : Prop :=
  (v = none ∧ ret = none ∧ decode cc pc = .ok (.return_, 1)) ∨ (∃ (x : Int32) (ty : FieldType), v = some (.int x) ∧ ret = some ty ∧ narrow ty (.int x) = .int x ∧ decode cc pc = .ok (.ireturn, 1)) ∨ (∃ n : String, ret = some (.object n) ∧ (v = some .null ∨ ∃ a : Nat, v = some (.ref a)) ∧ decode cc pc = .ok (.areturn, 1))
abbrev q_Cx (ω : q_Om) (k : q_MI) (nL : Nat) (p : Program) (R : Room) (s : State) (m : MethodId) (args : Array Value) (c : Code) (cells slots : Nat) : Prop :=
  p.tables.exec = Jvm.exec ∧ c.code = k.2.1 ∧ c.maxLocals = nL ∧ s.vm.findClass k.1.cls = some m.cls ∧ (∀ w ∈ q_gw, w.before args s = true) ∧ va_K (q_D ω) vwCl (q_tys ω) s ∧ va_D (q_A ω) (q_P ω (fun _ _ => 0)) ∧ q_Od ω s s.heap ∧ k.2.2.2.2.1 ≤ R.frames ∧ k.2.2.2.2.2 ≤ R.locals ∧ cells ≤ R.cells ∧ slots ≤ R.slots
def q_X (k : q_MI) (pc : Nat) (ls : List (Option Value)) (st : List Value) (I : q_Mem) (Q : Option Value → q_Mem → Prop) : Prop :=
  ∀ (ω : q_Om) (p : Program) (l : Launch) (e : Env) (R : Room) (s : State) (m : MethodId) (args : Array Value) (below : List Frame) (meth : Method) (c : Code) (cells slots : Nat) (QZ : State → Prop), q_Cx ω k ls.length p R s m args c cells slots →
    (∀ (pc' : Nat) (LS' : Array Slot) (H' : Heap) (locs' : List Loc) (v : Option Value) (J : q_Mem), q_Rt k.2.1 k.2.2.2.1 pc' v → Q v J → va_P (q_D ω) vwCl (q_P ω J) H' → va_S (q_A ω) s.heap H' locs' → W p l e R s m args below meth c H' locs' cells slots QZ (F0 m pc' LS' (v.toList.map (q_cv ω)))) →
    ∀ (H : Heap) (locs : List Loc) (LS : Array Slot), q_LH ω LS ls → va_P (q_D ω) vwCl (q_P ω I) H → va_S (q_A ω) s.heap H locs → W p l e R s m args below meth c H locs cells slots QZ (F0 m pc LS (st.map (q_cv ω)))
theorem q_vD {ω : q_Om} {I J : q_Mem} (h : va_D (q_A ω) (q_P ω I)) : va_D (q_A ω) (q_P ω J) := by
  have hx : ∀ (k : Nat) (q : Nat × va_E), (q_P ω J)[k]? = some q → ∃ q', (q_P ω I)[k]? = some q' ∧ q'.1 = q.1 := by
    intro k q hq
    have hk : k < 356 := by
      rcases Nat.lt_or_ge k 356 with z | z
      · exact z
      · rw [List.getElem?_eq_none (by simp [q_P]; omega)] at hq; cases hq
    rw [q_P_get hk] at hq
    cases hq
    exact ⟨_, q_P_get hk, rfl⟩
  refine ⟨fun i j p q hi hj e => ?_, fun k q hq => ?_⟩
  · obtain ⟨p', hp', e1⟩ := hx i p hi
    obtain ⟨q', hq', e2⟩ := hx j q hj
    exact h.1 i j p' q' hp' hq' (e1.trans (e.trans e2.symm))
  · obtain ⟨q', hq', e1⟩ := hx k q hq
    rw [← e1]
    exact h.2 k q' hq'
