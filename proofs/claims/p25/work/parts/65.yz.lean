/-! TWO FURTHER JUDGEMENTS over one layout: y for the law (its script; what it calls may make cells), z behind the making of an array -/
/-- .. the cells of a layout serve another one that has the same -/
theorem lay_ro : ∀ k, k < 356 → ∀ j, j < 14 → (match q_ro (q_kd k) j with | some d => decide (k + d < 356) | none => true) = true := by decide +kernel
theorem lay_el : ∀ k, k < 356 → 12 ≤ q_kd k → ∀ i, i < 30 → i < q_ln k → q_el (q_kd k) k i < 356 := by decide +kernel
theorem lay_kd : ∀ k, k < 356 → (q_kd k < 6 → q_nf (q_kd k) ≤ 14) ∧ (12 ≤ q_kd k → q_ln k ≤ 30) := by decide +kernel
theorem q_Pl {ω : q_Om} {I : q_Mem} {k : Nat} {q : Nat × va_E} (h : (q_P ω I)[k]? = some q) : k < 356 := by
  have := (List.getElem?_eq_some_iff.mp h).1
  simpa [q_P] using this
theorem q_P_mv {ω ω' : q_Om} {D : va_G} {I : q_Mem} {H : Heap} (hca : ∀ k, q_ca ω' k = q_ca ω k) (had : ∀ k, k < 356 → q_ad ω' k = q_ad ω k) (h : va_P D vwCl (q_P ω I) H) : va_P D vwCl (q_P ω' I) H := by
  intro k q hq
  have hk := q_Pl hq
  rw [q_P_get hk] at hq
  cases hq
  have h1 := h k _ (q_P_get hk)
  rw [had k hk]
  by_cases h6 : q_kd k < 6
  · have e : q_cell ω' I k = q_cell ω I k := by
      unfold q_cell
      rw [if_pos h6, if_pos h6]
      refine congrArg (fun l => Sum.inr (q_kd k, l)) (List.map_congr_left (fun j hj => ?_))
      have hj := List.mem_range.mp hj
      have := lay_ro k hk j (Nat.lt_of_lt_of_le hj ((lay_kd k hk).1 h6))
      unfold q_fv
      cases e : q_ro (q_kd k) j with
      | none => rfl
      | some d =>
        rw [e] at this
        show Value.ref (q_ad ω' (k + d)) = Value.ref (q_ad ω (k + d))
        rw [had _ (of_decide_eq_true this)]
    rw [e]; exact h1
  · by_cases h12 : q_kd k < 12
    · have e : q_cell ω' I k = q_cell ω I k := by
        unfold q_cell
        rw [if_neg h6, if_neg h6, if_pos h12, if_pos h12, hca]
      rw [e]; exact h1
    · have e1 : ∀ ω, q_cell ω I k = .inl (q_ca ω (q_kd k), q_ln k, .inr (.inr (.inr (.inr (fun i => some (q_ad ω (q_el (q_kd k) k i))))))) := fun ω => by
        unfold q_cell
        rw [if_neg h6, if_neg h12]
      rw [e1] at h1 ⊢
      rw [hca]
      have e : vp_cell (q_ca ω (q_kd k)) (q_ln k, .inr (.inr (.inr (.inr (fun i => some (q_ad ω' (q_el (q_kd k) k i))))))) = vp_cell (q_ca ω (q_kd k)) (q_ln k, .inr (.inr (.inr (.inr (fun i => some (q_ad ω (q_el (q_kd k) k i))))))) := by
        show arrV (q_ca ω (q_kd k)) (q_ln k) (fun j => va_rf (some (q_ad ω' (q_el (q_kd k) k j)))) = arrV (q_ca ω (q_kd k)) (q_ln k) (fun j => va_rf (some (q_ad ω (q_el (q_kd k) k j))))
        unfold arrV
        congr 1
        apply Array.ext
        · simp
        · intro i h1 h2
          simp only [Array.getElem_ofFn]
          have hi : i < q_ln k := by simpa using h1
          rw [had _ (lay_el k hk (by omega) i (Nat.lt_of_lt_of_le hi ((lay_kd k hk).2 (by omega))) hi)]
      show H[q_ad ω k]? = some (vp_cell _ _)
      rw [e]
      exact h1
/-- a contract of a method that may make cells -/
def q_MN (ω : q_Om) (k : q_MI) (mc ms : Nat) (as : List Value) (I : q_Mem) (Q : Option Value → q_Mem → Prop) : Prop := ∀ (l : Launch), Met l k.1 (q_ws k) { frames := k.2.2.2.2.1, cells := mc, slots := ms, locals := k.2.2.2.2.2 } (q_Pc ω as I) (q_Qc ω Q) mc ms (q_A ω)
/-- the law's judgement: N arrays of six may still be made -/
def q_Y (ω : q_Om) (k : q_MI) (N : Nat) (pc : Nat) (ls : List (Option Value)) (st : List Value) (I : q_Mem) (Q : Option Value → q_Mem → Prop) : Prop :=
  ∀ (p : Program) (l : Launch) (e : Env) (R : Room) (s : State) (m : MethodId) (args : Array Value) (below : List Frame) (meth : Method) (c : Code) (cells slots : Nat) (QZ : State → Prop), q_Cx ω k ls.length p R s m args c cells slots → (cells + N ≤ R.cells ∧ slots + 6 * N ≤ R.slots) →
    (∀ (cells' slots' : Nat) (pc' : Nat) (LS' : Array Slot) (H' : Heap) (locs' : List Loc) (v : Option Value) (J : q_Mem), cells' ≤ R.cells → slots' ≤ R.slots → q_Rt k.2.1 k.2.2.2.1 pc' v → Q v J → va_P (q_D ω) vwCl (q_P ω J) H' → va_S (q_A ω) s.heap H' locs' → W p l e R s m args below meth c H' locs' cells' slots' QZ (F0 m pc' LS' (v.toList.map (q_cv ω)))) →
    ∀ (H : Heap) (locs : List Loc) (LS : Array Slot), q_LH ω LS ls → va_P (q_D ω) vwCl (q_P ω I) H → va_S (q_A ω) s.heap H locs → W p l e R s m args below meth c H locs cells slots QZ (F0 m pc LS (st.map (q_cv ω)))
/-- the array that is made: cell 356 -/
def tld (ω : q_Om) (T : Nat → Int32) : Nat × va_E := (q_ad ω 356, .inl (q_ca ω 10, 6, .inl T))
def q_ZT (ω : q_Om) : Prop := va_D (q_A ω) (q_P ω (fun _ _ => 0) ++ [tld ω (fun _ => 0)])
def q_Z (ω : q_Om) (k : q_MI) (pc : Nat) (ls : List (Option Value)) (st : List Value) (I : q_Mem) (T : Nat → Int32) (Q : Option Value → q_Mem → Prop) : Prop :=
  ∀ (p : Program) (l : Launch) (e : Env) (R : Room) (s : State) (m : MethodId) (args : Array Value) (below : List Frame) (meth : Method) (c : Code) (cells slots : Nat) (QZ : State → Prop), q_Cx ω k ls.length p R s m args c cells slots → q_ZT ω →
    (∀ (pc' : Nat) (LS' : Array Slot) (H' : Heap) (locs' : List Loc) (v : Option Value) (J : q_Mem) (T' : Nat → Int32), q_Rt k.2.1 k.2.2.2.1 pc' v → Q v J → va_P (q_D ω) vwCl (q_P ω J ++ [tld ω T']) H' → va_S (q_A ω) s.heap H' locs' → W p l e R s m args below meth c H' locs' cells slots QZ (F0 m pc' LS' (v.toList.map (q_cv ω)))) →
    ∀ (H : Heap) (locs : List Loc) (LS : Array Slot), q_LH ω LS ls → va_P (q_D ω) vwCl (q_P ω I ++ [tld ω T]) H → va_S (q_A ω) s.heap H locs → W p l e R s m args below meth c H locs cells slots QZ (F0 m pc LS (st.map (q_cv ω)))
section y_rules
variable {ω : q_Om} {N : Nat} {k : q_MI} {pc : Nat} {ls : List (Option Value)} {st : List Value} {I : q_Mem} {Q : Option Value → q_Mem → Prop}
theorem y_imul {x y : Int32} (hd : decode k.2.1 pc = .ok (.imul, 1)) (kk : q_Y ω k N (pc + 1) ls (.int (x * y) :: st) I Q) : q_Y ω k N pc ls (.int y :: .int x :: st) I Q := by
  intro p l e R s m args below meth c cells slots QZ hC hN hR H locs LS hL hP hS
  exact lv_imul hC.1 hC.2.1 hd (kk p l e R s m args below meth c cells slots QZ hC hN hR H locs LS hL hP hS)
theorem y_sipush {n : Int} {v : Int32} (hd : decode k.2.1 pc = .ok (.sipush n, 3)) (hv : (Int16.ofInt n).toInt32 = v) (kk : q_Y ω k N (pc + 3) ls (.int v :: st) I Q) : q_Y ω k N pc ls st I Q := by
  intro p l e R s m args below meth c cells slots QZ hC hN hR H locs LS hL hP hS
  exact lv_sipush hC.1 hC.2.1 hd hv (kk p l e R s m args below meth c cells slots QZ hC hN hR H locs LS hL hP hS)
theorem y_isub {x y : Int32} (hd : decode k.2.1 pc = .ok (.isub, 1)) (kk : q_Y ω k N (pc + 1) ls (.int (x - y) :: st) I Q) : q_Y ω k N pc ls (.int y :: .int x :: st) I Q := by
  intro p l e R s m args below meth c cells slots QZ hC hN hR H locs LS hL hP hS
  exact lv_isub hC.1 hC.2.1 hd (kk p l e R s m args below meth c cells slots QZ hC hN hR H locs LS hL hP hS)
theorem y_iconst {n : Int} {v : Int32} (hd : decode k.2.1 pc = .ok (.iconst n, 1)) (hv : Int32.ofInt n = v) (kk : q_Y ω k N (pc + 1) ls (.int v :: st) I Q) : q_Y ω k N pc ls st I Q := by
  intro p l e R s m args below meth c cells slots QZ hC hN hR H locs LS hL hP hS
  exact lv_iconst hC.1 hC.2.1 hd hv (kk p l e R s m args below meth c cells slots QZ hC hN hR H locs LS hL hP hS)
theorem y_bipush {n : Int} {v : Int32} (hd : decode k.2.1 pc = .ok (.bipush n, 2)) (hv : (Int8.ofInt n).toInt32 = v) (kk : q_Y ω k N (pc + 2) ls (.int v :: st) I Q) : q_Y ω k N pc ls st I Q := by
  intro p l e R s m args below meth c cells slots QZ hC hN hR H locs LS hL hP hS
  exact lv_bipush hC.1 hC.2.1 hd hv (kk p l e R s m args below meth c cells slots QZ hC hN hR H locs LS hL hP hS)
theorem y_ldc {index : Nat} {v : Int32} (hc : q_wd (Jvm.Cond.constant k.1.cls index v)) (hd : decode k.2.1 pc = .ok (.ldc index, 2)) (kk : q_Y ω k N (pc + 2) ls (.int v :: st) I Q) : q_Y ω k N pc ls st I Q := by
  intro p l e R s m args below meth c cells slots QZ hC hN hR H locs LS hL hP hS
  exact lv_ldc hC.1 hC.2.1 hC.2.2.2.1 (hC.2.2.2.2.1 _ (q_in hc.1 hc.2)) hd (kk p l e R s m args below meth c cells slots QZ hC hN hR H locs LS hL hP hS)
theorem y_iload_n {j : Fin 4} {x : Int32} (hd : decode k.2.1 pc = .ok (.iload_n j, 1)) (hl : ls[(j : Nat)]? = some (some (.int x))) (kk : q_Y ω k N (pc + 1) ls (.int x :: st) I Q) : q_Y ω k N pc ls st I Q := by
  intro p l e R s m args below meth c cells slots QZ hC hN hR H locs LS hL hP hS
  exact lv_iload_n hC.1 hC.2.1 hd rfl (hL.2.2 _ _ hl).2 (kk p l e R s m args below meth c cells slots QZ hC hN hR H locs LS hL hP hS)
theorem y_iload {i : Nat} {x : Int32} (hd : decode k.2.1 pc = .ok (.iload i, 2)) (hl : ls[i]? = some (some (.int x))) (kk : q_Y ω k N (pc + 2) ls (.int x :: st) I Q) : q_Y ω k N pc ls st I Q := by
  intro p l e R s m args below meth c cells slots QZ hC hN hR H locs LS hL hP hS
  exact lv_iload hC.1 hC.2.1 hd (hL.2.2 _ _ hl).2 (kk p l e R s m args below meth c cells slots QZ hC hN hR H locs LS hL hP hS)
theorem y_aload_n {j : Fin 4} {a : Nat} (hd : decode k.2.1 pc = .ok (.aload_n j, 1)) (hl : ls[(j : Nat)]? = some (some (.ref a))) (kk : q_Y ω k N (pc + 1) ls (.ref a :: st) I Q) : q_Y ω k N pc ls st I Q := by
  intro p l e R s m args below meth c cells slots QZ hC hN hR H locs LS hL hP hS
  exact lv_aload_n hC.1 hC.2.1 hd rfl (hL.2.2 _ _ hl).2 (kk p l e R s m args below meth c cells slots QZ hC hN hR H locs LS hL hP hS)
theorem y_istore_n {j : Fin 4} {x : Int32} {ls' : List (Option Value)} (hd : decode k.2.1 pc = .ok (.istore_n j, 1)) (hi : (j : Nat) < ls.length) (hl : ls.set (j : Nat) (some (.int x)) = ls') (kk : q_Y ω k N (pc + 1) ls' st I Q) : q_Y ω k N pc ls (.int x :: st) I Q := by
  intro p l e R s m args below meth c cells slots QZ hC hN hR H locs LS hL hP hS
  subst hl
  exact lv_istore_n hC.1 hC.2.1 hd rfl hL.has hi rfl (fun LS' h' => kk p l e R s m args below meth c cells slots QZ (hC.len (by rw [List.length_set])) hN hR H locs LS' (hL.store rfl hi h') hP hS)
theorem y_istore {i : Nat} {x : Int32} {ls' : List (Option Value)} (hd : decode k.2.1 pc = .ok (.istore i, 2)) (hi : i < ls.length) (hl : ls.set i (some (.int x)) = ls') (kk : q_Y ω k N (pc + 2) ls' st I Q) : q_Y ω k N pc ls (.int x :: st) I Q := by
  intro p l e R s m args below meth c cells slots QZ hC hN hR H locs LS hL hP hS
  subst hl
  exact lv_istore hC.1 hC.2.1 hd hL.has hi rfl (fun LS' h' => kk p l e R s m args below meth c cells slots QZ (hC.len (by rw [List.length_set])) hN hR H locs LS' (hL.store rfl hi h') hP hS)
theorem y_astore_n {j : Fin 4} {a : Nat} {ls' : List (Option Value)} (hd : decode k.2.1 pc = .ok (.astore_n j, 1)) (hi : (j : Nat) < ls.length) (hl : ls.set (j : Nat) (some (.ref a)) = ls') (kk : q_Y ω k N (pc + 1) ls' st I Q) : q_Y ω k N pc ls (.ref a :: st) I Q := by
  intro p l e R s m args below meth c cells slots QZ hC hN hR H locs LS hL hP hS
  subst hl
  exact lv_astore_n hC.1 hC.2.1 hd rfl hL.has hi rfl (fun LS' h' => kk p l e R s m args below meth c cells slots QZ (hC.len (by rw [List.length_set])) hN hR H locs LS' (hL.store rfl hi h') hP hS)
theorem y_iadd {x y : Int32} (hd : decode k.2.1 pc = .ok (.iadd, 1)) (kk : q_Y ω k N (pc + 1) ls (.int (x + y) :: st) I Q) : q_Y ω k N pc ls (.int y :: .int x :: st) I Q := by
  intro p l e R s m args below meth c cells slots QZ hC hN hR H locs LS hL hP hS
  exact lv_iadd hC.1 hC.2.1 hd (kk p l e R s m args below meth c cells slots QZ hC hN hR H locs LS hL hP hS)
theorem y_ior {x y : Int32} (hd : decode k.2.1 pc = .ok (.ior, 1)) (kk : q_Y ω k N (pc + 1) ls (.int (x ||| y) :: st) I Q) : q_Y ω k N pc ls (.int y :: .int x :: st) I Q := by
  intro p l e R s m args below meth c cells slots QZ hC hN hR H locs LS hL hP hS
  exact lv_ior hC.1 hC.2.1 hd (kk p l e R s m args below meth c cells slots QZ hC hN hR H locs LS hL hP hS)
theorem y_iand {x y : Int32} (hd : decode k.2.1 pc = .ok (.iand, 1)) (kk : q_Y ω k N (pc + 1) ls (.int (x &&& y) :: st) I Q) : q_Y ω k N pc ls (.int y :: .int x :: st) I Q := by
  intro p l e R s m args below meth c cells slots QZ hC hN hR H locs LS hL hP hS
  exact lv_iand hC.1 hC.2.1 hd (kk p l e R s m args below meth c cells slots QZ hC hN hR H locs LS hL hP hS)
theorem y_ishl {x y : Int32} (hd : decode k.2.1 pc = .ok (.ishl, 1)) (kk : q_Y ω k N (pc + 1) ls (.int (x <<< (y &&& 31)) :: st) I Q) : q_Y ω k N pc ls (.int y :: .int x :: st) I Q := by
  intro p l e R s m args below meth c cells slots QZ hC hN hR H locs LS hL hP hS
  exact lv_ishl hC.1 hC.2.1 hd (kk p l e R s m args below meth c cells slots QZ hC hN hR H locs LS hL hP hS)
theorem y_ishr {x y : Int32} (hd : decode k.2.1 pc = .ok (.ishr, 1)) (kk : q_Y ω k N (pc + 1) ls (.int (x >>> (y &&& 31)) :: st) I Q) : q_Y ω k N pc ls (.int y :: .int x :: st) I Q := by
  intro p l e R s m args below meth c cells slots QZ hC hN hR H locs LS hL hP hS
  exact lv_ishr hC.1 hC.2.1 hd (kk p l e R s m args below meth c cells slots QZ hC hN hR H locs LS hL hP hS)
theorem y_irem {x y : Int32} (hd : decode k.2.1 pc = .ok (.irem, 1)) (hne : ¬ y = 0) (kk : q_Y ω k N (pc + 1) ls (.int (x - x / y * y) :: st) I Q) : q_Y ω k N pc ls (.int y :: .int x :: st) I Q := by
  intro p l e R s m args below meth c cells slots QZ hC hN hR H locs LS hL hP hS
  exact lv_irem hC.1 hC.2.1 hd hne (kk p l e R s m args below meth c cells slots QZ hC hN hR H locs LS hL hP hS)
theorem y_goto {off : Int} {tgt : Nat} (hd : decode k.2.1 pc = .ok (.goto off, 3)) (ht : (pc : Int) + off = (tgt : Int)) (kk : q_Y ω k N tgt ls st I Q) : q_Y ω k N pc ls st I Q := by
  intro p l e R s m args below meth c cells slots QZ hC hN hR H locs LS hL hP hS
  exact lv_goto hC.1 hC.2.1 hd ht (kk p l e R s m args below meth c cells slots QZ hC hN hR H locs LS hL hP hS)
theorem y_iinc {i : Nat} {n : Int} {x v : Int32} {ls' : List (Option Value)} (hd : decode k.2.1 pc = .ok (.iinc i n, 3)) (hx : ls[i]? = some (some (.int x))) (hv : x + Int32.ofInt n = v) (hl : ls.set i (some (.int v)) = ls') (kk : q_Y ω k N (pc + 3) ls' st I Q) : q_Y ω k N pc ls st I Q := by
  intro p l e R s m args below meth c cells slots QZ hC hN hR H locs LS hL hP hS
  subst hl
  have hi : i < ls.length := by
    rcases Nat.lt_or_ge i ls.length with q | q
    · exact q
    · rw [List.getElem?_eq_none q] at hx; cases hx
  have hm : (i, q_cv ω (.int x)) ∈ q_lp ω ls := List.mem_filterMap.mpr ⟨i, List.mem_range.mpr hi, by rw [hx]; rfl⟩
  obtain ⟨kx, hk⟩ := List.getElem?_of_mem hm
  exact lv_iinc hC.1 hC.2.1 hd hL.has hk hv hi rfl (fun LS' h' => kk p l e R s m args below meth c cells slots QZ (hC.len (by rw [List.length_set])) hN hR H locs LS' (hL.store rfl hi h') hP hS)
theorem y_icmp_eq {x y : Int32} {off : Int} {tgt : Nat} (hd : decode k.2.1 pc = .ok (.if_icmp .eq off, 3)) (ht : (pc : Int) + off = (tgt : Int)) (kt : x = y → q_Y ω k N tgt ls st I Q) (kf : ¬ x = y → q_Y ω k N (pc + 3) ls st I Q) : q_Y ω k N pc ls (.int y :: .int x :: st) I Q := by
  intro p l e R s m args below meth c cells slots QZ hC hN hR H locs LS hL hP hS
  exact lv_icmp_eq hC.1 hC.2.1 hd ht (fun q => kt q p l e R s m args below meth c cells slots QZ hC hN hR H locs LS hL hP hS) (fun q => kf q p l e R s m args below meth c cells slots QZ hC hN hR H locs LS hL hP hS)
theorem y_icmp_ne {x y : Int32} {off : Int} {tgt : Nat} (hd : decode k.2.1 pc = .ok (.if_icmp .ne off, 3)) (ht : (pc : Int) + off = (tgt : Int)) (kt : ¬ x = y → q_Y ω k N tgt ls st I Q) (kf : x = y → q_Y ω k N (pc + 3) ls st I Q) : q_Y ω k N pc ls (.int y :: .int x :: st) I Q := by
  intro p l e R s m args below meth c cells slots QZ hC hN hR H locs LS hL hP hS
  exact lv_icmp_ne hC.1 hC.2.1 hd ht (fun q => kt q p l e R s m args below meth c cells slots QZ hC hN hR H locs LS hL hP hS) (fun q => kf q p l e R s m args below meth c cells slots QZ hC hN hR H locs LS hL hP hS)
theorem y_icmp_ge {x y : Int32} {off : Int} {tgt : Nat} (hd : decode k.2.1 pc = .ok (.if_icmp .ge off, 3)) (ht : (pc : Int) + off = (tgt : Int)) (kt : y ≤ x → q_Y ω k N tgt ls st I Q) (kf : ¬ y ≤ x → q_Y ω k N (pc + 3) ls st I Q) : q_Y ω k N pc ls (.int y :: .int x :: st) I Q := by
  intro p l e R s m args below meth c cells slots QZ hC hN hR H locs LS hL hP hS
  exact lv_icmp_ge hC.1 hC.2.1 hd ht (fun q => kt q p l e R s m args below meth c cells slots QZ hC hN hR H locs LS hL hP hS) (fun q => kf q p l e R s m args below meth c cells slots QZ hC hN hR H locs LS hL hP hS)
theorem y_icmp_geN {a b : Nat} {off : Int} {tgt : Nat} (ha : a < 2 ^ 31) (hb : b < 2 ^ 31) (hd : decode k.2.1 pc = .ok (.if_icmp .ge off, 3)) (ht : (pc : Int) + off = (tgt : Int)) (kt : b ≤ a → q_Y ω k N tgt ls st I Q) (kf : a < b → q_Y ω k N (pc + 3) ls st I Q) : q_Y ω k N pc ls (.int (nI b) :: .int (nI a) :: st) I Q :=
  y_icmp_ge hd ht (fun q => kt ((nI_leI hb ha).mp q)) (fun q => kf (Nat.not_le.mp (fun z => q ((nI_leI hb ha).mpr z))))
theorem y_icmp_neN {a b : Nat} {off : Int} {tgt : Nat} (ha : a < 2 ^ 31) (hb : b < 2 ^ 31) (hd : decode k.2.1 pc = .ok (.if_icmp .ne off, 3)) (ht : (pc : Int) + off = (tgt : Int)) (kt : ¬ a = b → q_Y ω k N tgt ls st I Q) (kf : a = b → q_Y ω k N (pc + 3) ls st I Q) : q_Y ω k N pc ls (.int (nI b) :: .int (nI a) :: st) I Q :=
  y_icmp_ne hd ht (fun q => kt (fun z => q ((nI_eq ha hb).mpr z))) (fun q => kf ((nI_eq ha hb).mp q))
theorem y_icmp_eqN {a b : Nat} {off : Int} {tgt : Nat} (ha : a < 2 ^ 31) (hb : b < 2 ^ 31) (hd : decode k.2.1 pc = .ok (.if_icmp .eq off, 3)) (ht : (pc : Int) + off = (tgt : Int)) (kt : a = b → q_Y ω k N tgt ls st I Q) (kf : ¬ a = b → q_Y ω k N (pc + 3) ls st I Q) : q_Y ω k N pc ls (.int (nI b) :: .int (nI a) :: st) I Q :=
  y_icmp_eq hd ht (fun q => kt ((nI_eq ha hb).mp q)) (fun q => kf (fun z => q ((nI_eq ha hb).mpr z)))
theorem y_if_eq {x : Int32} {off : Int} {tgt : Nat} (hd : decode k.2.1 pc = .ok (.ifCond .eq off, 3)) (ht : (pc : Int) + off = (tgt : Int)) (kt : x = 0 → q_Y ω k N tgt ls st I Q) (kf : ¬ x = 0 → q_Y ω k N (pc + 3) ls st I Q) : q_Y ω k N pc ls (.int x :: st) I Q := by
  intro p l e R s m args below meth c cells slots QZ hC hN hR H locs LS hL hP hS
  exact lv_if_eq hC.1 hC.2.1 hd ht (fun q => kt q p l e R s m args below meth c cells slots QZ hC hN hR H locs LS hL hP hS) (fun q => kf q p l e R s m args below meth c cells slots QZ hC hN hR H locs LS hL hP hS)
theorem y_if_ne {x : Int32} {off : Int} {tgt : Nat} (hd : decode k.2.1 pc = .ok (.ifCond .ne off, 3)) (ht : (pc : Int) + off = (tgt : Int)) (kt : ¬ x = 0 → q_Y ω k N tgt ls st I Q) (kf : x = 0 → q_Y ω k N (pc + 3) ls st I Q) : q_Y ω k N pc ls (.int x :: st) I Q := by
  intro p l e R s m args below meth c cells slots QZ hC hN hR H locs LS hL hP hS
  exact lv_if_ne hC.1 hC.2.1 hd ht (fun q => kt q p l e R s m args below meth c cells slots QZ hC hN hR H locs LS hL hP hS) (fun q => kf q p l e R s m args below meth c cells slots QZ hC hN hR H locs LS hL hP hS)
theorem y_if_lt {x : Int32} {off : Int} {tgt : Nat} (hd : decode k.2.1 pc = .ok (.ifCond .lt off, 3)) (ht : (pc : Int) + off = (tgt : Int)) (kt : x < 0 → q_Y ω k N tgt ls st I Q) (kf : ¬ x < 0 → q_Y ω k N (pc + 3) ls st I Q) : q_Y ω k N pc ls (.int x :: st) I Q := by
  intro p l e R s m args below meth c cells slots QZ hC hN hR H locs LS hL hP hS
  exact lv_if_lt hC.1 hC.2.1 hd ht (fun q => kt q p l e R s m args below meth c cells slots QZ hC hN hR H locs LS hL hP hS) (fun q => kf q p l e R s m args below meth c cells slots QZ hC hN hR H locs LS hL hP hS)
theorem y_if_eqN {a : Nat} {off : Int} {tgt : Nat} (ha : a < 2 ^ 31) (hd : decode k.2.1 pc = .ok (.ifCond .eq off, 3)) (ht : (pc : Int) + off = (tgt : Int)) (kt : a = 0 → q_Y ω k N tgt ls st I Q) (kf : ¬ a = 0 → q_Y ω k N (pc + 3) ls st I Q) : q_Y ω k N pc ls (.int (nI a) :: st) I Q := by
  have hb : (0 : Nat) < 2 ^ 31 := by decide
  exact y_if_eq hd ht (fun q => kt ((nI_eq ha hb).mp q)) (fun q => kf (fun z => q ((nI_eq ha hb).mpr z)))
theorem y_if_neN {a : Nat} {off : Int} {tgt : Nat} (ha : a < 2 ^ 31) (hd : decode k.2.1 pc = .ok (.ifCond .ne off, 3)) (ht : (pc : Int) + off = (tgt : Int)) (kt : ¬ a = 0 → q_Y ω k N tgt ls st I Q) (kf : a = 0 → q_Y ω k N (pc + 3) ls st I Q) : q_Y ω k N pc ls (.int (nI a) :: st) I Q := by
  have hb : (0 : Nat) < 2 ^ 31 := by decide
  exact y_if_ne hd ht (fun q => kt (fun z => q ((nI_eq ha hb).mpr z))) (fun q => kf ((nI_eq ha hb).mp q))
theorem y_if_ltN {a : Nat} {off : Int} {tgt : Nat} (ha : a < 2 ^ 31) (hd : decode k.2.1 pc = .ok (.ifCond .lt off, 3)) (ht : (pc : Int) + off = (tgt : Int)) (kt : a < 0 → q_Y ω k N tgt ls st I Q) (kf : 0 ≤ a → q_Y ω k N (pc + 3) ls st I Q) : q_Y ω k N pc ls (.int (nI a) :: st) I Q := by
  have hb : (0 : Nat) < 2 ^ 31 := by decide
  exact y_if_lt hd ht (fun q => kt ((nI_ltI ha hb).mp q)) (fun q => kf (Nat.not_lt.mp (fun z => q ((nI_ltI ha hb).mpr z))))
theorem y_iret {x : Int32} {ty : FieldType} (hr : k.2.2.2.1 = some ty) (hn : narrow ty (.int x) = .int x) (hd : decode k.2.1 pc = .ok (.ireturn, 1)) (hQ : Q (some (.int x)) I) : q_Y ω k N pc ls [.int x] I Q := by
  intro p l e R s m args below meth c cells slots QZ hC hN hR H locs LS hL hP hS
  exact hR cells slots pc LS H locs (some (.int x)) I (by omega) (by omega) (Or.inr (Or.inl ⟨x, ty, rfl, hr, hn, hd⟩)) hQ hP hS
theorem y_goOn {p : Program} {l : Launch} {e : Env} {R : Room} {s : State} {m : MethodId} {args : Array Value} {below : List Frame} {meth : Method} {c : Code} {H : Heap} {locs : List Loc} {cells slots mc ms : Nat} {QZ : State → Prop} {LS : Array Slot} {st0 rest : List Value} {a : Array Value} {Qc : Option Value → q_Mem → Prop} (hr : va_Run p l e R s m args below meth c H locs cells slots mc ms (F0 m pc LS st0) rest (q_Qc ω Qc a) (q_A ω)) (hS : va_S (q_A ω) s.heap H locs)
    (kk : ∀ (v : Option Value) (J : q_Mem) (H1 : Heap) (locs1 : List Loc), Qc v J → va_P (q_D ω) vwCl (q_P ω J) H1 → va_S (q_A ω) s.heap H1 locs1 → W p l e R s m args below meth c H1 locs1 (cells + mc) (slots + ms) QZ (F0 m (pc + 3) LS (v.toList.map (q_cv ω) ++ rest))) : W p l e R s m args below meth c H locs cells slots QZ (F0 m pc LS st0) := by
  intro T hT X
  obtain ⟨v, st₀, t, T', L, h0, X', hL, e1, e2, ⟨⟨v', J, hv, hp, hb⟩, hz, hk⟩, st⟩ := hr T hT X
  cases hv
  rw [h0] at hz hk
  obtain ⟨t2, a1, b1⟩ := kk v' J T'.heap (locs ++ L) hp (by rw [e1]; exact hb) ⟨Nat.le_trans hS.1 (by rw [e1]; exact hz), fun q h1 h2 => by rw [e1, hk q (Nat.lt_of_lt_of_le h1 hS.1) h2]; exact hS.2.1 q h1 h2, fun q hq => by
      rcases List.mem_append.mp hq with h | h
      · exact hS.2.2 q h
      · exact hL q h⟩ T' rfl X'
  have e9 : (v'.map (q_cv ω)).toList = v'.toList.map (q_cv ω) := by cases v' <;> rfl
  rw [← e9] at a1
  exact ⟨t2, st t2 a1, b1⟩
theorem y_st {ω : q_Om} {st : List Value} (hst : (st.map fun v => v.category).sum ≤ 8) : ((st.map (q_cv ω)).map fun v => v.category).sum ≤ 8 := by
  rw [List.map_map]
  have : ((fun v : Value => v.category) ∘ q_cv ω) = fun v => v.category := funext fun v => q_cv_cat ω v
  rw [this]; exact hst
theorem y_cV {kc : q_MI} {as : List Value} {b idx n : Nat} {Qc : Option Value → q_Mem → Prop} (hl : q_lkV k.1.cls idx kc n) (hm : q_M kc (.ref b :: as) I Qc) (hrc : q_rc kc.1.cls b) (hn : as.length = n) (hf : q_fit kc k) (hst : (st.map fun v => v.category).sum ≤ 8) (hd : decode k.2.1 pc = .ok (.invokevirtual idx, 3)) (kk : ∀ v J, Qc v J → q_Y ω k N (pc + 3) ls (v.toList ++ st) J Q) : q_Y ω k N pc ls (as.reverse ++ .ref b :: st) I Q := by
  intro p l e R s m args below meth c cells slots QZ hC hN hR H locs LS hL hP hS
  obtain ⟨hx, hb, hml, hown, hts, hK, hD, hO, hfr, hlo, hce, hsl⟩ := id hC
  obtain ⟨⟨h1, h2, h3, h4, h5⟩, h6, h7⟩ := hl
  have bf : ∀ {w : Cond}, q_wd w → w.before args s = true := fun h => hts _ (q_in h.1 h.2)
  rw [List.map_append, List.map_reverse, List.map_cons]
  refine y_goOn (mc := 0) (ms := 0) (Qc := Qc) (rest := st.map (q_cv ω)) (va_runV (As := as.map (q_cv ω)) (b := q_ad ω b) (rest := st.map (q_cv ω)) ⟨hx, hb, hml, hown, hts⟩ (hm ω l)
    ⟨⟨rfl, rfl, Nat.le_trans hf.1 hfr, Nat.le_trans hf.2 hlo, pay_in hts (q_gws h3), List.mem_cons_self, bf h3, bf h2, h4, q_ar h5, bf h1⟩, bf h6, bf h7⟩
    ⟨q_blind, q_recv hrc hK hP hO hS, fun U hU hW => q_pre hK hP hD hO hS U hU hW⟩ rfl (by simpa using hn) hL.1 rfl (lv_room (y_st hst)) hd ⟨hce, hsl⟩) hS (fun v J H1 locs1 hq hP1 hS1 => ?_)
  have := kk v J hq p l e R s m args below meth c cells slots QZ hC hN hR H1 locs1 LS hL hP1 hS1
  rw [List.map_append] at this
  exact this
/-- a static method of the law's own, which may make M arrays of six -/
theorem y_cSN {M : Nat} {kc : q_MI} {as : List Value} {idx n : Nat} {Qc : Option Value → q_Mem → Prop} (hl : q_lkS k.1.cls idx kc n) (hm : q_MN ω kc M (6 * M) as I Qc) (hn : as.length = n) (hf : q_fit kc k) (hst : (st.map fun v => v.category).sum ≤ 8) (hd : decode k.2.1 pc = .ok (.invokestatic idx, 3)) (kk : ∀ v J, Qc v J → q_Y ω k N (pc + 3) ls (v.toList ++ st) J Q) : q_Y ω k (N + M) pc ls (as.reverse ++ st) I Q := by
  intro p l e R s m args below meth c cells slots QZ hC hN hR H locs LS hL hP hS
  obtain ⟨hx, hb, hml, hown, hts, hK, hD, hO, hfr, hlo, hce, hsl⟩ := id hC
  obtain ⟨⟨h1, h2, h3, h4, h5⟩, h6⟩ := hl
  have bf : ∀ {w : Cond}, q_wd w → w.before args s = true := fun h => hts _ (q_in h.1 h.2)
  rw [List.map_append, List.map_reverse]
  refine y_goOn (mc := M) (ms := 6 * M) (Qc := Qc) (rest := st.map (q_cv ω)) (va_runS (As := as.map (q_cv ω)) (rest := st.map (q_cv ω)) ⟨hx, hb, hml, hown, hts⟩ (hm l)
    ⟨⟨rfl, rfl, Nat.le_trans hf.1 hfr, Nat.le_trans hf.2 hlo, pay_in hts (q_gws h3), List.mem_cons_self, bf h3, bf h2, h4, q_ar h5, bf h1⟩, bf h6⟩
    ⟨q_blind, fun U hU hW => q_pre hK hP hD hO hS U hU hW⟩ rfl (by simpa using hn) hL.1 rfl (lv_room (y_st hst)) hd ⟨by omega, by omega⟩) hS (fun v J H1 locs1 hq hP1 hS1 => ?_)
  have hC2 : q_Cx ω k ls.length p R s m args c (cells + M) (slots + 6 * M) := ⟨hx, hb, hml, hown, hts, hK, hD, hO, hfr, hlo, by omega, by omega⟩
  have := kk v J hq p l e R s m args below meth c (cells + M) (slots + 6 * M) QZ hC2 ⟨by omega, by omega⟩ hR H1 locs1 LS hL hP1 hS1
  rw [List.map_append] at this
  exact this
theorem q_M.n {kc : q_MI} {as : List Value} {I : q_Mem} {Qc : Option Value → q_Mem → Prop} (h : q_M kc as I Qc) : q_MN ω kc 0 (6 * 0) as I Qc := fun l => h ω l
theorem y_cS {kc : q_MI} {as : List Value} {idx n : Nat} {Qc : Option Value → q_Mem → Prop} (hl : q_lkS k.1.cls idx kc n) (hm : q_M kc as I Qc) (hn : as.length = n) (hf : q_fit kc k) (hst : (st.map fun v => v.category).sum ≤ 8) (hd : decode k.2.1 pc = .ok (.invokestatic idx, 3)) (kk : ∀ v J, Qc v J → q_Y ω k N (pc + 3) ls (v.toList ++ st) J Q) : q_Y ω k N pc ls (as.reverse ++ st) I Q :=
  y_cSN (M := 0) hl hm.n hn hf hst hd kk
end y_rules
section z_rules
variable {ω : q_Om} {k : q_MI} {pc : Nat} {ls : List (Option Value)} {st : List Value} {I : q_Mem} {T : Nat → Int32} {Q : Option Value → q_Mem → Prop}
theorem z_imul {x y : Int32} (hd : decode k.2.1 pc = .ok (.imul, 1)) (kk : q_Z ω k (pc + 1) ls (.int (x * y) :: st) I T Q) : q_Z ω k pc ls (.int y :: .int x :: st) I T Q := by
  intro p l e R s m args below meth c cells slots QZ hC hT hR H locs LS hL hP hS
  exact lv_imul hC.1 hC.2.1 hd (kk p l e R s m args below meth c cells slots QZ hC hT hR H locs LS hL hP hS)
theorem z_sipush {n : Int} {v : Int32} (hd : decode k.2.1 pc = .ok (.sipush n, 3)) (hv : (Int16.ofInt n).toInt32 = v) (kk : q_Z ω k (pc + 3) ls (.int v :: st) I T Q) : q_Z ω k pc ls st I T Q := by
  intro p l e R s m args below meth c cells slots QZ hC hT hR H locs LS hL hP hS
  exact lv_sipush hC.1 hC.2.1 hd hv (kk p l e R s m args below meth c cells slots QZ hC hT hR H locs LS hL hP hS)
theorem z_isub {x y : Int32} (hd : decode k.2.1 pc = .ok (.isub, 1)) (kk : q_Z ω k (pc + 1) ls (.int (x - y) :: st) I T Q) : q_Z ω k pc ls (.int y :: .int x :: st) I T Q := by
  intro p l e R s m args below meth c cells slots QZ hC hT hR H locs LS hL hP hS
  exact lv_isub hC.1 hC.2.1 hd (kk p l e R s m args below meth c cells slots QZ hC hT hR H locs LS hL hP hS)
theorem z_iconst {n : Int} {v : Int32} (hd : decode k.2.1 pc = .ok (.iconst n, 1)) (hv : Int32.ofInt n = v) (kk : q_Z ω k (pc + 1) ls (.int v :: st) I T Q) : q_Z ω k pc ls st I T Q := by
  intro p l e R s m args below meth c cells slots QZ hC hT hR H locs LS hL hP hS
  exact lv_iconst hC.1 hC.2.1 hd hv (kk p l e R s m args below meth c cells slots QZ hC hT hR H locs LS hL hP hS)
theorem z_bipush {n : Int} {v : Int32} (hd : decode k.2.1 pc = .ok (.bipush n, 2)) (hv : (Int8.ofInt n).toInt32 = v) (kk : q_Z ω k (pc + 2) ls (.int v :: st) I T Q) : q_Z ω k pc ls st I T Q := by
  intro p l e R s m args below meth c cells slots QZ hC hT hR H locs LS hL hP hS
  exact lv_bipush hC.1 hC.2.1 hd hv (kk p l e R s m args below meth c cells slots QZ hC hT hR H locs LS hL hP hS)
theorem z_ldc {index : Nat} {v : Int32} (hc : q_wd (Jvm.Cond.constant k.1.cls index v)) (hd : decode k.2.1 pc = .ok (.ldc index, 2)) (kk : q_Z ω k (pc + 2) ls (.int v :: st) I T Q) : q_Z ω k pc ls st I T Q := by
  intro p l e R s m args below meth c cells slots QZ hC hT hR H locs LS hL hP hS
  exact lv_ldc hC.1 hC.2.1 hC.2.2.2.1 (hC.2.2.2.2.1 _ (q_in hc.1 hc.2)) hd (kk p l e R s m args below meth c cells slots QZ hC hT hR H locs LS hL hP hS)
theorem z_iload_n {j : Fin 4} {x : Int32} (hd : decode k.2.1 pc = .ok (.iload_n j, 1)) (hl : ls[(j : Nat)]? = some (some (.int x))) (kk : q_Z ω k (pc + 1) ls (.int x :: st) I T Q) : q_Z ω k pc ls st I T Q := by
  intro p l e R s m args below meth c cells slots QZ hC hT hR H locs LS hL hP hS
  exact lv_iload_n hC.1 hC.2.1 hd rfl (hL.2.2 _ _ hl).2 (kk p l e R s m args below meth c cells slots QZ hC hT hR H locs LS hL hP hS)
theorem z_iload {i : Nat} {x : Int32} (hd : decode k.2.1 pc = .ok (.iload i, 2)) (hl : ls[i]? = some (some (.int x))) (kk : q_Z ω k (pc + 2) ls (.int x :: st) I T Q) : q_Z ω k pc ls st I T Q := by
  intro p l e R s m args below meth c cells slots QZ hC hT hR H locs LS hL hP hS
  exact lv_iload hC.1 hC.2.1 hd (hL.2.2 _ _ hl).2 (kk p l e R s m args below meth c cells slots QZ hC hT hR H locs LS hL hP hS)
theorem z_aload_n {j : Fin 4} {a : Nat} (hd : decode k.2.1 pc = .ok (.aload_n j, 1)) (hl : ls[(j : Nat)]? = some (some (.ref a))) (kk : q_Z ω k (pc + 1) ls (.ref a :: st) I T Q) : q_Z ω k pc ls st I T Q := by
  intro p l e R s m args below meth c cells slots QZ hC hT hR H locs LS hL hP hS
  exact lv_aload_n hC.1 hC.2.1 hd rfl (hL.2.2 _ _ hl).2 (kk p l e R s m args below meth c cells slots QZ hC hT hR H locs LS hL hP hS)
theorem z_istore_n {j : Fin 4} {x : Int32} {ls' : List (Option Value)} (hd : decode k.2.1 pc = .ok (.istore_n j, 1)) (hi : (j : Nat) < ls.length) (hl : ls.set (j : Nat) (some (.int x)) = ls') (kk : q_Z ω k (pc + 1) ls' st I T Q) : q_Z ω k pc ls (.int x :: st) I T Q := by
  intro p l e R s m args below meth c cells slots QZ hC hT hR H locs LS hL hP hS
  subst hl
  exact lv_istore_n hC.1 hC.2.1 hd rfl hL.has hi rfl (fun LS' h' => kk p l e R s m args below meth c cells slots QZ (hC.len (by rw [List.length_set])) hT hR H locs LS' (hL.store rfl hi h') hP hS)
theorem z_istore {i : Nat} {x : Int32} {ls' : List (Option Value)} (hd : decode k.2.1 pc = .ok (.istore i, 2)) (hi : i < ls.length) (hl : ls.set i (some (.int x)) = ls') (kk : q_Z ω k (pc + 2) ls' st I T Q) : q_Z ω k pc ls (.int x :: st) I T Q := by
  intro p l e R s m args below meth c cells slots QZ hC hT hR H locs LS hL hP hS
  subst hl
  exact lv_istore hC.1 hC.2.1 hd hL.has hi rfl (fun LS' h' => kk p l e R s m args below meth c cells slots QZ (hC.len (by rw [List.length_set])) hT hR H locs LS' (hL.store rfl hi h') hP hS)
theorem z_astore_n {j : Fin 4} {a : Nat} {ls' : List (Option Value)} (hd : decode k.2.1 pc = .ok (.astore_n j, 1)) (hi : (j : Nat) < ls.length) (hl : ls.set (j : Nat) (some (.ref a)) = ls') (kk : q_Z ω k (pc + 1) ls' st I T Q) : q_Z ω k pc ls (.ref a :: st) I T Q := by
  intro p l e R s m args below meth c cells slots QZ hC hT hR H locs LS hL hP hS
  subst hl
  exact lv_astore_n hC.1 hC.2.1 hd rfl hL.has hi rfl (fun LS' h' => kk p l e R s m args below meth c cells slots QZ (hC.len (by rw [List.length_set])) hT hR H locs LS' (hL.store rfl hi h') hP hS)
theorem z_iadd {x y : Int32} (hd : decode k.2.1 pc = .ok (.iadd, 1)) (kk : q_Z ω k (pc + 1) ls (.int (x + y) :: st) I T Q) : q_Z ω k pc ls (.int y :: .int x :: st) I T Q := by
  intro p l e R s m args below meth c cells slots QZ hC hT hR H locs LS hL hP hS
  exact lv_iadd hC.1 hC.2.1 hd (kk p l e R s m args below meth c cells slots QZ hC hT hR H locs LS hL hP hS)
theorem z_ior {x y : Int32} (hd : decode k.2.1 pc = .ok (.ior, 1)) (kk : q_Z ω k (pc + 1) ls (.int (x ||| y) :: st) I T Q) : q_Z ω k pc ls (.int y :: .int x :: st) I T Q := by
  intro p l e R s m args below meth c cells slots QZ hC hT hR H locs LS hL hP hS
  exact lv_ior hC.1 hC.2.1 hd (kk p l e R s m args below meth c cells slots QZ hC hT hR H locs LS hL hP hS)
theorem z_iand {x y : Int32} (hd : decode k.2.1 pc = .ok (.iand, 1)) (kk : q_Z ω k (pc + 1) ls (.int (x &&& y) :: st) I T Q) : q_Z ω k pc ls (.int y :: .int x :: st) I T Q := by
  intro p l e R s m args below meth c cells slots QZ hC hT hR H locs LS hL hP hS
  exact lv_iand hC.1 hC.2.1 hd (kk p l e R s m args below meth c cells slots QZ hC hT hR H locs LS hL hP hS)
theorem z_ishl {x y : Int32} (hd : decode k.2.1 pc = .ok (.ishl, 1)) (kk : q_Z ω k (pc + 1) ls (.int (x <<< (y &&& 31)) :: st) I T Q) : q_Z ω k pc ls (.int y :: .int x :: st) I T Q := by
  intro p l e R s m args below meth c cells slots QZ hC hT hR H locs LS hL hP hS
  exact lv_ishl hC.1 hC.2.1 hd (kk p l e R s m args below meth c cells slots QZ hC hT hR H locs LS hL hP hS)
theorem z_ishr {x y : Int32} (hd : decode k.2.1 pc = .ok (.ishr, 1)) (kk : q_Z ω k (pc + 1) ls (.int (x >>> (y &&& 31)) :: st) I T Q) : q_Z ω k pc ls (.int y :: .int x :: st) I T Q := by
  intro p l e R s m args below meth c cells slots QZ hC hT hR H locs LS hL hP hS
  exact lv_ishr hC.1 hC.2.1 hd (kk p l e R s m args below meth c cells slots QZ hC hT hR H locs LS hL hP hS)
theorem z_irem {x y : Int32} (hd : decode k.2.1 pc = .ok (.irem, 1)) (hne : ¬ y = 0) (kk : q_Z ω k (pc + 1) ls (.int (x - x / y * y) :: st) I T Q) : q_Z ω k pc ls (.int y :: .int x :: st) I T Q := by
  intro p l e R s m args below meth c cells slots QZ hC hT hR H locs LS hL hP hS
  exact lv_irem hC.1 hC.2.1 hd hne (kk p l e R s m args below meth c cells slots QZ hC hT hR H locs LS hL hP hS)
theorem z_goto {off : Int} {tgt : Nat} (hd : decode k.2.1 pc = .ok (.goto off, 3)) (ht : (pc : Int) + off = (tgt : Int)) (kk : q_Z ω k tgt ls st I T Q) : q_Z ω k pc ls st I T Q := by
  intro p l e R s m args below meth c cells slots QZ hC hT hR H locs LS hL hP hS
  exact lv_goto hC.1 hC.2.1 hd ht (kk p l e R s m args below meth c cells slots QZ hC hT hR H locs LS hL hP hS)
theorem z_iinc {i : Nat} {n : Int} {x v : Int32} {ls' : List (Option Value)} (hd : decode k.2.1 pc = .ok (.iinc i n, 3)) (hx : ls[i]? = some (some (.int x))) (hv : x + Int32.ofInt n = v) (hl : ls.set i (some (.int v)) = ls') (kk : q_Z ω k (pc + 3) ls' st I T Q) : q_Z ω k pc ls st I T Q := by
  intro p l e R s m args below meth c cells slots QZ hC hT hR H locs LS hL hP hS
  subst hl
  have hi : i < ls.length := by
    rcases Nat.lt_or_ge i ls.length with q | q
    · exact q
    · rw [List.getElem?_eq_none q] at hx; cases hx
  have hm : (i, q_cv ω (.int x)) ∈ q_lp ω ls := List.mem_filterMap.mpr ⟨i, List.mem_range.mpr hi, by rw [hx]; rfl⟩
  obtain ⟨kx, hk⟩ := List.getElem?_of_mem hm
  exact lv_iinc hC.1 hC.2.1 hd hL.has hk hv hi rfl (fun LS' h' => kk p l e R s m args below meth c cells slots QZ (hC.len (by rw [List.length_set])) hT hR H locs LS' (hL.store rfl hi h') hP hS)
theorem z_icmp_eq {x y : Int32} {off : Int} {tgt : Nat} (hd : decode k.2.1 pc = .ok (.if_icmp .eq off, 3)) (ht : (pc : Int) + off = (tgt : Int)) (kt : x = y → q_Z ω k tgt ls st I T Q) (kf : ¬ x = y → q_Z ω k (pc + 3) ls st I T Q) : q_Z ω k pc ls (.int y :: .int x :: st) I T Q := by
  intro p l e R s m args below meth c cells slots QZ hC hT hR H locs LS hL hP hS
  exact lv_icmp_eq hC.1 hC.2.1 hd ht (fun q => kt q p l e R s m args below meth c cells slots QZ hC hT hR H locs LS hL hP hS) (fun q => kf q p l e R s m args below meth c cells slots QZ hC hT hR H locs LS hL hP hS)
theorem z_icmp_ne {x y : Int32} {off : Int} {tgt : Nat} (hd : decode k.2.1 pc = .ok (.if_icmp .ne off, 3)) (ht : (pc : Int) + off = (tgt : Int)) (kt : ¬ x = y → q_Z ω k tgt ls st I T Q) (kf : x = y → q_Z ω k (pc + 3) ls st I T Q) : q_Z ω k pc ls (.int y :: .int x :: st) I T Q := by
  intro p l e R s m args below meth c cells slots QZ hC hT hR H locs LS hL hP hS
  exact lv_icmp_ne hC.1 hC.2.1 hd ht (fun q => kt q p l e R s m args below meth c cells slots QZ hC hT hR H locs LS hL hP hS) (fun q => kf q p l e R s m args below meth c cells slots QZ hC hT hR H locs LS hL hP hS)
theorem z_icmp_ge {x y : Int32} {off : Int} {tgt : Nat} (hd : decode k.2.1 pc = .ok (.if_icmp .ge off, 3)) (ht : (pc : Int) + off = (tgt : Int)) (kt : y ≤ x → q_Z ω k tgt ls st I T Q) (kf : ¬ y ≤ x → q_Z ω k (pc + 3) ls st I T Q) : q_Z ω k pc ls (.int y :: .int x :: st) I T Q := by
  intro p l e R s m args below meth c cells slots QZ hC hT hR H locs LS hL hP hS
  exact lv_icmp_ge hC.1 hC.2.1 hd ht (fun q => kt q p l e R s m args below meth c cells slots QZ hC hT hR H locs LS hL hP hS) (fun q => kf q p l e R s m args below meth c cells slots QZ hC hT hR H locs LS hL hP hS)
theorem z_icmp_geN {a b : Nat} {off : Int} {tgt : Nat} (ha : a < 2 ^ 31) (hb : b < 2 ^ 31) (hd : decode k.2.1 pc = .ok (.if_icmp .ge off, 3)) (ht : (pc : Int) + off = (tgt : Int)) (kt : b ≤ a → q_Z ω k tgt ls st I T Q) (kf : a < b → q_Z ω k (pc + 3) ls st I T Q) : q_Z ω k pc ls (.int (nI b) :: .int (nI a) :: st) I T Q :=
  z_icmp_ge hd ht (fun q => kt ((nI_leI hb ha).mp q)) (fun q => kf (Nat.not_le.mp (fun z => q ((nI_leI hb ha).mpr z))))
theorem z_icmp_neN {a b : Nat} {off : Int} {tgt : Nat} (ha : a < 2 ^ 31) (hb : b < 2 ^ 31) (hd : decode k.2.1 pc = .ok (.if_icmp .ne off, 3)) (ht : (pc : Int) + off = (tgt : Int)) (kt : ¬ a = b → q_Z ω k tgt ls st I T Q) (kf : a = b → q_Z ω k (pc + 3) ls st I T Q) : q_Z ω k pc ls (.int (nI b) :: .int (nI a) :: st) I T Q :=
  z_icmp_ne hd ht (fun q => kt (fun z => q ((nI_eq ha hb).mpr z))) (fun q => kf ((nI_eq ha hb).mp q))
theorem z_icmp_eqN {a b : Nat} {off : Int} {tgt : Nat} (ha : a < 2 ^ 31) (hb : b < 2 ^ 31) (hd : decode k.2.1 pc = .ok (.if_icmp .eq off, 3)) (ht : (pc : Int) + off = (tgt : Int)) (kt : a = b → q_Z ω k tgt ls st I T Q) (kf : ¬ a = b → q_Z ω k (pc + 3) ls st I T Q) : q_Z ω k pc ls (.int (nI b) :: .int (nI a) :: st) I T Q :=
  z_icmp_eq hd ht (fun q => kt ((nI_eq ha hb).mp q)) (fun q => kf (fun z => q ((nI_eq ha hb).mpr z)))
theorem z_if_eq {x : Int32} {off : Int} {tgt : Nat} (hd : decode k.2.1 pc = .ok (.ifCond .eq off, 3)) (ht : (pc : Int) + off = (tgt : Int)) (kt : x = 0 → q_Z ω k tgt ls st I T Q) (kf : ¬ x = 0 → q_Z ω k (pc + 3) ls st I T Q) : q_Z ω k pc ls (.int x :: st) I T Q := by
  intro p l e R s m args below meth c cells slots QZ hC hT hR H locs LS hL hP hS
  exact lv_if_eq hC.1 hC.2.1 hd ht (fun q => kt q p l e R s m args below meth c cells slots QZ hC hT hR H locs LS hL hP hS) (fun q => kf q p l e R s m args below meth c cells slots QZ hC hT hR H locs LS hL hP hS)
theorem z_if_ne {x : Int32} {off : Int} {tgt : Nat} (hd : decode k.2.1 pc = .ok (.ifCond .ne off, 3)) (ht : (pc : Int) + off = (tgt : Int)) (kt : ¬ x = 0 → q_Z ω k tgt ls st I T Q) (kf : x = 0 → q_Z ω k (pc + 3) ls st I T Q) : q_Z ω k pc ls (.int x :: st) I T Q := by
  intro p l e R s m args below meth c cells slots QZ hC hT hR H locs LS hL hP hS
  exact lv_if_ne hC.1 hC.2.1 hd ht (fun q => kt q p l e R s m args below meth c cells slots QZ hC hT hR H locs LS hL hP hS) (fun q => kf q p l e R s m args below meth c cells slots QZ hC hT hR H locs LS hL hP hS)
theorem z_if_lt {x : Int32} {off : Int} {tgt : Nat} (hd : decode k.2.1 pc = .ok (.ifCond .lt off, 3)) (ht : (pc : Int) + off = (tgt : Int)) (kt : x < 0 → q_Z ω k tgt ls st I T Q) (kf : ¬ x < 0 → q_Z ω k (pc + 3) ls st I T Q) : q_Z ω k pc ls (.int x :: st) I T Q := by
  intro p l e R s m args below meth c cells slots QZ hC hT hR H locs LS hL hP hS
  exact lv_if_lt hC.1 hC.2.1 hd ht (fun q => kt q p l e R s m args below meth c cells slots QZ hC hT hR H locs LS hL hP hS) (fun q => kf q p l e R s m args below meth c cells slots QZ hC hT hR H locs LS hL hP hS)
theorem z_if_eqN {a : Nat} {off : Int} {tgt : Nat} (ha : a < 2 ^ 31) (hd : decode k.2.1 pc = .ok (.ifCond .eq off, 3)) (ht : (pc : Int) + off = (tgt : Int)) (kt : a = 0 → q_Z ω k tgt ls st I T Q) (kf : ¬ a = 0 → q_Z ω k (pc + 3) ls st I T Q) : q_Z ω k pc ls (.int (nI a) :: st) I T Q := by
  have hb : (0 : Nat) < 2 ^ 31 := by decide
  exact z_if_eq hd ht (fun q => kt ((nI_eq ha hb).mp q)) (fun q => kf (fun z => q ((nI_eq ha hb).mpr z)))
theorem z_if_neN {a : Nat} {off : Int} {tgt : Nat} (ha : a < 2 ^ 31) (hd : decode k.2.1 pc = .ok (.ifCond .ne off, 3)) (ht : (pc : Int) + off = (tgt : Int)) (kt : ¬ a = 0 → q_Z ω k tgt ls st I T Q) (kf : a = 0 → q_Z ω k (pc + 3) ls st I T Q) : q_Z ω k pc ls (.int (nI a) :: st) I T Q := by
  have hb : (0 : Nat) < 2 ^ 31 := by decide
  exact z_if_ne hd ht (fun q => kt (fun z => q ((nI_eq ha hb).mpr z))) (fun q => kf ((nI_eq ha hb).mp q))
theorem z_if_ltN {a : Nat} {off : Int} {tgt : Nat} (ha : a < 2 ^ 31) (hd : decode k.2.1 pc = .ok (.ifCond .lt off, 3)) (ht : (pc : Int) + off = (tgt : Int)) (kt : a < 0 → q_Z ω k tgt ls st I T Q) (kf : 0 ≤ a → q_Z ω k (pc + 3) ls st I T Q) : q_Z ω k pc ls (.int (nI a) :: st) I T Q := by
  have hb : (0 : Nat) < 2 ^ 31 := by decide
  exact z_if_lt hd ht (fun q => kt ((nI_ltI ha hb).mp q)) (fun q => kf (Nat.not_lt.mp (fun z => q ((nI_ltI ha hb).mpr z))))
theorem z_iret {x : Int32} {ty : FieldType} (hr : k.2.2.2.1 = some ty) (hn : narrow ty (.int x) = .int x) (hd : decode k.2.1 pc = .ok (.ireturn, 1)) (hQ : Q (some (.int x)) I) : q_Z ω k pc ls [.int x] I T Q := by
  intro p l e R s m args below meth c cells slots QZ hC hT hR H locs LS hL hP hS
  exact hR pc LS H locs (some (.int x)) I T (Or.inr (Or.inl ⟨x, ty, rfl, hr, hn, hd⟩)) hQ hP hS
theorem z_len (ω : q_Om) (I : q_Mem) : (q_P ω I).length = 356 := by simp [q_P]
theorem z_get (ω : q_Om) (I : q_Mem) (T : Nat → Int32) : (q_P ω I ++ [tld ω T])[356]? = some (q_ad ω 356, .inl (q_ca ω 10, 6, .inl T)) := by
  rw [List.getElem?_append_right (by rw [z_len]; exact Nat.le_refl _), z_len]; rfl
theorem z_in {ω : q_Om} {D : va_G} {I : q_Mem} {T : Nat → Int32} {H : Heap} (h : va_P D vwCl (q_P ω I ++ [tld ω T]) H) : va_P D vwCl (q_P ω I) H := fun k q hq => h k q (by
  rw [List.getElem?_append_left (by have := q_Pl hq; rw [z_len]; exact this)]; exact hq)
theorem z_adr {ω : q_Om} {I J : q_Mem} {T S : Nat → Int32} {i : Nat} {q : Nat × va_E} (h : (q_P ω I ++ [tld ω T])[i]? = some q) : ∃ q', (q_P ω J ++ [tld ω S])[i]? = some q' ∧ q'.1 = q.1 := by
  rcases Nat.lt_or_ge i 356 with z | z
  · rw [List.getElem?_append_left (by rw [z_len]; exact z), q_P_get z] at h
    cases h
    exact ⟨_, (List.getElem?_append_left (by rw [z_len]; exact z)).trans (q_P_get z), rfl⟩
  · have hl := (List.getElem?_eq_some_iff.mp h).1
    rw [List.length_append, z_len] at hl
    obtain rfl : i = 356 := by simp at hl; omega
    rw [z_get] at h
    cases h
    exact ⟨_, z_get ω J S, rfl⟩
theorem z_D {ω : q_Om} (h : q_ZT ω) (I : q_Mem) (T : Nat → Int32) : va_D (q_A ω) (q_P ω I ++ [tld ω T]) := by
  refine ⟨fun i j p q hi hj e => ?_, fun k q hq => ?_⟩
  · obtain ⟨p', hp', e1⟩ := z_adr (J := fun _ _ => 0) (S := fun _ => 0) hi
    obtain ⟨q', hq', e2⟩ := z_adr (J := fun _ _ => 0) (S := fun _ => 0) hj
    exact h.1 i j p' q' hp' hq' (e1.trans (e.trans e2.symm))
  · obtain ⟨q', hq', e1⟩ := z_adr (J := fun _ _ => 0) (S := fun _ => 0) hq
    rw [← e1]
    exact h.2 k q' hq'
theorem z_tget {i : Nat} {x v : Int32} (hx : x = nI i) (hi : i < 6) (hv : T i = v) (hd : decode k.2.1 pc = .ok (.iaload, 1)) (kk : q_Z ω k (pc + 1) ls (.int v :: st) I T Q) : q_Z ω k pc ls (.int x :: .ref 356 :: st) I T Q := by
  intro p l e R s m args below meth c cells slots QZ hC hT hR H locs LS hL hP hS
  subst hx; subst hv
  have kk := kk p l e R s m args below meth c cells slots QZ hC hT hR H locs LS hL hP hS
  refine va_iald hC.1 hC.2.1 hC.2.2.2.2.2.1 hP 356 0 (z_get ω I T) rfl (vp_in_nI hi (by decide)) hd ?_
  rw [nI_clamp (by omega)]
  exact kk
theorem z_tput {i : Nat} {x y : Int32} (hx : x = nI i) (hi : i < 6) (hd : decode k.2.1 pc = .ok (.iastore, 1)) (kk : q_Z ω k (pc + 1) ls st I (upd T i y) Q) : q_Z ω k pc ls (.int y :: .int x :: .ref 356 :: st) I T Q := by
  intro p l e R s m args below meth c cells slots QZ hC hT hR H locs LS hL hP hS
  subst hx
  refine va_iast hC.1 hC.2.1 hC.2.2.2.2.2.1 hP (z_D hT I T) hS 356 0 (z_get ω I T) rfl (vp_in_nI hi (by decide)) hd (fun H1 locs1 hP1 hD1 hS1 => ?_)
  rw [nI_clamp (by omega), List.set_append_right _ _ (by rw [z_len]; exact Nat.le_refl _), z_len] at hP1
  exact kk p l e R s m args below meth c cells slots QZ hC hT hR H1 locs1 LS hL hP1 hS1
/-- the layout, the array out of what a callee may change -/
abbrev q_w2 (ω : q_Om) : q_Om := ((fun q => ω.1 q ∧ ¬ q = ω.2.1 356), ω.2)
theorem z_goOn {p : Program} {l : Launch} {e : Env} {R : Room} {s : State} {m : MethodId} {args : Array Value} {below : List Frame} {meth : Method} {c : Code} {H : Heap} {locs : List Loc} {cells slots : Nat} {QZ : State → Prop} {LS : Array Slot} {st0 rest : List Value} {a : Array Value} {Qc : Option Value → q_Mem → Prop} (hr : va_Run p l e R s m args below meth c H locs cells slots 0 0 (F0 m pc LS st0) rest (q_Qc (q_w2 ω) Qc a) (q_A (q_w2 ω))) (hS : va_S (q_A ω) s.heap H locs) (hP : va_P (q_D ω) vwCl (q_P ω I ++ [tld ω T]) H)
    (kk : ∀ (v : Option Value) (J : q_Mem) (H1 : Heap) (locs1 : List Loc), Qc v J → va_P (q_D ω) vwCl (q_P ω J ++ [tld ω T]) H1 → va_S (q_A ω) s.heap H1 locs1 → W p l e R s m args below meth c H1 locs1 cells slots QZ (F0 m (pc + 3) LS (v.toList.map (q_cv ω) ++ rest))) : W p l e R s m args below meth c H locs cells slots QZ (F0 m pc LS st0) := by
  intro T0 hT X
  obtain ⟨v, st₀, t, T', L, h0, X', hL, e1, e2, ⟨⟨v', J, hv, hp, hb⟩, hz, hk⟩, st⟩ := hr T0 hT X
  cases hv
  rw [h0] at hz hk
  have hat := hP 356 _ (z_get ω I T)
  have hke : T'.heap[q_ad ω 356]? = H[q_ad ω 356]? := by
    rw [e1]
    exact hk _ hat.lt (fun z => z.2 rfl)
  have hP1 : va_P (q_D ω) vwCl (q_P ω J ++ [tld ω T]) T'.heap := by
    refine va_P.app (by rw [e1]; exact hb) (fun i q hq => ?_)
    obtain ⟨rfl, rfl⟩ : i = 0 ∧ q = tld ω T := by
      cases i with
      | zero => exact ⟨rfl, (Option.some.inj hq).symm⟩
      | succ i => cases hq
    exact hat.kept hke
  obtain ⟨t2, a1, b1⟩ := kk v' J T'.heap (locs ++ L) hp hP1 ⟨Nat.le_trans hS.1 (by rw [e1]; exact hz), fun q h1 h2 => by rw [e1, hk q (Nat.lt_of_lt_of_le h1 hS.1) (fun z => h2 z.1)]; exact hS.2.1 q h1 h2, fun q hq => by
      rcases List.mem_append.mp hq with h | h
      · exact hS.2.2 q h
      · exact (hL q h).1⟩ T' rfl X'
  have e9 : (v'.map (q_cv ω)).toList = v'.toList.map (q_cv ω) := by cases v' <;> rfl
  have e10 : q_cv (q_w2 ω) = q_cv ω := rfl
  rw [e10] at st
  rw [← e9] at a1
  exact ⟨t2, st t2 a1, b1⟩
theorem z_pre {p : Program} {as : List Value} {s : State} {H : Heap} {locs : List Loc} (hK : va_K (q_D ω) vwCl (q_tys ω) s) (hP : va_P (q_D ω) vwCl (q_P ω I ++ [tld ω T]) H) (hT : q_ZT ω) (hO : q_Od ω s s.heap) (hS : va_S (q_A ω) s.heap H locs) : ∀ U : State, U.heap = H → s.WarmedH U.vm → q_Pc (q_w2 ω) as I (as.map (q_cv ω)).toArray U := by
  intro U hU hW
  refine ⟨rfl, by rw [hU]; exact z_in hP, va_K.moved hW.alike hK, ?_, ?_⟩
  · have hD := z_D hT I T
    refine ⟨fun i j p q hi hj e => ?_, fun i q hq => ?_⟩
    · have h1 := q_Pl hi
      have h2 := q_Pl hj
      exact hD.1 i j p q ((List.getElem?_append_left (by rw [z_len]; exact h1)).trans hi) ((List.getElem?_append_left (by rw [z_len]; exact h2)).trans hj) e
    · have h1 := q_Pl hq
      have hq' : (q_P ω I ++ [tld ω T])[i]? = some q := (List.getElem?_append_left (by rw [z_len]; exact h1)).trans hq
      refine ⟨hD.2 i q hq', fun z => ?_⟩
      have := hD.1 i 356 q _ hq' (z_get ω I T) z
      omega
  · have h := hO.kept hS.1 hS.2.1
    rw [hU]
    obtain ⟨⟨g1, g2, g3⟩, g4⟩ := h
    exact ⟨⟨va_X.moved hW.alike g1, g2, fun z => g3 z.1⟩, q_Nt.warm hW hO.2⟩
theorem z_cV {kc : q_MI} {as : List Value} {b idx n : Nat} {Qc : Option Value → q_Mem → Prop} (hl : q_lkV k.1.cls idx kc n) (hm : q_M kc (.ref b :: as) I Qc) (hrc : q_rc kc.1.cls b) (hn : as.length = n) (hf : q_fit kc k) (hst : (st.map fun v => v.category).sum ≤ 8) (hd : decode k.2.1 pc = .ok (.invokevirtual idx, 3)) (kk : ∀ v J, Qc v J → q_Z ω k (pc + 3) ls (v.toList ++ st) J T Q) : q_Z ω k pc ls (as.reverse ++ .ref b :: st) I T Q := by
  intro p l e R s m args below meth c cells slots QZ hC hT hR H locs LS hL hP hS
  obtain ⟨hx, hb, hml, hown, hts, hK, hD, hO, hfr, hlo, hce, hsl⟩ := id hC
  obtain ⟨⟨h1, h2, h3, h4, h5⟩, h6, h7⟩ := hl
  have bf : ∀ {w : Cond}, q_wd w → w.before args s = true := fun h => hts _ (q_in h.1 h.2)
  rw [List.map_append, List.map_reverse, List.map_cons]
  refine z_goOn (I := I) (T := T) (Qc := Qc) (rest := st.map (q_cv ω)) (va_runV (As := as.map (q_cv ω)) (b := q_ad ω b) (rest := st.map (q_cv ω)) ⟨hx, hb, hml, hown, hts⟩ (hm (q_w2 ω) l)
    ⟨⟨rfl, rfl, Nat.le_trans hf.1 hfr, Nat.le_trans hf.2 hlo, pay_in hts (q_gws h3), List.mem_cons_self, bf h3, bf h2, h4, q_ar h5, bf h1⟩, bf h6, bf h7⟩
    ⟨q_blind, q_recv hrc hK (z_in hP) hO hS, fun U hU hW => z_pre (p := p) hK hP hT hO hS U hU hW⟩ rfl (by simpa using hn) hL.1 rfl (lv_room (y_st hst)) hd ⟨hce, hsl⟩) hS hP (fun v J H1 locs1 hq hP1 hS1 => ?_)
  have := kk v J hq p l e R s m args below meth c cells slots QZ hC hT hR H1 locs1 LS hL hP1 hS1
  rw [List.map_append] at this
  exact this
theorem z_cS {kc : q_MI} {as : List Value} {idx n : Nat} {Qc : Option Value → q_Mem → Prop} (hl : q_lkS k.1.cls idx kc n) (hm : q_M kc as I Qc) (hn : as.length = n) (hf : q_fit kc k) (hst : (st.map fun v => v.category).sum ≤ 8) (hd : decode k.2.1 pc = .ok (.invokestatic idx, 3)) (kk : ∀ v J, Qc v J → q_Z ω k (pc + 3) ls (v.toList ++ st) J T Q) : q_Z ω k pc ls (as.reverse ++ st) I T Q := by
  intro p l e R s m args below meth c cells slots QZ hC hT hR H locs LS hL hP hS
  obtain ⟨hx, hb, hml, hown, hts, hK, hD, hO, hfr, hlo, hce, hsl⟩ := id hC
  obtain ⟨⟨h1, h2, h3, h4, h5⟩, h6⟩ := hl
  have bf : ∀ {w : Cond}, q_wd w → w.before args s = true := fun h => hts _ (q_in h.1 h.2)
  rw [List.map_append, List.map_reverse]
  refine z_goOn (I := I) (T := T) (Qc := Qc) (rest := st.map (q_cv ω)) (va_runS (As := as.map (q_cv ω)) (rest := st.map (q_cv ω)) ⟨hx, hb, hml, hown, hts⟩ (hm (q_w2 ω) l)
    ⟨⟨rfl, rfl, Nat.le_trans hf.1 hfr, Nat.le_trans hf.2 hlo, pay_in hts (q_gws h3), List.mem_cons_self, bf h3, bf h2, h4, q_ar h5, bf h1⟩, bf h6⟩
    ⟨q_blind, fun U hU hW => z_pre (p := p) hK hP hT hO hS U hU hW⟩ rfl (by simpa using hn) hL.1 rfl (lv_room (y_st hst)) hd ⟨hce, hsl⟩) hS hP (fun v J H1 locs1 hq hP1 hS1 => ?_)
  have := kk v J hq p l e R s m args below meth c cells slots QZ hC hT hR H1 locs1 LS hL hP1 hS1
  rw [List.map_append] at this
  exact this
end z_rules
