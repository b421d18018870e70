/-! THE X LAYER: what was there before the run, and the natives -/
section q_rules5
variable {k : q_MI} {pc : Nat} {ls : List (Option Value)} {st : List Value} {I : q_Mem} {Q : Option Value → q_Mem → Prop}
abbrev q_flw (own : String) (idx : Nat) (C n d : String) : Prop := q_wd (.fieldLink own idx C n d)
/-- the native copy of a row of ints, from its beginning on -/
theorem q_copy {idx a b n : Nat} (hl : q_wd (.methodLink k.1.cls idx arraycopyName) ∧ q_wd (.native arraycopyName) ∧ q_wd (.static arraycopyName) ∧ q_wd (.initialized "java/lang/System")) (ha : q_kd a = 10) (hb : q_kd b = 10) (hna : n ≤ q_ln a) (hnb : n ≤ q_ln b) (hn : n < 2 ^ 31)
    (hfr : 1 ≤ k.2.2.2.2.1) (hlo : (st.map fun v => v.category).sum + 18 ≤ k.2.2.2.2.2) (hd : decode k.2.1 pc = .ok (.invokestatic idx, 3)) (kk : ∀ J : q_Mem, (∀ i j, J i j = if i = b ∧ j < n then I a j else I i j) → q_X k (pc + 3) ls st J Q) : q_X k pc ls (.int (nI n) :: .int 0 :: .ref b :: .int 0 :: .ref a :: st) I Q := by
  intro ω p l e R s m args below meth c cells slots QZ hC hR H locs LS hL hP hS
  obtain ⟨hx, hbc, hml, hown, hts, hK, hD, hO, hfr', hlo', hce, hsl⟩ := id hC
  have bf : ∀ {w : Cond}, q_wd w → w.before args s = true := fun h => hts _ (q_in h.1 h.2)
  have hst' : ((st.map (q_cv ω)).map fun v => v.category).sum = (st.map fun v => v.category).sum := by
    rw [List.map_map]
    have : ((fun v : Value => v.category) ∘ q_cv ω) = fun v => v.category := funext fun v => q_cv_cat ω v
    rw [this]
  have h0 : (0 : Int32).toNatClampNeg = 0 := by decide
  have hnn : (nI n).toNatClampNeg = n := nI_clamp hn
  refine va_copyi hx hbc (hml.trans hL.1.symm) hown (bf hl.1) (bf hl.2.1) (bf hl.2.2.1) (bf hl.2.2.2) hK hP (q_vD hD) hS a b 0 0 ((q_P_get (q_kd_lt ha (by omega))).trans (by rw [q_cell_arr ha (by omega) (by omega)])) ((q_P_get (q_kd_lt hb (by omega))).trans (by rw [q_cell_arr hb (by omega) (by omega)])) rfl rfl rfl (by decide) (by decide) (nI_pos hn) (by rw [h0, hnn]; omega) (by rw [h0, hnn]; omega) (fun _ _ => rfl)
    (Nat.le_trans hfr hfr') (by rw [hst', show nativeFrameWords "java/lang/System" "arraycopy" 5 = 7 by decide]; omega) hd (fun H1 locs1 hP1 hD1 hS1 => ?_)
  rw [h0, hnn] at hP1
  let J : q_Mem := fun i j => if i = b ∧ j < n then I a j else I i j
  have hJ : (q_P ω I).set b (q_ad ω b, .inl (q_ca ω 10, q_ln b, .inl (va_cpy (I a) (I b) 0 0 n))) = q_P ω J := by
    apply List.ext_getElem?
    intro i
    rw [List.getElem?_set]
    by_cases hi : b = i
    · subst hi
      have hl := q_kd_lt hb (by omega)
      rw [if_pos rfl, if_pos (by simpa [q_P] using hl), q_P_get hl, q_cell_arr hb (by omega) (by omega)]
      have : va_cpy (I a) (I b) 0 0 n = J b := by
        funext j
        simp [va_cpy, J]
      rw [this]
    · rw [if_neg hi]
      simp only [q_P, List.getElem?_map]
      by_cases hl : i < 356
      · rw [List.getElem?_range hl]
        simp only [Option.map_some]
        have e : J i = I i := by
          funext j
          exact if_neg (fun h => hi h.1.symm)
        have e2 : q_fv ω J i = q_fv ω I i := by
          funext j
          simp only [q_fv, e]
        have : q_cell ω J i = q_cell ω I i := by
          simp only [q_cell, e, e2]
        rw [this]
      · rw [List.getElem?_eq_none (by simp; omega)]
        rfl
  rw [hJ] at hP1
  exact kk J (fun i j => rfl) ω p l e R s m args below meth c cells slots QZ hC hR H1 locs1 LS hL hP1 hS1
theorem q_mmax {idx : Nat} {x y : Int32} (hl : q_lkM k.1.cls idx Lib.Math.max.name Lib.Math.max.code) (hfr : 1 ≤ k.2.2.2.2.1) (hlo : (st.map fun v => v.category).sum + 13 ≤ k.2.2.2.2.2) (hd : decode k.2.1 pc = .ok (.invokestatic idx, 3)) (kk : q_X k (pc + 3) ls (.int (if x < y then y else x) :: st) I Q) : q_X k pc ls (.int y :: .int x :: st) I Q := by
  intro ω p l e R s m args below meth c cells slots QZ hC hR H locs LS hL hP hS
  have bf : ∀ {w : Cond}, q_wd w → w.before args s = true := fun h => hC.2.2.2.2.1 _ (q_in h.1 h.2)
  have hst' : ((st.map (q_cv ω)).map fun v => v.category).sum = (st.map fun v => v.category).sum := by
    rw [List.map_map]
    have : ((fun v : Value => v.category) ∘ q_cv ω) = fun v => v.category := funext fun v => q_cv_cat ω v
    rw [this]
  exact va_mmax hC.1 hC.2.1 (hC.2.2.1.trans hL.1.symm) hC.2.2.2.1 (bf hl.1) (bf hl.2.1) (bf hl.2.2.1) (bf hl.2.2.2) (Nat.le_trans hfr hC.2.2.2.2.2.2.2.2.1) (by rw [hst']; exact Nat.le_trans hlo hC.2.2.2.2.2.2.2.2.2.1) hC.2.2.2.2.2.2.2.2.2.2.1 hC.2.2.2.2.2.2.2.2.2.2.2 hd (kk ω p l e R s m args below meth c cells slots QZ hC hR H locs LS hL hP hS)
theorem q_mmin {idx : Nat} {x y : Int32} (hl : q_lkM k.1.cls idx Lib.Math.min.name Lib.Math.min.code) (hfr : 1 ≤ k.2.2.2.2.1) (hlo : (st.map fun v => v.category).sum + 13 ≤ k.2.2.2.2.2) (hd : decode k.2.1 pc = .ok (.invokestatic idx, 3)) (kk : q_X k (pc + 3) ls (.int (if y < x then y else x) :: st) I Q) : q_X k pc ls (.int y :: .int x :: st) I Q := by
  intro ω p l e R s m args below meth c cells slots QZ hC hR H locs LS hL hP hS
  have bf : ∀ {w : Cond}, q_wd w → w.before args s = true := fun h => hC.2.2.2.2.1 _ (q_in h.1 h.2)
  have hst' : ((st.map (q_cv ω)).map fun v => v.category).sum = (st.map fun v => v.category).sum := by
    rw [List.map_map]
    have : ((fun v : Value => v.category) ∘ q_cv ω) = fun v => v.category := funext fun v => q_cv_cat ω v
    rw [this]
  exact va_mmin hC.1 hC.2.1 (hC.2.2.1.trans hL.1.symm) hC.2.2.2.1 (bf hl.1) (bf hl.2.1) (bf hl.2.2.1) (bf hl.2.2.2) (Nat.le_trans hfr hC.2.2.2.2.2.2.2.2.1) (by rw [hst']; exact Nat.le_trans hlo hC.2.2.2.2.2.2.2.2.2.1) hC.2.2.2.2.2.2.2.2.2.2.1 hC.2.2.2.2.2.2.2.2.2.2.2 hd (kk ω p l e R s m args below meth c cells slots QZ hC hR H locs LS hL hP hS)
/-- the script -/
theorem q_scr_len {ω : q_Om} {p : Program} {l : Launch} {e : Env} {R : Room} {s : State} {m : MethodId} {args : Array Value} {below : List Frame} {meth : Method} {c : Code} {H : Heap} {locs : List Loc} {cells slots : Nat} {QZ : State → Prop} {cc : ByteArray} {LS : Array Slot} {rest : List Value} (hx : p.tables.exec = Jvm.exec) (hb : c.code = cc) (hO : q_Od ω s s.heap) (hS : va_S (q_A ω) s.heap H locs) (hd : decode cc pc = .ok (.arraylength, 1))
    (kk : W p l e R s m args below meth c H locs cells slots QZ (F0 m (pc + 1) LS (.int (nI (q_L ω)) :: rest))) : W p l e R s m args below meth c H locs cells slots QZ (F0 m pc LS (.ref (q_ad ω 380) :: rest)) :=
  va_slen hx hb hO.1.1 hO.1.2.1 hO.1.2.2 hS hd kk
end q_rules5
