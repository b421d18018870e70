/-! THE X LAYER: what was there before the run, and the natives -/
section q_rules5
variable {k : q_MI} {pc : Nat} {ls : List (Option Value)} {st : List Value} {I : q_Mem} {Q : Option Value → q_Mem → Prop}
abbrev q_flw (own : String) (idx : Nat) (C n d : String) : Prop := q_wd (.fieldLink own idx C n d)
theorem q_words {idx : Nat} {host : String} (hf : ∀ U, q_Nt U → va_Nw (.fieldLinkNest k.1.cls idx "EveningClasses" "WORDS" "[LEveningClasses$Word;" host) U) (hd : decode k.2.1 pc = .ok (.getstatic idx, 3)) (kk : q_X k (pc + 3) ls (.ref 362 :: st) I Q) : q_X k pc ls st I Q := by
  intro ω p l e R s m args below meth c cells slots QZ hC hR H locs LS hL hP hS
  have hO : q_Od ω s s.heap := hC.2.2.2.2.2.2.2.1
  exact va_getsN hC.1 hC.2.1 hO.1 hS hC.2.2.2.1 (va_Nw.use rfl (hf s hO.2.2.2.2.2.2.2.2)) (fun _ h => h) hd (kk ω p l e R s m args below meth c cells slots QZ hC hR H locs LS hL hP hS)
theorem q_word {idx i : Nat} (hi : i < 5) (hf : q_flw k.1.cls idx "EveningClasses$Word" (q_EN.getD i "") "LEveningClasses$Word;") (hd : decode k.2.1 pc = .ok (.getstatic idx, 3)) (kk : q_X k (pc + 3) ls (.ref (363 + i) :: st) I Q) : q_X k pc ls st I Q := by
  intro ω p l e R s m args below meth c cells slots QZ hC hR H locs LS hL hP hS
  have hO : q_Od ω s s.heap := hC.2.2.2.2.2.2.2.1
  exact va_gets hC.1 hC.2.1 (hO.2.2.1.1 i hi).1 hS hC.2.2.2.1 (hC.2.2.2.2.1 _ (q_in hf.1 hf.2)) (fun _ h => h) hd (kk ω p l e R s m args below meth c cells slots QZ hC hR H locs LS hL hP hS)
theorem q_wlen {v : Int32} (hv : nI 5 = v) (hd : decode k.2.1 pc = .ok (.arraylength, 1)) (kk : q_X k (pc + 1) ls (.int v :: st) I Q) : q_X k pc ls (.ref 362 :: st) I Q := by
  intro ω p l e R s m args below meth c cells slots QZ hC hR H locs LS hL hP hS
  have hO : q_Od ω s s.heap := hC.2.2.2.2.2.2.2.1
  exact va_tlen hC.1 hC.2.1 hO.2.1 hS hv hd (kk ω p l e R s m args below meth c cells slots QZ hC hR H locs LS hL hP hS)
theorem q_wald {i : Nat} {x : Int32} (hx : x = nI i) (hi : i < 5) (hd : decode k.2.1 pc = .ok (.aaload, 1)) (kk : q_X k (pc + 1) ls (.ref (363 + i) :: st) I Q) : q_X k pc ls (.int x :: .ref 362 :: st) I Q := by
  intro ω p l e R s m args below meth c cells slots QZ hC hR H locs LS hL hP hS
  subst hx
  have hO : q_Od ω s s.heap := hC.2.2.2.2.2.2.2.1
  exact vb_tq hC.1 hC.2.1 hO.2.1 hS (vp_in_nI hi (by omega)) (v := .ref (q_ad ω (363 + i))) (by rw [nI_clamp (by omega)]) hd (kk ω p l e R s m args below meth c cells slots QZ hC hR H locs LS hL hP hS)
theorem q_wletters {idx i : Nat} (hi : i < 5) (hf : q_flw k.1.cls idx "EveningClasses$Word" "letters" "Ljava/lang/String;") (hd : decode k.2.1 pc = .ok (.getfield idx, 3)) (kk : q_X k (pc + 3) ls (.ref (368 + i) :: st) I Q) : q_X k pc ls (.ref (363 + i) :: st) I Q := by
  intro ω p l e R s m args below meth c cells slots QZ hC hR H locs LS hL hP hS
  have hO : q_Od ω s s.heap := hC.2.2.2.2.2.2.2.1
  exact vk_getf hC.1 hC.2.1 (hO.2.2.2.1 i hi) hS hC.2.2.2.1 (hC.2.2.2.2.1 _ (q_in hf.1 hf.2)) (fun _ h => h) hd (kk ω p l e R s m args below meth c cells slots QZ hC hR H locs LS hL hP hS)
theorem q_wint {idx i : Nat} {fn : String} {vs : List Int32} {v : Int32} (hi : i < 5) (hm : ("EveningClasses$Word", fn, "I", vs) ∈ q_EF) (hv : vs.getD i 0 = v) (hf : q_flw k.1.cls idx "EveningClasses$Word" fn "I") (hd : decode k.2.1 pc = .ok (.getfield idx, 3)) (kk : q_X k (pc + 3) ls (.int v :: st) I Q) : q_X k pc ls (.ref (363 + i) :: st) I Q := by
  intro ω p l e R s m args below meth c cells slots QZ hC hR H locs LS hL hP hS
  subst hv
  have hO : q_Od ω s s.heap := hC.2.2.2.2.2.2.2.1
  exact va_getE (nm := q_EN) (i := i) (ad := fun i => q_ad ω (363 + i)) hC.1 hC.2.1 hO.2.2.1 hi hS hC.2.2.2.1 hm (hC.2.2.2.2.1 _ (q_in hf.1 hf.2)) (fun _ h => h) hd (kk ω p l e R s m args below meth c cells slots QZ hC hR H locs LS hL hP hS)
theorem q_acmp_ne {i j : Nat} {off : Int} {tgt : Nat} (hi : i < 5) (hj : j < 5) (hd : decode k.2.1 pc = .ok (.if_acmp .ne off, 3)) (ht : (pc : Int) + off = (tgt : Int)) (kt : ¬ i = j → q_X k tgt ls st I Q) (kf : i = j → q_X k (pc + 3) ls st I Q) : q_X k pc ls (.ref (363 + j) :: .ref (363 + i) :: st) I Q := by
  intro ω p l e R s m args below meth c cells slots QZ hC hR H locs LS hL hP hS
  have hO : q_Od ω s s.heap := hC.2.2.2.2.2.2.2.1
  refine lv_acmp_ne (rx := some (q_ad ω (363 + i))) (ry := some (q_ad ω (363 + j))) hC.1 hC.2.1 hd ht (fun q => kt ?_ ω p l e R s m args below meth c cells slots QZ hC hR H locs LS hL hP hS) (fun q => kf ?_ ω p l e R s m args below meth c cells slots QZ hC hR H locs LS hL hP hS)
  · intro h
    exact q (by rw [h])
  · exact hO.2.2.1.2 i j hi hj (Option.some.inj q)
theorem q_svalue {idx i : Nat} (hi : i < 5) (hf : q_flw k.1.cls idx "java/lang/String" "value" "[B") (hd : decode k.2.1 pc = .ok (.getfield idx, 3)) (kk : q_X k (pc + 3) ls (.ref (373 + i) :: st) I Q) : q_X k pc ls (.ref (368 + i) :: st) I Q := by
  intro ω p l e R s m args below meth c cells slots QZ hC hR H locs LS hL hP hS
  have hO : q_Od ω s s.heap := hC.2.2.2.2.2.2.2.1
  exact vk_getf hC.1 hC.2.1 (hO.2.2.2.2.1.1 i hi).2.2.1 hS hC.2.2.2.1 (hC.2.2.2.2.1 _ (q_in hf.1 hf.2)) (fun _ h => h) hd (kk ω p l e R s m args below meth c cells slots QZ hC hR H locs LS hL hP hS)
theorem q_scoder {idx i : Nat} (hi : i < 5) (hf : q_flw k.1.cls idx "java/lang/String" "coder" "B") (hd : decode k.2.1 pc = .ok (.getfield idx, 3)) (kk : q_X k (pc + 3) ls (.int 0 :: st) I Q) : q_X k pc ls (.ref (368 + i) :: st) I Q := by
  intro ω p l e R s m args below meth c cells slots QZ hC hR H locs LS hL hP hS
  have hO : q_Od ω s s.heap := hC.2.2.2.2.2.2.2.1
  exact vk_getf hC.1 hC.2.1 (hO.2.2.2.2.1.1 i hi).2.1 hS hC.2.2.2.1 (hC.2.2.2.2.1 _ (q_in hf.1 hf.2)) (fun _ h => h) hd (kk ω p l e R s m args below meth c cells slots QZ hC hR H locs LS hL hP hS)
theorem q_slen {i : Nat} {v : Int32} (hi : i < 5) (hv : nI (q_lens.getD i 0) = v) (hd : decode k.2.1 pc = .ok (.arraylength, 1)) (kk : q_X k (pc + 1) ls (.int v :: st) I Q) : q_X k pc ls (.ref (373 + i) :: st) I Q := by
  intro ω p l e R s m args below meth c cells slots QZ hC hR H locs LS hL hP hS
  have hO : q_Od ω s s.heap := hC.2.2.2.2.2.2.2.1
  exact va_tlen hC.1 hC.2.1 (hO.2.2.2.2.1.1 i hi).2.2.2 hS hv hd (kk ω p l e R s m args below meth c cells slots QZ hC hR H locs LS hL hP hS)
theorem q_sald {i j : Nat} {x v : Int32} (hi : i < 5) (hx : x = nI j) (hj : j < q_lens.getD i 0) (hv : (q_byts.getD i []).getD j 0 = v) (hd : decode k.2.1 pc = .ok (.baload, 1)) (kk : q_X k (pc + 1) ls (.int v :: st) I Q) : q_X k pc ls (.int x :: .ref (373 + i) :: st) I Q := by
  intro ω p l e R s m args below meth c cells slots QZ hC hR H locs LS hL hP hS
  subst hx; subst hv
  have hO : q_Od ω s s.heap := hC.2.2.2.2.2.2.2.1
  have hb : q_lens.getD i 0 < 2 ^ 31 := by
    have : ∀ i, i < 5 → q_lens.getD i 0 < 2 ^ 31 := by decide
    exact this i hi
  exact va_tb hC.1 hC.2.1 (hO.2.2.2.2.1.1 i hi).2.2.2 hS (vp_in_nI hj hb) (v := .int ((q_byts.getD i []).getD j 0)) (by rw [nI_clamp (by omega)]) hd (kk ω p l e R s m args below meth c cells slots QZ hC hR H locs LS hL hP hS)
theorem q_compact {idx : Nat} (hf : q_flw k.1.cls idx "java/lang/String" "COMPACT_STRINGS" "Z") (hd : decode k.2.1 pc = .ok (.getstatic idx, 3)) (kk : q_X k (pc + 3) ls (.int 1 :: st) I Q) : q_X k pc ls st I Q := by
  intro ω p l e R s m args below meth c cells slots QZ hC hR H locs LS hL hP hS
  have hO : q_Od ω s s.heap := hC.2.2.2.2.2.2.2.1
  exact va_gets hC.1 hC.2.1 hO.2.2.2.2.2.1 hS hC.2.2.2.1 (hC.2.2.2.2.1 _ (q_in hf.1 hf.2)) (fun _ h => h) hd (kk ω p l e R s m args below meth c cells slots QZ hC hR H locs LS hL hP hS)
theorem q_sioobe {idx : Nat} (hf : q_flw k.1.cls idx "jdk/internal/util/Preconditions" "SIOOBE_FORMATTER" "Ljava/util/function/BiFunction;") (hd : decode k.2.1 pc = .ok (.getstatic idx, 3)) (kN : q_X k (pc + 3) ls (.null :: st) I Q) (kR : q_X k (pc + 3) ls (.ref 381 :: st) I Q) : q_X k pc ls st I Q := by
  intro ω p l e R s m args below meth c cells slots QZ hC hR H locs LS hL hP hS
  have hO : q_Od ω s s.heap := hC.2.2.2.2.2.2.2.1
  rcases hO.2.2.2.2.2.2.1 with h | h
  · exact va_gets hC.1 hC.2.1 h hS hC.2.2.2.1 (hC.2.2.2.2.1 _ (q_in hf.1 hf.2)) (fun _ h => h) hd (kN ω p l e R s m args below meth c cells slots QZ hC hR H locs LS hL hP hS)
  · exact va_gets hC.1 hC.2.1 h hS hC.2.2.2.1 (hC.2.2.2.2.1 _ (q_in hf.1 hf.2)) (fun _ h => h) hd (kR ω p l e R s m args below meth c cells slots QZ hC hR H locs LS hL hP hS)
/-- the native copy of a row of ints, from its beginning on -/
theorem q_copy {idx a b n : Nat} (hl : q_wd (.methodLink k.1.cls idx arraycopyName) ∧ q_wd (.native arraycopyName) ∧ q_wd (.static arraycopyName) ∧ q_wd (.initialized "java/lang/System")) (ha : q_kd a = 10) (hb : q_kd b = 10) (hna : n ≤ q_ln a) (hnb : n ≤ q_ln b) (hn : n < 2 ^ 31)
    (hfr : 1 ≤ k.2.2.2.2.1) (hlo : (st.map fun v => v.category).sum + 18 ≤ k.2.2.2.2.2) (hd : decode k.2.1 pc = .ok (.invokestatic idx, 3)) (kk : ∀ J : q_Mem, (∀ i j, J i j = if i = b ∧ j < n then I a j else I i j) → q_X k (pc + 3) ls st J Q) : q_X k pc ls (.int (nI n) :: .int 0 :: .ref b :: .int 0 :: .ref a :: st) I Q := by
  intro ω p l e R s m args below meth c cells slots QZ hC hR H locs LS hL hP hS
  obtain ⟨hx, hbc, hml, hown, hts, hK, hD, hO, hfr', hlo', hce, hsl⟩ := id hC
  have bf : ∀ {w : Cond}, q_wd w → w.before args s = true := fun h => hts _ (q_in h.1 h.2)
  have hst' : ((st.map (q_cv ω)).map fun v => v.category).sum = (st.map fun v => v.category).sum := by
    rw [List.map_map]
    have : ((fun v : Value => v.category) ∘ q_cv ω) = fun v => v.category := funext fun v => q_cv_cat ω v
    rw [this]
  have h0 : (0 : Int32).toNatClampNeg = 0 := by decide
  have hnn : (nI n).toNatClampNeg = n := nI_clamp hn
  refine va_copyi hx hbc (hml.trans hL.1.symm) hown (bf hl.1) (bf hl.2.1) (bf hl.2.2.1) (bf hl.2.2.2) hK hP (q_vD hD) hS a b 0 0 ((q_P_get (q_kd_lt ha (by omega))).trans (by rw [q_cell_arr ha (by omega) (by omega)])) ((q_P_get (q_kd_lt hb (by omega))).trans (by rw [q_cell_arr hb (by omega) (by omega)])) rfl rfl rfl (by decide) (by decide) (nI_pos hn) (by rw [h0, hnn]; omega) (by rw [h0, hnn]; omega) (fun _ _ => rfl)
    (Nat.le_trans hfr hfr') (by rw [hst', show nativeFrameWords "java/lang/System" "arraycopy" 5 = 7 by decide]; omega) hd (fun H1 locs1 hP1 hD1 hS1 => ?_)
  rw [h0, hnn] at hP1
  let J : q_Mem := fun i j => if i = b ∧ j < n then I a j else I i j
  have hJ : (q_P ω I).set b (q_ad ω b, .inl (q_ca ω 10, q_ln b, .inl (va_cpy (I a) (I b) 0 0 n))) = q_P ω J := by
    apply List.ext_getElem?
    intro i
    rw [List.getElem?_set]
    by_cases hi : b = i
    · subst hi
      have hl := q_kd_lt hb (by omega)
      rw [if_pos rfl, if_pos (by simpa [q_P] using hl), q_P_get hl, q_cell_arr hb (by omega) (by omega)]
      have : va_cpy (I a) (I b) 0 0 n = J b := by
        funext j
        simp [va_cpy, J]
      rw [this]
    · rw [if_neg hi]
      simp only [q_P, List.getElem?_map]
      by_cases hl : i < 362
      · rw [List.getElem?_range hl]
        simp only [Option.map_some]
        have e : J i = I i := by
          funext j
          exact if_neg (fun h => hi h.1.symm)
        have e2 : q_fv ω J i = q_fv ω I i := by
          funext j
          simp only [q_fv, e]
        have : q_cell ω J i = q_cell ω I i := by
          simp only [q_cell, e, e2]
        rw [this]
      · rw [List.getElem?_eq_none (by simp; omega)]
        rfl
  rw [hJ] at hP1
  exact kk J (fun i j => rfl) ω p l e R s m args below meth c cells slots QZ hC hR H1 locs1 LS hL hP1 hS1
theorem q_mmax {idx : Nat} {x y : Int32} (hl : q_lkM k.1.cls idx Lib.Math.max.name Lib.Math.max.code) (hfr : 1 ≤ k.2.2.2.2.1) (hlo : (st.map fun v => v.category).sum + 13 ≤ k.2.2.2.2.2) (hd : decode k.2.1 pc = .ok (.invokestatic idx, 3)) (kk : q_X k (pc + 3) ls (.int (if x < y then y else x) :: st) I Q) : q_X k pc ls (.int y :: .int x :: st) I Q := by
  intro ω p l e R s m args below meth c cells slots QZ hC hR H locs LS hL hP hS
  have bf : ∀ {w : Cond}, q_wd w → w.before args s = true := fun h => hC.2.2.2.2.1 _ (q_in h.1 h.2)
  have hst' : ((st.map (q_cv ω)).map fun v => v.category).sum = (st.map fun v => v.category).sum := by
    rw [List.map_map]
    have : ((fun v : Value => v.category) ∘ q_cv ω) = fun v => v.category := funext fun v => q_cv_cat ω v
    rw [this]
  exact va_mmax hC.1 hC.2.1 (hC.2.2.1.trans hL.1.symm) hC.2.2.2.1 (bf hl.1) (bf hl.2.1) (bf hl.2.2.1) (bf hl.2.2.2) (Nat.le_trans hfr hC.2.2.2.2.2.2.2.2.1) (by rw [hst']; exact Nat.le_trans hlo hC.2.2.2.2.2.2.2.2.2.1) hC.2.2.2.2.2.2.2.2.2.2.1 hC.2.2.2.2.2.2.2.2.2.2.2 hd (kk ω p l e R s m args below meth c cells slots QZ hC hR H locs LS hL hP hS)
theorem q_mmin {idx : Nat} {x y : Int32} (hl : q_lkM k.1.cls idx Lib.Math.min.name Lib.Math.min.code) (hfr : 1 ≤ k.2.2.2.2.1) (hlo : (st.map fun v => v.category).sum + 13 ≤ k.2.2.2.2.2) (hd : decode k.2.1 pc = .ok (.invokestatic idx, 3)) (kk : q_X k (pc + 3) ls (.int (if y < x then y else x) :: st) I Q) : q_X k pc ls (.int y :: .int x :: st) I Q := by
  intro ω p l e R s m args below meth c cells slots QZ hC hR H locs LS hL hP hS
  have bf : ∀ {w : Cond}, q_wd w → w.before args s = true := fun h => hC.2.2.2.2.1 _ (q_in h.1 h.2)
  have hst' : ((st.map (q_cv ω)).map fun v => v.category).sum = (st.map fun v => v.category).sum := by
    rw [List.map_map]
    have : ((fun v : Value => v.category) ∘ q_cv ω) = fun v => v.category := funext fun v => q_cv_cat ω v
    rw [this]
  exact va_mmin hC.1 hC.2.1 (hC.2.2.1.trans hL.1.symm) hC.2.2.2.1 (bf hl.1) (bf hl.2.1) (bf hl.2.2.1) (bf hl.2.2.2) (Nat.le_trans hfr hC.2.2.2.2.2.2.2.2.1) (by rw [hst']; exact Nat.le_trans hlo hC.2.2.2.2.2.2.2.2.2.1) hC.2.2.2.2.2.2.2.2.2.2.1 hC.2.2.2.2.2.2.2.2.2.2.2 hd (kk ω p l e R s m args below meth c cells slots QZ hC hR H locs LS hL hP hS)
/-- the script -/
theorem q_scr_len {ω : q_Om} {p : Program} {l : Launch} {e : Env} {R : Room} {s : State} {m : MethodId} {args : Array Value} {below : List Frame} {meth : Method} {c : Code} {H : Heap} {locs : List Loc} {cells slots : Nat} {QZ : State → Prop} {cc : ByteArray} {LS : Array Slot} {rest : List Value} (hx : p.tables.exec = Jvm.exec) (hb : c.code = cc) (hO : q_Od ω s s.heap) (hS : va_S (q_A ω) s.heap H locs) (hd : decode cc pc = .ok (.arraylength, 1))
    (kk : W p l e R s m args below meth c H locs cells slots QZ (F0 m (pc + 1) LS (.int (nI (q_L ω)) :: rest))) : W p l e R s m args below meth c H locs cells slots QZ (F0 m pc LS (.ref (q_ad ω 380) :: rest)) :=
  va_slen hx hb hO.2.2.2.2.2.2.2.1.1 hO.2.2.2.2.2.2.2.1.2.1 hO.2.2.2.2.2.2.2.1.2.2 hS hd kk
end q_rules5
