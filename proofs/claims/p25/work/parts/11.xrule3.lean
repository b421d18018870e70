/-! THE X LAYER: fields, arrays, calls; a contract out of a body -/
def q_ty (c : Nat) : Nat → FieldType := match c with
  | 0 => tyX0
  | 1 => tyX1
  | 2 => tyX2
  | 3 => tyX3
  | 4 => tyX4
  | 5 => tyX6
  | _ => tyX7
theorem q_vc : ∀ c, c < 6 → vwCl[c]? = some (q_C c, q_T c, q_nf c) := by
  intro c h
  match c, h with
  | 0, _ => rfl
  | 1, _ => rfl
  | 2, _ => rfl
  | 3, _ => rfl
  | 4, _ => rfl
  | 5, _ => rfl
  | n + 6, h => omega
theorem q_wsin : ∀ c, c < 6 → ∀ w ∈ u_ws (q_C c) (q_T c) (q_nf c), w ∈ q_gw := by
  have key : ∀ c, c < 6 → ∀ w ∈ u_ws (q_C c) (q_T c) (q_nf c), w ∈ lw_tbl ∧ goodWord w = true := by
    intro c h
    match c, h with
    | 0, _ => exact fun w hw => ⟨inX0 w hw, (show ∀ w ∈ wsX00, goodWord w = true by decide +kernel) w hw⟩
    | 1, _ => exact fun w hw => ⟨inX1 w hw, (show ∀ w ∈ wsX10, goodWord w = true by decide +kernel) w hw⟩
    | 2, _ => exact fun w hw => ⟨inX2 w hw, (show ∀ w ∈ wsX20, goodWord w = true by decide +kernel) w hw⟩
    | 3, _ => exact fun w hw => ⟨inX3 w hw, (show ∀ w ∈ wsX30, goodWord w = true by decide +kernel) w hw⟩
    | 4, _ => exact fun w hw => ⟨inX4 w hw, (show ∀ w ∈ wsX40, goodWord w = true by decide +kernel) w hw⟩
    | 5, _ => exact fun w hw => ⟨inX6 w hw, (show ∀ w ∈ wsX60, goodWord w = true by decide +kernel) w hw⟩
    | n + 6, h => omega
  exact fun c h w hw => q_in (key c h w hw).1 (key c h w hw).2
theorem q_tyok : ∀ c, c < 6 → ∀ j, j < q_nf c → parseFieldDescriptor ((q_T c) j).2.2.1 = some (q_ty c j) := by
  intro c h
  match c, h with
  | 0, _ => exact tyX0_ok
  | 1, _ => exact tyX1_ok
  | 2, _ => exact tyX2_ok
  | 3, _ => exact tyX3_ok
  | 4, _ => exact tyX4_ok
  | 5, _ => exact tyX6_ok
  | n + 6, h => omega
theorem q_nm : ∀ c, c < 6 → ∀ a, a < q_nf c → ∀ b, b < q_nf c → a ≠ b → ((q_T c) a).2.1 ≠ ((q_T c) b).2.1 := by
  intro c h
  match c, h with
  | 0, _ => exact nmX0
  | 1, _ => exact nmX1
  | 2, _ => exact nmX2
  | 3, _ => exact nmX3
  | 4, _ => exact nmX4
  | 5, _ => exact nmX6
  | n + 6, h => omega
theorem q_kd_lt {k c : Nat} (h : q_kd k = c) (hc : c < 99) : k < 356 := by
  rcases Nat.lt_or_ge k 356 with z | z
  · exact z
  · have : q_kd k = 99 := by
      unfold q_kd
      rw [if_neg (by omega), if_neg (by omega), if_neg (by omega), if_neg (by omega), if_neg (by omega), if_neg (by omega), if_neg (by omega), if_neg (by omega)]
    omega
/-- the field of the place idx of own's pool: class c, slot j -/
abbrev q_Fl (own : String) (idx c j : Nat) : Prop := c < 6 ∧ j < q_nf c ∧ q_wd (Cond.fieldLink own idx ((q_T c) j).1 ((q_T c) j).2.1 ((q_T c) j).2.2.1)
/-- .. an int or boolean that is no constant -/
abbrev q_Fw (own : String) (idx c j : Nat) : Prop := q_Fl own idx c j ∧ q_ro c j = none ∧ ((q_T c) j).2.2.2 = false
section q_rules3
variable {k : q_MI} {pc : Nat} {ls : List (Option Value)} {st : List Value} {I : q_Mem} {Q : Option Value → q_Mem → Prop}
theorem q_getI {idx c j a : Nat} {v : Int32} (hf : q_Fl k.1.cls idx c j) (hr : q_ro c j = none) (ha : q_kd a = c) (hv : I a j = v) (hd : decode k.2.1 pc = .ok (.getfield idx, 3)) (kk : q_X k (pc + 3) ls (.int v :: st) I Q) : q_X k pc ls (.ref a :: st) I Q := by
  intro ω p l e R s m args below meth c0 cells slots QZ hC hR H locs LS hL hP hS
  subst hv
  have hlt := q_kd_lt ha (by omega)
  refine va_get (v := .int (I a j)) hC.1 hC.2.1 hC.2.2.2.2.1 (q_wsin c hf.1) hC.2.2.2.1 hC.2.2.2.2.2.1 hP a ((q_P_get hlt).trans (by rw [q_cell_obj ha hf.1])) (q_vc c hf.1) j hf.2.1 (hC.2.2.2.2.1 _ (q_in hf.2.2.1 hf.2.2.2)) (fun _ h9 => h9) ?_ hd (kk ω p l e R s m args below meth c0 cells slots QZ hC hR H locs LS hL hP hS)
  rw [List.getElem?_map, List.getElem?_range hf.2.1]
  simp only [Option.map_some, q_fv, ha, hr]
theorem q_getR {idx c j a d : Nat} (hf : q_Fl k.1.cls idx c j) (hr : q_ro c j = some d) (ha : q_kd a = c) (hd : decode k.2.1 pc = .ok (.getfield idx, 3)) (kk : q_X k (pc + 3) ls (.ref (a + d) :: st) I Q) : q_X k pc ls (.ref a :: st) I Q := by
  intro ω p l e R s m args below meth c0 cells slots QZ hC hR H locs LS hL hP hS
  have hlt := q_kd_lt ha (by omega)
  refine va_get (v := .ref (q_ad ω (a + d))) hC.1 hC.2.1 hC.2.2.2.2.1 (q_wsin c hf.1) hC.2.2.2.1 hC.2.2.2.2.2.1 hP a ((q_P_get hlt).trans (by rw [q_cell_obj ha hf.1])) (q_vc c hf.1) j hf.2.1 (hC.2.2.2.2.1 _ (q_in hf.2.2.1 hf.2.2.2)) (fun _ h9 => h9) ?_ hd (kk ω p l e R s m args below meth c0 cells slots QZ hC hR H locs LS hL hP hS)
  rw [List.getElem?_map, List.getElem?_range hf.2.1]
  simp only [Option.map_some, q_fv, ha, hr]
theorem q_putI {idx c j a : Nat} {x : Int32} (hf : q_Fw k.1.cls idx c j) (ha : q_kd a = c) (hn : narrow (q_ty c j) (.int x) = .int x ∧ fits (q_ty c j) (.int x) = true) (hd : decode k.2.1 pc = .ok (.putfield idx, 3)) (kk : q_X k (pc + 3) ls st (q_up I a j x) Q) : q_X k pc ls (.int x :: .ref a :: st) I Q := by
  intro ω p l e R s m args below meth c0 cells slots QZ hC hR H locs LS hL hP hS
  obtain ⟨⟨h7, hj, hl⟩, hro, hfin⟩ := hf
  have hlt := q_kd_lt ha (by omega)
  refine va_put (v := .int x) hC.1 hC.2.1 hC.2.2.2.2.1 (q_wsin c h7) (q_ty c) (q_tyok c h7) (q_nm c h7) hC.2.2.2.1 hC.2.2.2.2.2.1 hP (q_vD hC.2.2.2.2.2.2.1) hS a ((q_P_get hlt).trans (by rw [q_cell_obj ha h7])) (q_vc c h7) j hj (hC.2.2.2.2.1 _ (q_in hl.1 hl.2)) (fun _ h9 => h9) hfin (q_tyok c h7 j hj) hn.1 hn.2 (by simpa using hj) hd (fun H1 locs1 hP1 hD1 hS1 => ?_)
  rw [q_setI ha h7 hro] at hP1
  exact kk ω p l e R s m args below meth c0 cells slots QZ hC hR H1 locs1 LS hL hP1 hS1
theorem q_tysI (ω : q_Om) : (q_tys ω)[0]? = some (q_ca ω 10, .int) := rfl
theorem q_alen {a c : Nat} {v : Int32} (ha : q_kd a = c) (h10 : 10 ≤ c) (h14 : c < 15) (hv : nI (q_ln a) = v) (hd : decode k.2.1 pc = .ok (.arraylength, 1)) (kk : q_X k (pc + 1) ls (.int v :: st) I Q) : q_X k pc ls (.ref a :: st) I Q := by
  intro ω p l e R s m args below meth c0 cells slots QZ hC hR H locs LS hL hP hS
  have hlt := q_kd_lt ha (by omega)
  have kk := kk ω p l e R s m args below meth c0 cells slots QZ hC hR H locs LS hL hP hS
  have hg := q_P_get (ω := ω) (I := I) hlt
  have hc : c = 10 ∨ c = 11 ∨ c = 12 ∨ c = 13 ∨ c = 14 := by omega
  rcases hc with rfl | rfl | rfl | rfl | rfl
  · exact va_alen (x := (q_ln a, .inl (I a))) hC.1 hC.2.1 hC.2.2.2.2.2.1 hP a 0 (hg.trans (by rw [q_cell_arr ha (by omega) (by omega)])) rfl hv hd kk
  · exact va_alen (x := (q_ln a, .inl (I a))) hC.1 hC.2.1 hC.2.2.2.2.2.1 hP a 1 (hg.trans (by rw [q_cell_arr ha (by omega) (by omega)])) rfl hv hd kk
  · exact va_alen (x := (q_ln a, .inr (.inr (.inr (.inr (fun i => some (q_ad ω (q_el 12 a i)))))))) hC.1 hC.2.1 hC.2.2.2.2.2.1 hP a 2 (hg.trans (by rw [q_cell_ref ha (by omega)])) rfl hv hd kk
  · exact va_alen (x := (q_ln a, .inr (.inr (.inr (.inr (fun i => some (q_ad ω (q_el 13 a i)))))))) hC.1 hC.2.1 hC.2.2.2.2.2.1 hP a 3 (hg.trans (by rw [q_cell_ref ha (by omega)])) rfl hv hd kk
  · exact va_alen (x := (q_ln a, .inr (.inr (.inr (.inr (fun i => some (q_ad ω (q_el 14 a i)))))))) hC.1 hC.2.1 hC.2.2.2.2.2.1 hP a 4 (hg.trans (by rw [q_cell_ref ha (by omega)])) rfl hv hd kk
theorem q_iald {a i : Nat} {x v : Int32} (ha : q_kd a = 10) (hx : x = nI i) (hi : i < q_ln a) (hb : q_ln a < 2 ^ 31) (hv : I a i = v) (hd : decode k.2.1 pc = .ok (.iaload, 1)) (kk : q_X k (pc + 1) ls (.int v :: st) I Q) : q_X k pc ls (.int x :: .ref a :: st) I Q := by
  intro ω p l e R s m args below meth c0 cells slots QZ hC hR H locs LS hL hP hS
  subst hx; subst hv
  have kk := kk ω p l e R s m args below meth c0 cells slots QZ hC hR H locs LS hL hP hS
  refine va_iald hC.1 hC.2.1 hC.2.2.2.2.2.1 hP a 0 ((q_P_get (q_kd_lt ha (by omega))).trans (by rw [q_cell_arr ha (by omega) (by omega)])) rfl (vp_in_nI hi hb) hd ?_
  rw [nI_clamp (Nat.lt_trans hi hb)]
  exact kk
theorem q_cald {a i : Nat} {x v : Int32} (ha : q_kd a = 11) (hx : x = nI i) (hi : i < q_ln a) (hb : q_ln a < 2 ^ 31) (hv : I a i = v) (hd : decode k.2.1 pc = .ok (.caload, 1)) (kk : q_X k (pc + 1) ls (.int v :: st) I Q) : q_X k pc ls (.int x :: .ref a :: st) I Q := by
  intro ω p l e R s m args below meth c0 cells slots QZ hC hR H locs LS hL hP hS
  subst hx; subst hv
  have kk := kk ω p l e R s m args below meth c0 cells slots QZ hC hR H locs LS hL hP hS
  refine va_cald hC.1 hC.2.1 hC.2.2.2.2.2.1 hP a 1 ((q_P_get (q_kd_lt ha (by omega))).trans (by rw [q_cell_arr ha (by omega) (by omega)])) rfl (vp_in_nI hi hb) hd ?_
  rw [nI_clamp (Nat.lt_trans hi hb)]
  exact kk
theorem q_iast {a i : Nat} {x y : Int32} (ha : q_kd a = 10) (hx : x = nI i) (hi : i < q_ln a) (hb : q_ln a < 2 ^ 31) (hd : decode k.2.1 pc = .ok (.iastore, 1)) (kk : q_X k (pc + 1) ls st (q_up I a i y) Q) : q_X k pc ls (.int y :: .int x :: .ref a :: st) I Q := by
  intro ω p l e R s m args below meth c0 cells slots QZ hC hR H locs LS hL hP hS
  subst hx
  refine va_iast hC.1 hC.2.1 hC.2.2.2.2.2.1 hP (q_vD hC.2.2.2.2.2.2.1) hS a 0 ((q_P_get (q_kd_lt ha (by omega))).trans (by rw [q_cell_arr ha (by omega) (by omega)])) rfl (vp_in_nI hi hb) hd (fun H1 locs1 hP1 hD1 hS1 => ?_)
  rw [nI_clamp (Nat.lt_trans hi hb), q_setA ha (by omega) (by omega)] at hP1
  exact kk ω p l e R s m args below meth c0 cells slots QZ hC hR H1 locs1 LS hL hP1 hS1
theorem q_cast {a i : Nat} {x y : Int32} (ha : q_kd a = 11) (hx : x = nI i) (hi : i < q_ln a) (hb : q_ln a < 2 ^ 31) (hn : vp_nar .char y = y) (hd : decode k.2.1 pc = .ok (.castore, 1)) (kk : q_X k (pc + 1) ls st (q_up I a i y) Q) : q_X k pc ls (.int y :: .int x :: .ref a :: st) I Q := by
  intro ω p l e R s m args below meth c0 cells slots QZ hC hR H locs LS hL hP hS
  subst hx
  refine va_cast hC.1 hC.2.1 hC.2.2.2.2.2.1 hP (q_vD hC.2.2.2.2.2.2.1) hS a 1 ((q_P_get (q_kd_lt ha (by omega))).trans (by rw [q_cell_arr ha (by omega) (by omega)])) rfl (vp_in_nI hi hb) hd (fun H1 locs1 hP1 hD1 hS1 => ?_)
  rw [hn, nI_clamp (Nat.lt_trans hi hb), q_setA ha (by omega) (by omega)] at hP1
  exact kk ω p l e R s m args below meth c0 cells slots QZ hC hR H1 locs1 LS hL hP1 hS1
theorem q_aald {a i c : Nat} {x : Int32} (ha : q_kd a = c) (h12 : 12 ≤ c) (h15 : c < 15) (hx : x = nI i) (hi : i < q_ln a) (hb : q_ln a < 2 ^ 31) (hd : decode k.2.1 pc = .ok (.aaload, 1)) (kk : q_X k (pc + 1) ls (.ref (q_el c a i) :: st) I Q) : q_X k pc ls (.int x :: .ref a :: st) I Q := by
  intro ω p l e R s m args below meth c0 cells slots QZ hC hR H locs LS hL hP hS
  subst hx
  have kk := kk ω p l e R s m args below meth c0 cells slots QZ hC hR H locs LS hL hP hS
  have hg := (q_P_get (ω := ω) (I := I) (q_kd_lt ha (by omega))).trans (by rw [q_cell_ref ha h12])
  have hn := nI_clamp (Nat.lt_trans hi hb)
  have hc : c = 12 ∨ c = 13 ∨ c = 14 := by omega
  rcases hc with rfl | rfl | rfl
  · refine va_aldq hC.1 hC.2.1 hC.2.2.2.2.2.1 hP a 2 hg rfl (vp_in_nI hi hb) hd ?_
    rw [hn]; exact kk
  · refine va_aldq hC.1 hC.2.1 hC.2.2.2.2.2.1 hP a 3 hg rfl (vp_in_nI hi hb) hd ?_
    rw [hn]; exact kk
  · refine va_aldq hC.1 hC.2.1 hC.2.2.2.2.2.1 hP a 4 hg rfl (vp_in_nI hi hb) hd ?_
    rw [hn]; exact kk
end q_rules3
