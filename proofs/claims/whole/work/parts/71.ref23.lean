/-! the reference: its text is read -/
theorem MT.at {I : q_Mem} {t : List Nat} (h : MT I t) {i : Nat} (hi : i < t.length) : I 360 i = nI (gt t i) := by
  rw [h.2 i _ (List.getElem?_eq_getElem hi), gt, List.getElem?_eq_getElem hi]
  rfl
/-- what stays while an order is read -/
def FG (I J : q_Mem) : Prop := ∀ a j, ¬ a = 361 → ¬ (a = 356 ∧ 6 ≤ j) → J a j = I a j
theorem FG.rf {I : q_Mem} : FG I I := fun _ _ _ _ => rfl
theorem FG.tr {I J K : q_Mem} (h : FG I J) (h2 : FG J K) : FG I K := fun a j h3 h4 => (h2 a j h3 h4).trans (h a j h3 h4)
theorem FG.up {I J : q_Mem} (h : FG I J) {a j : Nat} {x : Int32} (ha : a = 361 ∨ (a = 356 ∧ 6 ≤ j)) : FG I (q_up J a j x) := fun b i h1 h2 => (q_up_n (by omega)).trans (h b i h1 h2)
theorem FG.mt {I J : q_Mem} (h : FG I J) {t : List Nat} (hr : MT I t) : MT J t := ⟨(h 356 5 (by omega) (by omega)).trans hr.1, fun i c hc => (h 360 i (by omega) (by omega)).trans (hr.2 i c hc)⟩
/-- an order is being read: its start, the place, the numbers -/
def RD (I J : q_Mem) (w s i : Nat) (l : List Nat) : Prop := FG I J ∧ J 356 6 = nI s ∧ J 356 7 = nI i ∧ J 356 8 = nI w ∧ J 356 10 = nI l.length ∧ (∀ k v, l[k]? = some v → J 361 k = nI v) ∧ J 356 11 = nI 0
/-- a fault of the form -/
def RF (I J : q_Mem) (s c : Nat) : Prop := FG I J ∧ J 356 6 = nI s ∧ J 356 11 = nI 1 ∧ J 356 12 = nI c
def rdR (I : q_Mem) (w s : Nat) (r : Bool × Nat × List Nat) (v : Option Value) (K : q_Mem) : Prop := v = none ∧ (if r.1 = true then RD I K w s r.2.1 r.2.2 else RF I K s (r.2.1 - s))
theorem RD.at {I J : q_Mem} {w s i i' : Nat} {l : List Nat} (h : RD I J w s i l) : RD I (q_up J 356 7 (nI i')) w s i' l := by
  obtain ⟨h1, h2, h3, h4, h5, h6, h7⟩ := h
  exact ⟨h1.up (by omega), (q_up_n (by omega)).trans h2, q_up_s, (q_up_n (by omega)).trans h4, (q_up_n (by omega)).trans h5, fun k v hv => (q_up_n (by omega)).trans (h6 k v hv), (q_up_n (by omega)).trans h7⟩
theorem RF.at {I J : q_Mem} {s c : Nat} {x : Int32} (h : RF I J s c) : RF I (q_up J 356 7 x) s c := by
  obtain ⟨h1, h2, h3, h4⟩ := h
  exact ⟨h1.up (by omega), (q_up_n (by omega)).trans h2, (q_up_n (by omega)).trans h3, (q_up_n (by omega)).trans h4⟩
theorem r_isNext {t : List Nat} {i a b : Nat} {I : q_Mem} (ht : tok t) (hT : MT I t) (hp : I 356 7 = nI i) (hi : i < 2 ^ 30) (ha : 1 ≤ a) (ha2 : a < 2 ^ 30) (hb : b < 2 ^ 30) : q_M kX7_isNext [.ref 356, .int (nI a), .int (nI b)] I (fun v J => v = some (.int (if a ≤ gt t i ∧ gt t i ≤ b then 1 else 0)) ∧ I = J) := by
  have h60 := ht.1
  have hg := gt_lt ht i
  refine q_M.of pnX7_isNext (by simp [Value.category]) (Nat.le_of_ble_eq_true rfl) ?_
  refine q_aload_n dX7_isNext_0 rfl ?_
  refine q_getI fl_RX7_194 rfl k356 hp dX7_isNext_1 ?_
  refine q_aload_n dX7_isNext_4 rfl ?_
  refine q_getI fl_RX7_182 rfl k356 hT.1 dX7_isNext_5 ?_
  refine q_icmp_geN (tgt := 32) (by omega) (by omega) dX7_isNext_8 (by decide) (fun q => ?_) (fun q => ?_)
  · have h0 := gt_0 q
    refine q_iconst (v := nI 0) dX7_isNext_32 (by decide) ?_
    exact q_iret rfl rfl dX7_isNext_33 ⟨by rw [if_neg (by omega)]; rfl, rfl⟩
  refine q_aload_n dX7_isNext_11 rfl ?_
  refine q_getR2 (b := 360) fl_RX7_19 rfl k356 rfl dX7_isNext_12 ?_
  refine q_aload_n dX7_isNext_15 rfl ?_
  refine q_getI fl_RX7_194 rfl k356 hp dX7_isNext_16 ?_
  refine q_iald k360 rfl (lt360 (by omega)) (by decide) (hT.at q) dX7_isNext_19 ?_
  refine q_iload_n dX7_isNext_20 rfl ?_
  refine q_iload_n dX7_isNext_21 rfl ?_
  refine q_cS (as := [_, _, _]) lk_RX7_32 r_in rfl (by decide) (Nat.le_of_ble_eq_true rfl) dX7_isNext_22 ?_
  rintro v J ⟨rfl, rfl⟩
  have e : (nI a ≤ nI (gt t i) ∧ nI (gt t i) ≤ nI b) ↔ (a ≤ gt t i ∧ gt t i ≤ b) := and_congr (nI_leI (by omega) (by omega)) (nI_leI (by omega) (by omega))
  by_cases z : a ≤ gt t i ∧ gt t i ≤ b
  · rw [if_pos (e.mpr z), if_pos z]
    refine q_if_eq (tgt := 32) dX7_isNext_25 (by decide) (fun q2 => ?_) (fun q2 => ?_)
    · exact absurd q2 (by decide)
    · refine q_iconst (v := nI 1) dX7_isNext_28 (by decide) ?_
      refine q_goto (tgt := 33) dX7_isNext_29 (by decide) ?_
      exact q_iret rfl rfl dX7_isNext_33 ⟨rfl, rfl⟩
  · rw [if_neg (fun y => z (e.mp y)), if_neg z]
    refine q_if_eq (tgt := 32) dX7_isNext_25 (by decide) (fun q2 => ?_) (fun q2 => ?_)
    · refine q_iconst (v := nI 0) dX7_isNext_32 (by decide) ?_
      exact q_iret rfl rfl dX7_isNext_33 ⟨rfl, rfl⟩
    · exact absurd rfl q2
theorem r_misfits {s i : Nat} {I : q_Mem} (h11 : I 356 11 = nI 0) (h6 : I 356 6 = nI s) (hs : s ≤ i) : q_M kX7_misfits [.ref 356, .int (nI i)] I (fun v J => v = none ∧ J = q_up (q_up I 356 11 (nI 1)) 356 12 (nI (i - s))) := by
  refine q_M.of pnX7_misfits (by simp [Value.category]) (Nat.le_of_ble_eq_true rfl) ?_
  refine q_aload_n dX7_misfits_0 rfl ?_
  refine q_aload_n dX7_misfits_1 rfl ?_
  refine q_getI fl_RX7_185 rfl k356 h11 dX7_misfits_2 ?_
  refine q_if_neN (tgt := 12) (by omega) dX7_misfits_5 (by decide) (fun q => ?_) (fun q => ?_)
  · omega
  refine q_iconst (v := nI 1) dX7_misfits_8 (by decide) ?_
  refine q_goto (tgt := 16) dX7_misfits_9 (by decide) ?_
  refine q_putI ⟨fl_RX7_185, rfl, rfl⟩ k356 ⟨rfl, rfl⟩ dX7_misfits_16 ?_
  refine q_aload_n dX7_misfits_19 rfl ?_
  refine q_iload_n dX7_misfits_20 rfl ?_
  refine q_aload_n dX7_misfits_21 rfl ?_
  refine q_getI fl_RX7_188 rfl k356 ((q_up_n (by omega)).trans h6) dX7_misfits_22 ?_
  refine q_isub dX7_misfits_25 ?_
  rw [pk_sub hs]
  refine q_putI ⟨fl_RX7_191, rfl, rfl⟩ k356 ⟨rfl, rfl⟩ dX7_misfits_26 ?_
  exact q_vret rfl dX7_misfits_29 ⟨rfl, rfl⟩
theorem RD.misfit {I J : q_Mem} {w s i c : Nat} {l : List Nat} (h : RD I J w s i l) : RF I (q_up (q_up J 356 11 (nI 1)) 356 12 (nI c)) s c :=
  ⟨(h.1.up (by omega)).up (by omega), (q_up_n (by omega)).trans ((q_up_n (by omega)).trans h.2.1), (q_up_n (by omega)).trans q_up_s, q_up_s⟩
theorem r_spells {t : List Nat} {s n a b c d : Nat} {I : q_Mem} (ht : tok t) (hT : MT I t) (h6 : I 356 6 = nI s) (hn : 4 ≤ n) (hsn : s + n ≤ t.length) (ha : a < 127) (hb : b < 127) (hc : c < 127) (hd : d < 127) : q_M kX7_spells [.ref 356, .int (nI n), .int (nI a), .int (nI b), .int (nI c), .int (nI d)] I (fun v J => v = some (.int (if gt t s = a ∧ gt t (s + 1) = b ∧ gt t (s + 2) = c ∧ gt t (s + 3) = d then 1 else 0)) ∧ I = J) := by
  have h60 := ht.1
  have g0 := gt_lt ht s
  have g1 := gt_lt ht (s + 1)
  have g2 := gt_lt ht (s + 2)
  have g3 := gt_lt ht (s + 3)
  have no : ¬ (gt t s = a ∧ gt t (s + 1) = b ∧ gt t (s + 2) = c ∧ gt t (s + 3) = d) → q_X kX7_spells 69 [some (.ref 356), some (.int (nI n)), some (.int (nI a)), some (.int (nI b)), some (.int (nI c)), some (.int (nI d))] [] I (fun v J => v = some (.int (if gt t s = a ∧ gt t (s + 1) = b ∧ gt t (s + 2) = c ∧ gt t (s + 3) = d then 1 else 0)) ∧ I = J) := by
    intro z
    refine q_iconst (v := nI 0) dX7_spells_69 (by decide) ?_
    exact q_iret rfl rfl dX7_spells_70 ⟨by rw [if_neg z]; rfl, rfl⟩
  refine q_M.of pnX7_spells (by simp [Value.category]) (Nat.le_of_ble_eq_true rfl) ?_
  refine q_iload_n dX7_spells_0 rfl ?_
  refine q_iconst (v := nI 4) dX7_spells_1 (by decide) ?_
  refine q_icmp_ltN (tgt := 69) (by omega) (by omega) dX7_spells_2 (by decide) (fun q => ?_) (fun q => ?_)
  · omega
  refine q_aload_n dX7_spells_5 rfl ?_
  refine q_getR2 (b := 360) fl_RX7_19 rfl k356 rfl dX7_spells_6 ?_
  refine q_aload_n dX7_spells_9 rfl ?_
  refine q_getI fl_RX7_188 rfl k356 h6 dX7_spells_10 ?_
  refine q_iald k360 rfl (lt360 (by omega)) (by decide) (hT.at (i := s) (by omega)) dX7_spells_13 ?_
  refine q_iload_n dX7_spells_14 rfl ?_
  refine q_icmp_neN (tgt := 69) (by omega) (by omega) dX7_spells_15 (by decide) (fun q0 => ?_) (fun q0 => ?_)
  · exact no (fun z => q0 z.1)
  refine q_aload_n dX7_spells_18 rfl ?_
  refine q_getR2 (b := 360) fl_RX7_19 rfl k356 rfl dX7_spells_19 ?_
  refine q_aload_n dX7_spells_22 rfl ?_
  refine q_getI fl_RX7_188 rfl k356 h6 dX7_spells_23 ?_
  refine q_iconst (v := nI 1) dX7_spells_26 (by decide) ?_
  refine q_iadd dX7_spells_27 ?_
  rw [nI_add]
  refine q_iald k360 rfl (lt360 (by omega)) (by decide) (hT.at (i := s + 1) (by omega)) dX7_spells_28 ?_
  refine q_iload_n dX7_spells_29 rfl ?_
  refine q_icmp_neN (tgt := 69) (by omega) (by omega) dX7_spells_30 (by decide) (fun q1 => ?_) (fun q1 => ?_)
  · exact no (fun z => q1 z.2.1)
  refine q_aload_n dX7_spells_33 rfl ?_
  refine q_getR2 (b := 360) fl_RX7_19 rfl k356 rfl dX7_spells_34 ?_
  refine q_aload_n dX7_spells_37 rfl ?_
  refine q_getI fl_RX7_188 rfl k356 h6 dX7_spells_38 ?_
  refine q_iconst (v := nI 2) dX7_spells_41 (by decide) ?_
  refine q_iadd dX7_spells_42 ?_
  rw [nI_add]
  refine q_iald k360 rfl (lt360 (by omega)) (by decide) (hT.at (i := s + 2) (by omega)) dX7_spells_43 ?_
  refine q_iload dX7_spells_44 rfl ?_
  refine q_icmp_neN (tgt := 69) (by omega) (by omega) dX7_spells_46 (by decide) (fun q2 => ?_) (fun q2 => ?_)
  · exact no (fun z => q2 z.2.2.1)
  refine q_aload_n dX7_spells_49 rfl ?_
  refine q_getR2 (b := 360) fl_RX7_19 rfl k356 rfl dX7_spells_50 ?_
  refine q_aload_n dX7_spells_53 rfl ?_
  refine q_getI fl_RX7_188 rfl k356 h6 dX7_spells_54 ?_
  refine q_iconst (v := nI 3) dX7_spells_57 (by decide) ?_
  refine q_iadd dX7_spells_58 ?_
  rw [nI_add]
  refine q_iald k360 rfl (lt360 (by omega)) (by decide) (hT.at (i := s + 3) (by omega)) dX7_spells_59 ?_
  refine q_iload dX7_spells_60 rfl ?_
  refine q_icmp_neN (tgt := 69) (by omega) (by omega) dX7_spells_62 (by decide) (fun q3 => ?_) (fun q3 => ?_)
  · exact no (fun z => q3 z.2.2.2)
  refine q_iconst (v := nI 1) dX7_spells_65 (by decide) ?_
  refine q_goto (tgt := 70) dX7_spells_66 (by decide) ?_
  exact q_iret rfl rfl dX7_spells_70 ⟨by rw [if_pos ⟨q0, q1, q2, q3⟩]; rfl, rfl⟩
theorem wmt_4 {t : List Nat} {s n w : Nat} (h : wll w = 4) : wmt t s n w ↔ n = 4 ∧ gt t s = wlc w 0 ∧ gt t (s + 1) = wlc w 1 ∧ gt t (s + 2) = wlc w 2 ∧ gt t (s + 3) = wlc w 3 := by
  unfold wmt
  rw [h]
  refine and_congr Iff.rfl ⟨fun z => ⟨z 0 (by omega), z 1 (by omega), z 2 (by omega), z 3 (by omega)⟩, fun z j hj => ?_⟩
  obtain ⟨z0, z1, z2, z3⟩ := z
  have hj4 : j = 0 ∨ j = 1 ∨ j = 2 ∨ j = 3 := by omega
  rcases hj4 with rfl | rfl | rfl | rfl
  · exact z0
  · exact z1
  · exact z2
  · exact z3
theorem wmt_5 {t : List Nat} {s n w : Nat} (h : wll w = 5) : wmt t s n w ↔ n = 5 ∧ gt t (s + 4) = wlc w 4 ∧ gt t s = wlc w 0 ∧ gt t (s + 1) = wlc w 1 ∧ gt t (s + 2) = wlc w 2 ∧ gt t (s + 3) = wlc w 3 := by
  unfold wmt
  rw [h]
  refine and_congr Iff.rfl ⟨fun z => ⟨z 4 (by omega), z 0 (by omega), z 1 (by omega), z 2 (by omega), z 3 (by omega)⟩, fun z j hj => ?_⟩
  obtain ⟨z4, z0, z1, z2, z3⟩ := z
  have hj4 : j = 0 ∨ j = 1 ∨ j = 2 ∨ j = 3 ∨ j = 4 := by omega
  rcases hj4 with rfl | rfl | rfl | rfl | rfl
  · exact z0
  · exact z1
  · exact z2
  · exact z3
  · exact z4
theorem wdr_5 (t : List Nat) (s n : Nat) : wdr t s n 5 0 = if wmt t s n 0 then 1 else if wmt t s n 1 then 2 else if wmt t s n 2 then 3 else if wmt t s n 3 then 4 else if wmt t s n 4 then 5 else 0 := by
  simp only [wdr]
theorem r_wordOf {t : List Nat} {s n : Nat} {I : q_Mem} (ht : tok t) (hT : MT I t) (h6 : I 356 6 = nI s) (hsn : s + n ≤ t.length) : q_M kX7_wordOf [.ref 356, .int (nI n)] I (fun v J => v = some (.int (enc (wdr t s n 5 0))) ∧ I = J) := by
  have h60 := ht.1
  have g4 := gt_lt ht (s + 4)
  have e0 : wmt t s n 0 ↔ n = 4 ∧ gt t s = 106 ∧ gt t (s + 1) = 111 ∧ gt t (s + 2) = 105 ∧ gt t (s + 3) = 110 := wmt_4 rfl
  have e1 : wmt t s n 1 ↔ n = 4 ∧ gt t s = 119 ∧ gt t (s + 1) = 105 ∧ gt t (s + 2) = 115 ∧ gt t (s + 3) = 104 := wmt_4 rfl
  have e2 : wmt t s n 2 ↔ n = 5 ∧ gt t (s + 4) = 101 ∧ gt t s = 108 ∧ gt t (s + 1) = 101 ∧ gt t (s + 2) = 97 ∧ gt t (s + 3) = 118 := wmt_5 rfl
  have e3 : wmt t s n 3 ↔ n = 5 ∧ gt t (s + 4) = 101 ∧ gt t s = 99 ∧ gt t (s + 1) = 108 ∧ gt t (s + 2) = 111 ∧ gt t (s + 3) = 115 := wmt_5 rfl
  have e4 : wmt t s n 4 ↔ n = 4 ∧ gt t s = 116 ∧ gt t (s + 1) = 101 ∧ gt t (s + 2) = 114 ∧ gt t (s + 3) = 109 := wmt_4 rfl
  rw [wdr_5]
  refine q_M.of pnX7_wordOf (by simp [Value.category]) (Nat.le_of_ble_eq_true rfl) ?_
  refine q_iload_n dX7_wordOf_0 rfl ?_
  refine q_iconst (v := nI 4) dX7_wordOf_1 (by decide) ?_
  refine q_icmp_neN (tgt := 67) (by omega) (by omega) dX7_wordOf_2 (by decide) (fun q => ?_) (fun q => ?_)
  rotate_left
  · subst q
    have n2 : ¬ wmt t s 4 2 := fun z => by have := (e2.mp z).1; omega
    have n3 : ¬ wmt t s 4 3 := fun z => by have := (e3.mp z).1; omega
    rw [if_neg n2, if_neg n3]
    refine q_aload_n dX7_wordOf_5 rfl ?_
    refine q_iload_n dX7_wordOf_6 rfl ?_
    refine q_bipush (v := nI 106) dX7_wordOf_7 (by decide) ?_
    refine q_bipush (v := nI 111) dX7_wordOf_9 (by decide) ?_
    refine q_bipush (v := nI 105) dX7_wordOf_11 (by decide) ?_
    refine q_bipush (v := nI 110) dX7_wordOf_13 (by decide) ?_
    refine q_cV (as := [_, _, _, _, _]) lk_RX7_197 (r_spells (a := 106) (b := 111) (c := 105) (d := 110) ht hT h6 (by omega) hsn (by omega) (by omega) (by omega) (by omega)) (Or.inl ⟨6, by decide, k356, rfl⟩) rfl (by decide) (Nat.le_of_ble_eq_true rfl) dX7_wordOf_15 ?_
    rintro v J ⟨rfl, rfl⟩
    by_cases z0 : gt t s = 106 ∧ gt t (s + 1) = 111 ∧ gt t (s + 2) = 105 ∧ gt t (s + 3) = 110
    · rw [if_pos z0, if_pos (e0.mpr ⟨rfl, z0⟩)]
      refine q_if_eq (tgt := 25) dX7_wordOf_18 (by decide) (fun q2 => ?_) (fun q2 => ?_)
      · exact absurd q2 (by decide)
      · refine q_iconst (v := nI 0) dX7_wordOf_21 (by decide) ?_
        refine q_goto (tgt := 66) dX7_wordOf_22 (by decide) ?_
        exact q_iret rfl rfl dX7_wordOf_66 ⟨rfl, rfl⟩
    rw [if_neg z0, if_neg (show ¬ wmt t s 4 0 from fun z => z0 (e0.mp z).2)]
    refine q_if_eq (tgt := 25) dX7_wordOf_18 (by decide) (fun q2 => ?_) (fun q2 => ?_)
    rotate_left
    · exact absurd rfl q2
    refine q_aload_n dX7_wordOf_25 rfl ?_
    refine q_iload_n dX7_wordOf_26 rfl ?_
    refine q_bipush (v := nI 119) dX7_wordOf_27 (by decide) ?_
    refine q_bipush (v := nI 105) dX7_wordOf_29 (by decide) ?_
    refine q_bipush (v := nI 115) dX7_wordOf_31 (by decide) ?_
    refine q_bipush (v := nI 104) dX7_wordOf_33 (by decide) ?_
    refine q_cV (as := [_, _, _, _, _]) lk_RX7_197 (r_spells (a := 119) (b := 105) (c := 115) (d := 104) ht hT h6 (by omega) hsn (by omega) (by omega) (by omega) (by omega)) (Or.inl ⟨6, by decide, k356, rfl⟩) rfl (by decide) (Nat.le_of_ble_eq_true rfl) dX7_wordOf_35 ?_
    rintro v J ⟨rfl, rfl⟩
    by_cases z1 : gt t s = 119 ∧ gt t (s + 1) = 105 ∧ gt t (s + 2) = 115 ∧ gt t (s + 3) = 104
    · rw [if_pos z1, if_pos (e1.mpr ⟨rfl, z1⟩)]
      refine q_if_eq (tgt := 45) dX7_wordOf_38 (by decide) (fun q2 => ?_) (fun q2 => ?_)
      · exact absurd q2 (by decide)
      · refine q_iconst (v := nI 1) dX7_wordOf_41 (by decide) ?_
        refine q_goto (tgt := 66) dX7_wordOf_42 (by decide) ?_
        exact q_iret rfl rfl dX7_wordOf_66 ⟨rfl, rfl⟩
    rw [if_neg z1, if_neg (show ¬ wmt t s 4 1 from fun z => z1 (e1.mp z).2)]
    refine q_if_eq (tgt := 45) dX7_wordOf_38 (by decide) (fun q2 => ?_) (fun q2 => ?_)
    rotate_left
    · exact absurd rfl q2
    refine q_aload_n dX7_wordOf_45 rfl ?_
    refine q_iload_n dX7_wordOf_46 rfl ?_
    refine q_bipush (v := nI 116) dX7_wordOf_47 (by decide) ?_
    refine q_bipush (v := nI 101) dX7_wordOf_49 (by decide) ?_
    refine q_bipush (v := nI 114) dX7_wordOf_51 (by decide) ?_
    refine q_bipush (v := nI 109) dX7_wordOf_53 (by decide) ?_
    refine q_cV (as := [_, _, _, _, _]) lk_RX7_197 (r_spells (a := 116) (b := 101) (c := 114) (d := 109) ht hT h6 (by omega) hsn (by omega) (by omega) (by omega) (by omega)) (Or.inl ⟨6, by decide, k356, rfl⟩) rfl (by decide) (Nat.le_of_ble_eq_true rfl) dX7_wordOf_55 ?_
    rintro v J ⟨rfl, rfl⟩
    by_cases z4 : gt t s = 116 ∧ gt t (s + 1) = 101 ∧ gt t (s + 2) = 114 ∧ gt t (s + 3) = 109
    · rw [if_pos z4, if_pos (e4.mpr ⟨rfl, z4⟩)]
      refine q_if_eq (tgt := 65) dX7_wordOf_58 (by decide) (fun q2 => ?_) (fun q2 => ?_)
      · exact absurd q2 (by decide)
      · refine q_iconst (v := nI 4) dX7_wordOf_61 (by decide) ?_
        refine q_goto (tgt := 66) dX7_wordOf_62 (by decide) ?_
        exact q_iret rfl rfl dX7_wordOf_66 ⟨rfl, rfl⟩
    rw [if_neg z4, if_neg (show ¬ wmt t s 4 4 from fun z => z4 (e4.mp z).2)]
    refine q_if_eq (tgt := 65) dX7_wordOf_58 (by decide) (fun q2 => ?_) (fun q2 => ?_)
    rotate_left
    · exact absurd rfl q2
    refine q_iconst (v := -1) dX7_wordOf_65 (by decide) ?_
    exact q_iret rfl rfl dX7_wordOf_66 ⟨rfl, rfl⟩
  rw [if_neg (show ¬ wmt t s n 0 from fun z => q (e0.mp z).1), if_neg (show ¬ wmt t s n 1 from fun z => q (e1.mp z).1), if_neg (show ¬ wmt t s n 4 from fun z => q (e4.mp z).1)]
  have five : n = 5 → gt t (s + 4) = 101 → q_X kX7_wordOf 93 [some (.ref 356), some (.int (nI n)), none] [.int (nI 1)] I (fun v J => v = some (.int (enc (if wmt t s n 2 then 3 else if wmt t s n 3 then 4 else 0))) ∧ I = J) := by
    intro h5 hg
    subst h5
    refine q_istore_n (ls' := [_, _, _]) dX7_wordOf_93 (Nat.le_of_ble_eq_true rfl) rfl ?_
    refine q_iload_n dX7_wordOf_94 rfl ?_
    refine q_if_eq (tgt := 118) dX7_wordOf_95 (by decide) (fun q2 => ?_) (fun q2 => ?_)
    · exact absurd q2 (by decide)
    refine q_aload_n dX7_wordOf_98 rfl ?_
    refine q_iload_n dX7_wordOf_99 rfl ?_
    refine q_bipush (v := nI 108) dX7_wordOf_100 (by decide) ?_
    refine q_bipush (v := nI 101) dX7_wordOf_102 (by decide) ?_
    refine q_bipush (v := nI 97) dX7_wordOf_104 (by decide) ?_
    refine q_bipush (v := nI 118) dX7_wordOf_106 (by decide) ?_
    refine q_cV (as := [_, _, _, _, _]) lk_RX7_197 (r_spells (a := 108) (b := 101) (c := 97) (d := 118) ht hT h6 (by omega) hsn (by omega) (by omega) (by omega) (by omega)) (Or.inl ⟨6, by decide, k356, rfl⟩) rfl (by decide) (Nat.le_of_ble_eq_true rfl) dX7_wordOf_108 ?_
    rintro v J ⟨rfl, rfl⟩
    by_cases z2 : gt t s = 108 ∧ gt t (s + 1) = 101 ∧ gt t (s + 2) = 97 ∧ gt t (s + 3) = 118
    · rw [if_pos z2, if_pos (e2.mpr ⟨rfl, hg, z2⟩)]
      refine q_if_eq (tgt := 118) dX7_wordOf_111 (by decide) (fun q2 => ?_) (fun q2 => ?_)
      · exact absurd q2 (by decide)
      · refine q_iconst (v := nI 2) dX7_wordOf_114 (by decide) ?_
        refine q_goto (tgt := 143) dX7_wordOf_115 (by decide) ?_
        exact q_iret rfl rfl dX7_wordOf_143 ⟨rfl, rfl⟩
    rw [if_neg z2, if_neg (show ¬ wmt t s 5 2 from fun z => z2 (e2.mp z).2.2)]
    refine q_if_eq (tgt := 118) dX7_wordOf_111 (by decide) (fun q2 => ?_) (fun q2 => ?_)
    rotate_left
    · exact absurd rfl q2
    refine q_iload_n dX7_wordOf_118 rfl ?_
    refine q_if_eq (tgt := 142) dX7_wordOf_119 (by decide) (fun q2 => ?_) (fun q2 => ?_)
    · exact absurd q2 (by decide)
    refine q_aload_n dX7_wordOf_122 rfl ?_
    refine q_iload_n dX7_wordOf_123 rfl ?_
    refine q_bipush (v := nI 99) dX7_wordOf_124 (by decide) ?_
    refine q_bipush (v := nI 108) dX7_wordOf_126 (by decide) ?_
    refine q_bipush (v := nI 111) dX7_wordOf_128 (by decide) ?_
    refine q_bipush (v := nI 115) dX7_wordOf_130 (by decide) ?_
    refine q_cV (as := [_, _, _, _, _]) lk_RX7_197 (r_spells (a := 99) (b := 108) (c := 111) (d := 115) ht hT h6 (by omega) hsn (by omega) (by omega) (by omega) (by omega)) (Or.inl ⟨6, by decide, k356, rfl⟩) rfl (by decide) (Nat.le_of_ble_eq_true rfl) dX7_wordOf_132 ?_
    rintro v J ⟨rfl, rfl⟩
    by_cases z3 : gt t s = 99 ∧ gt t (s + 1) = 108 ∧ gt t (s + 2) = 111 ∧ gt t (s + 3) = 115
    · rw [if_pos z3, if_pos (e3.mpr ⟨rfl, hg, z3⟩)]
      refine q_if_eq (tgt := 142) dX7_wordOf_135 (by decide) (fun q2 => ?_) (fun q2 => ?_)
      · exact absurd q2 (by decide)
      · refine q_iconst (v := nI 3) dX7_wordOf_138 (by decide) ?_
        refine q_goto (tgt := 143) dX7_wordOf_139 (by decide) ?_
        exact q_iret rfl rfl dX7_wordOf_143 ⟨rfl, rfl⟩
    rw [if_neg z3, if_neg (show ¬ wmt t s 5 3 from fun z => z3 (e3.mp z).2.2)]
    refine q_if_eq (tgt := 142) dX7_wordOf_135 (by decide) (fun q2 => ?_) (fun q2 => ?_)
    rotate_left
    · exact absurd rfl q2
    refine q_iconst (v := -1) dX7_wordOf_142 (by decide) ?_
    exact q_iret rfl rfl dX7_wordOf_143 ⟨rfl, rfl⟩
  have none5 : ¬ (n = 5 ∧ gt t (s + 4) = 101) → q_X kX7_wordOf 92 [some (.ref 356), some (.int (nI n)), none] [] I (fun v J => v = some (.int (enc (if wmt t s n 2 then 3 else if wmt t s n 3 then 4 else 0))) ∧ I = J) := by
    intro hz
    rw [if_neg (show ¬ wmt t s n 2 from fun z => hz ⟨(e2.mp z).1, (e2.mp z).2.1⟩), if_neg (show ¬ wmt t s n 3 from fun z => hz ⟨(e3.mp z).1, (e3.mp z).2.1⟩)]
    refine q_iconst (v := nI 0) dX7_wordOf_92 (by decide) ?_
    refine q_istore_n (ls' := [_, _, _]) dX7_wordOf_93 (Nat.le_of_ble_eq_true rfl) rfl ?_
    refine q_iload_n dX7_wordOf_94 rfl ?_
    refine q_if_eq (tgt := 118) dX7_wordOf_95 (by decide) (fun q2 => ?_) (fun q2 => ?_)
    rotate_left
    · exact absurd rfl q2
    refine q_iload_n dX7_wordOf_118 rfl ?_
    refine q_if_eq (tgt := 142) dX7_wordOf_119 (by decide) (fun q2 => ?_) (fun q2 => ?_)
    rotate_left
    · exact absurd rfl q2
    refine q_iconst (v := -1) dX7_wordOf_142 (by decide) ?_
    exact q_iret rfl rfl dX7_wordOf_143 ⟨rfl, rfl⟩
  refine q_iload_n dX7_wordOf_67 rfl ?_
  refine q_iconst (v := nI 5) dX7_wordOf_68 (by decide) ?_
  refine q_icmp_neN (tgt := 92) (by omega) (by omega) dX7_wordOf_69 (by decide) (fun q5 => ?_) (fun q5 => ?_)
  · exact none5 (fun z => q5 z.1)
  refine q_aload_n dX7_wordOf_72 rfl ?_
  refine q_getR2 (b := 360) fl_RX7_19 rfl k356 rfl dX7_wordOf_73 ?_
  refine q_aload_n dX7_wordOf_76 rfl ?_
  refine q_getI fl_RX7_188 rfl k356 h6 dX7_wordOf_77 ?_
  refine q_iconst (v := nI 4) dX7_wordOf_80 (by decide) ?_
  refine q_iadd dX7_wordOf_81 ?_
  rw [nI_add]
  refine q_iald k360 rfl (lt360 (by omega)) (by decide) (hT.at (i := s + 4) (by omega)) dX7_wordOf_82 ?_
  refine q_bipush (v := nI 101) dX7_wordOf_83 (by decide) ?_
  refine q_icmp_neN (tgt := 92) (by omega) (by omega) dX7_wordOf_85 (by decide) (fun q6 => ?_) (fun q6 => ?_)
  · exact none5 (fun z => q6 z.2)
  refine q_iconst (v := nI 1) dX7_wordOf_88 (by decide) ?_
  refine q_goto (tgt := 93) dX7_wordOf_89 (by decide) ?_
  exact five q5 q6
/-- behind a number, and the number -/
def nxt (t : List Nat) (i : Nat) : Nat := if isd (gt t (i + 1)) then i + 2 else i + 1
def num (t : List Nat) (i : Nat) : Nat := if isd (gt t (i + 1)) then 10 * (gt t i - 48) + gt t (i + 1) - 48 else gt t i - 48
theorem rns_s (t : List Nat) (w d i : Nat) (l : List Nat) : rns t w (d + 1) i l = if isd (gt t i) then rtl t w (rns t w d) (nxt t i) (l ++ [num t i]) else (false, i, l) := by
  rw [rns, nxt, num]
  by_cases e : isd (gt t i)
  · rw [if_neg (fun z : ¬ isd (gt t i) => z e), if_pos e]
    by_cases e1 : isd (gt t (i + 1))
    · rw [if_pos e1, if_pos e1, if_pos e1]
    · rw [if_neg e1, if_neg e1, if_neg e1]
  · rw [if_pos e, if_neg e]
theorem nxt_le {t : List Nat} {i : Nat} (h : isd (gt t i)) : i < nxt t i ∧ nxt t i ≤ t.length := by
  have h1 := gt_in (t := t) (i := i) (by omega)
  unfold nxt
  by_cases e1 : isd (gt t (i + 1))
  · rw [if_pos e1]
    have h2 := gt_in (t := t) (i := i + 1) (by omega)
    omega
  · rw [if_neg e1]
    omega
def rnQ (I : q_Mem) (t : List Nat) (w s i : Nat) (l : List Nat) (v : Option Value) (K : q_Mem) : Prop := v = none ∧ (if isd (gt t i) then RD I K w s (nxt t i) (l ++ [num t i]) else RF I K s (i - s))
theorem r_readNumber {t : List Nat} {w s i : Nat} {l : List Nat} {I J : q_Mem} (ht : tok t) (hT : MT I t) (h : RD I J w s i l) (hl : l.length < 4) (hs : s ≤ i) (hi : i < 2 ^ 30) : q_M kX7_readNumber [.ref 356] J (rnQ I t w s i l) := by
  have h60 := ht.1
  have g0 := gt_lt ht i
  have g1 := gt_lt ht (i + 1)
  have hTJ := h.1.mt hT
  obtain ⟨h1, h2, h3, h4, h5, h6, h7⟩ := id h
  have fin : ∀ (K : q_Mem) (u v : Nat), FG I K → K 356 6 = nI s → K 356 7 = nI u → K 356 8 = nI w → K 356 10 = nI l.length → (∀ k v, l[k]? = some v → K 361 k = nI v) → K 356 11 = nI 0 → q_X kX7_readNumber 82 [some (.ref 356), some (.int (nI v))] [] K (fun x L => x = none ∧ RD I L w s u (l ++ [v])) := by
    intro K u v k1 k2 k3 k4 k5 k6 k7
    refine q_aload_n dX7_readNumber_82 rfl ?_
    refine q_getR2 (b := 361) fl_RX7_22 rfl k356 rfl dX7_readNumber_83 ?_
    refine q_aload_n dX7_readNumber_86 rfl ?_
    refine q_getI fl_RX7_207 rfl k356 k5 dX7_readNumber_87 ?_
    refine q_iload_n dX7_readNumber_90 rfl ?_
    refine q_iast k361 rfl (lt361 hl) (by decide) dX7_readNumber_91 ?_
    have k5' : q_up K 361 l.length (nI v) 356 10 = nI l.length := (q_up_n (by omega)).trans k5
    refine q_aload_n dX7_readNumber_92 rfl ?_
    refine q_dup dX7_readNumber_93 rfl ?_
    refine q_getI fl_RX7_207 rfl k356 k5' dX7_readNumber_94 ?_
    refine q_iconst (v := nI 1) dX7_readNumber_97 (by decide) ?_
    refine q_iadd dX7_readNumber_98 ?_
    rw [nI_add]
    refine q_putI ⟨fl_RX7_207, rfl, rfl⟩ k356 ⟨rfl, rfl⟩ dX7_readNumber_99 ?_
    refine q_vret rfl dX7_readNumber_102 ⟨rfl, (k1.up (Or.inl rfl)).up (by omega), (q_up_n (by omega)).trans ((q_up_n (by omega)).trans k2), (q_up_n (by omega)).trans ((q_up_n (by omega)).trans k3), (q_up_n (by omega)).trans ((q_up_n (by omega)).trans k4), ?_, fun k y hy => ?_, (q_up_n (by omega)).trans ((q_up_n (by omega)).trans k7)⟩
    · rw [q_up_s, List.length_append]; rfl
    · refine (q_up_n (by omega)).trans ?_
      by_cases e2 : k = l.length
      · subst e2
        rw [List.getElem?_append_right (Nat.le_refl _)] at hy
        simp at hy
        rw [q_up_s, hy]
      · refine (q_up_n (by omega)).trans ?_
        have hll : (l ++ [v]).length = l.length + 1 := by rw [List.length_append]; rfl
        have hk : k < l.length := by
          have := g_lt hy (show (l ++ [v]).length ≤ l.length + 1 by omega)
          omega
        rw [List.getElem?_append_left hk] at hy
        exact k6 k y hy
  refine q_M.of pnX7_readNumber (by simp [Value.category]) (Nat.le_of_ble_eq_true rfl) ?_
  refine q_aload_n dX7_readNumber_0 rfl ?_
  refine q_bipush (v := nI 48) dX7_readNumber_1 (by decide) ?_
  refine q_bipush (v := nI 57) dX7_readNumber_3 (by decide) ?_
  refine q_cV (as := [_, _]) lk_RX7_201 (r_isNext (a := 48) (b := 57) ht hTJ h3 hi (by omega) (by omega) (by omega)) (Or.inl ⟨6, by decide, k356, rfl⟩) rfl (by decide) (Nat.le_of_ble_eq_true rfl) dX7_readNumber_5 ?_
  rintro v J' ⟨rfl, rfl⟩
  by_cases e : isd (gt t i)
  case neg =>
    rw [if_neg e]
    refine q_if_ne (tgt := 20) dX7_readNumber_8 (by decide) (fun q => ?_) (fun q => ?_)
    · exact absurd rfl q
    refine q_aload_n dX7_readNumber_11 rfl ?_
    refine q_aload_n dX7_readNumber_12 rfl ?_
    refine q_getI fl_RX7_194 rfl k356 h3 dX7_readNumber_13 ?_
    refine q_cV (as := [_]) lk_RX7_204 (r_misfits h7 h2 hs) (Or.inl ⟨6, by decide, k356, rfl⟩) rfl (by decide) (Nat.le_of_ble_eq_true rfl) dX7_readNumber_16 ?_
    rintro v J' ⟨rfl, rfl⟩
    exact q_vret rfl dX7_readNumber_19 ⟨rfl, by rw [if_neg e]; exact h.misfit⟩
  rw [if_pos e]
  refine q_if_ne (tgt := 20) dX7_readNumber_8 (by decide) (fun q => ?_) (fun q => ?_)
  rotate_left
  · exact absurd q (by decide)
  have hil := gt_in (t := t) (i := i) (by omega)
  refine q_aload_n dX7_readNumber_20 rfl ?_
  refine q_getR2 (b := 360) fl_RX7_19 rfl k356 rfl dX7_readNumber_21 ?_
  refine q_aload_n dX7_readNumber_24 rfl ?_
  refine q_getI fl_RX7_194 rfl k356 h3 dX7_readNumber_25 ?_
  refine q_iald k360 rfl (lt360 (by omega)) (by decide) (hTJ.at hil) dX7_readNumber_28 ?_
  refine q_bipush (v := nI 48) dX7_readNumber_29 (by decide) ?_
  refine q_isub dX7_readNumber_31 ?_
  rw [pk_sub (show 48 ≤ gt t i by omega)]
  refine q_istore_n (ls' := [_, _]) dX7_readNumber_32 (Nat.le_of_ble_eq_true rfl) rfl ?_
  refine q_aload_n dX7_readNumber_33 rfl ?_
  refine q_dup dX7_readNumber_34 rfl ?_
  refine q_getI fl_RX7_194 rfl k356 h3 dX7_readNumber_35 ?_
  refine q_iconst (v := nI 1) dX7_readNumber_38 (by decide) ?_
  refine q_iadd dX7_readNumber_39 ?_
  rw [nI_add]
  have a1 : FG I (q_up J 356 7 (nI (i + 1))) := h1.up (by omega)
  have a2 : q_up J 356 7 (nI (i + 1)) 356 6 = nI s := (q_up_n (by omega)).trans h2
  have a3 : q_up J 356 7 (nI (i + 1)) 356 7 = nI (i + 1) := q_up_s
  have a4 : q_up J 356 7 (nI (i + 1)) 356 8 = nI w := (q_up_n (by omega)).trans h4
  have a5 : q_up J 356 7 (nI (i + 1)) 356 10 = nI l.length := (q_up_n (by omega)).trans h5
  have a6 : ∀ k v, l[k]? = some v → q_up J 356 7 (nI (i + 1)) 361 k = nI v := fun k v hv => (q_up_n (by omega)).trans (h6 k v hv)
  have a7 : q_up J 356 7 (nI (i + 1)) 356 11 = nI 0 := (q_up_n (by omega)).trans h7
  refine q_putI ⟨fl_RX7_194, rfl, rfl⟩ k356 ⟨rfl, rfl⟩ dX7_readNumber_40 ?_
  generalize q_up J 356 7 (nI (i + 1)) = K at a1 a2 a3 a4 a5 a6 a7 ⊢
  have hTK := a1.mt hT
  refine q_aload_n dX7_readNumber_43 rfl ?_
  refine q_bipush (v := nI 48) dX7_readNumber_44 (by decide) ?_
  refine q_bipush (v := nI 57) dX7_readNumber_46 (by decide) ?_
  refine q_cV (as := [_, _]) lk_RX7_201 (r_isNext (a := 48) (b := 57) ht hTK a3 (by omega) (by omega) (by omega) (by omega)) (Or.inl ⟨6, by decide, k356, rfl⟩) rfl (by decide) (Nat.le_of_ble_eq_true rfl) dX7_readNumber_48 ?_
  rintro v J' ⟨rfl, rfl⟩
  by_cases e1 : isd (gt t (i + 1))
  · rw [if_pos e1]
    refine q_if_eq (tgt := 82) dX7_readNumber_51 (by decide) (fun q2 => ?_) (fun q2 => ?_)
    · exact absurd q2 (by decide)
    have hil1 := gt_in (t := t) (i := i + 1) (by omega)
    refine q_bipush (v := nI 10) dX7_readNumber_54 (by decide) ?_
    refine q_iload_n dX7_readNumber_56 rfl ?_
    refine q_imul dX7_readNumber_57 ?_
    refine q_aload_n dX7_readNumber_58 rfl ?_
    refine q_getR2 (b := 360) fl_RX7_19 rfl k356 rfl dX7_readNumber_59 ?_
    refine q_aload_n dX7_readNumber_62 rfl ?_
    refine q_getI fl_RX7_194 rfl k356 a3 dX7_readNumber_63 ?_
    refine q_iald k360 rfl (lt360 (by omega)) (by decide) (hTK.at hil1) dX7_readNumber_66 ?_
    refine q_iadd dX7_readNumber_67 ?_
    refine q_bipush (v := nI 48) dX7_readNumber_68 (by decide) ?_
    refine q_isub dX7_readNumber_70 ?_
    rw [ten_nI _ (by omega) _ (by omega) (by omega)]
    refine q_istore_n (ls' := [_, _]) dX7_readNumber_71 (Nat.le_of_ble_eq_true rfl) rfl ?_
    refine q_aload_n dX7_readNumber_72 rfl ?_
    refine q_dup dX7_readNumber_73 rfl ?_
    refine q_getI fl_RX7_194 rfl k356 a3 dX7_readNumber_74 ?_
    refine q_iconst (v := nI 1) dX7_readNumber_77 (by decide) ?_
    refine q_iadd dX7_readNumber_78 ?_
    rw [nI_add]
    refine q_putI ⟨fl_RX7_194, rfl, rfl⟩ k356 ⟨rfl, rfl⟩ dX7_readNumber_79 ?_
    refine q_X.mono (fin _ (i + 1 + 1) _ (a1.up (by omega)) ((q_up_n (by omega)).trans a2) q_up_s ((q_up_n (by omega)).trans a4) ((q_up_n (by omega)).trans a5) (fun k v hv => (q_up_n (by omega)).trans (a6 k v hv)) ((q_up_n (by omega)).trans a7)) (fun v L hq => ⟨hq.1, ?_⟩)
    rw [if_pos e, nxt, num, if_pos e1, if_pos e1]
    exact hq.2
  · rw [if_neg e1]
    refine q_if_eq (tgt := 82) dX7_readNumber_51 (by decide) (fun q2 => ?_) (fun q2 => ?_)
    rotate_left
    · exact absurd rfl q2
    refine q_X.mono (fin K _ _ a1 a2 a3 a4 a5 a6 a7) (fun v L hq => ⟨hq.1, ?_⟩)
    rw [if_pos e, nxt, num, if_neg e1, if_neg e1]
    exact hq.2
