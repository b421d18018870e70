/-! the reference: wishes anew, leaving -/
theorem not_pos {P : Prop} (h : P) : ¬ ¬ P := fun z => z h
theorem r_changesWishes {p x y z : Int32} {I : q_Mem} {σ : q_S} (h : RS I σ) (hs : sok σ) : q_M kX7_changesWishes [.ref 356, .int p, .int x, .int y, .int z] I (fun v J => v = some (.int (opWish σ p x y z).1) ∧ RS J (opWish σ p x y z).2 ∧ FM 357 I J) := by
  have hw := hs.1
  have h1 := hs.2.1
  have h8 := hw.B.1
  have h30 := hw.B.2.2.1
  have bad : (¬ isC (sN σ 2) p ∨ ¬ wokI (sN σ 0) x y z) → q_X kX7_changesWishes 19 [some (.ref 356), some (.int p), some (.int x), some (.int y), some (.int z)] [] I (fun v J => v = some (.int (opWish σ p x y z).1) ∧ RS J (opWish σ p x y z).2 ∧ FM 357 I J) := by
    intro hb
    rw [show opWish σ p x y z = (-1000001, σ) by rw [opWish, if_pos hb]]
    refine q_ldc (v := -1000001) ct_RX7_109 dX7_changesWishes_19 ?_
    exact q_iret rfl rfl dX7_changesWishes_21 ⟨rfl, h, FM.rf⟩
  refine q_M.of pnX7_changesWishes (by simp [Value.category]) (Nat.le_of_ble_eq_true rfl) ?_
  refine q_aload_n dX7_changesWishes_0 rfl ?_
  refine q_iload_n dX7_changesWishes_1 rfl ?_
  refine q_cV (as := [_]) lk_RX7_116 (r_isPerson h hw.B) (Or.inl ⟨6, by decide, k356, rfl⟩) rfl (by decide) (Nat.le_of_ble_eq_true rfl) dX7_changesWishes_2 ?_
  rintro v J ⟨rfl, rfl⟩
  by_cases c1 : isC (sN σ 2) p
  case neg =>
    rw [if_neg c1]
    refine q_if_eq (tgt := 19) dX7_changesWishes_5 (by decide) (fun q => ?_) (fun q => ?_)
    · exact bad (Or.inl c1)
    · exact absurd rfl q
  rw [if_pos c1]
  refine q_if_eq (tgt := 19) dX7_changesWishes_5 (by decide) (fun q => ?_) (fun q => ?_)
  · exact absurd q (by decide)
  refine q_aload_n dX7_changesWishes_8 rfl ?_
  refine q_iload_n dX7_changesWishes_9 rfl ?_
  refine q_iload_n dX7_changesWishes_10 rfl ?_
  refine q_iload dX7_changesWishes_11 rfl ?_
  refine q_cV (as := [_, _, _]) lk_RX7_106 (r_areWishes h hw.B) (Or.inl ⟨6, by decide, k356, rfl⟩) rfl (by decide) (Nat.le_of_ble_eq_true rfl) dX7_changesWishes_13 ?_
  rintro v J ⟨rfl, rfl⟩
  by_cases c2 : wokI (sN σ 0) x y z
  case neg =>
    rw [if_neg c2]
    refine q_if_ne (tgt := 22) dX7_changesWishes_16 (by decide) (fun q => ?_) (fun q => ?_)
    · exact absurd rfl q
    · exact bad (Or.inr c2)
  rw [if_pos c2]
  refine q_if_ne (tgt := 22) dX7_changesWishes_16 (by decide) (fun q => ?_) (fun q => ?_)
  rotate_left
  · exact absurd q (by decide)
  obtain ⟨i, hi, rfl⟩ := (isC_iff (by omega)).mp c1
  have ho : opWish σ (nI i) x y z = if sG σ 1 = 1 ∨ sP σ i 0 = 0 then (-1000002, σ) else (nI (srank (sset 1000 (sSetW σ i (dcd x) (dcd y) (dcd z))) i), sset 1000 (sSetW σ i (dcd x) (dcd y) (dcd z))) := by
    rw [opWish, if_neg (fun w => w.elim (fun w => w c1) (fun w => w c2)), nI_clamp (by omega)]
  rw [ho]
  have bad2 : (sG σ 1 = 1 ∨ sP σ i 0 = 0) → q_X kX7_changesWishes 42 [some (.ref 356), some (.int (nI i)), some (.int x), some (.int y), some (.int z)] [] I (fun v J => v = some (.int (if sG σ 1 = 1 ∨ sP σ i 0 = 0 then (-1000002, σ) else (nI (srank (sset 1000 (sSetW σ i (dcd x) (dcd y) (dcd z))) i), sset 1000 (sSetW σ i (dcd x) (dcd y) (dcd z)))).1) ∧ RS J (if sG σ 1 = 1 ∨ sP σ i 0 = 0 then (-1000002, σ) else (nI (srank (sset 1000 (sSetW σ i (dcd x) (dcd y) (dcd z))) i), sset 1000 (sSetW σ i (dcd x) (dcd y) (dcd z)))).2 ∧ FM 357 I J) := by
    intro hb
    rw [if_pos hb]
    refine q_ldc (v := -1000002) ct_RX7_110 dX7_changesWishes_42 ?_
    exact q_iret rfl rfl dX7_changesWishes_44 ⟨rfl, h, FM.rf⟩
  refine q_aload_n dX7_changesWishes_22 rfl ?_
  refine q_getR2 (b := 357) fl_RX7_7 rfl k356 rfl dX7_changesWishes_23 ?_
  refine q_sipush (v := nI 547) dX7_changesWishes_26 (by decide) ?_
  refine q_iald k357 rfl (lt357 (by omega)) (by decide) (h.g (j := 1) (by omega)) dX7_changesWishes_29 ?_
  refine q_iconst (v := nI 1) dX7_changesWishes_30 (by decide) ?_
  refine q_icmp_eqN (tgt := 42) (by omega) (by omega) dX7_changesWishes_31 (by decide) (fun q2 => ?_) (fun q2 => ?_)
  · exact bad2 (Or.inl q2)
  refine q_aload_n dX7_changesWishes_34 rfl ?_
  refine q_iload_n dX7_changesWishes_35 rfl ?_
  refine q_cV (as := [_]) lk_RX7_54 (r_isHere h hw hi) (Or.inl ⟨6, by decide, k356, rfl⟩) rfl (by decide) (Nat.le_of_ble_eq_true rfl) dX7_changesWishes_36 ?_
  rintro v J ⟨rfl, rfl⟩
  by_cases c3 : sP σ i 0 = 0
  · rw [if_pos c3]
    refine q_if_ne (tgt := 45) dX7_changesWishes_39 (by decide) (fun q3 => ?_) (fun q3 => ?_)
    · exact absurd rfl q3
    · exact bad2 (Or.inr c3)
  rw [if_neg c3, if_neg (show ¬ (sG σ 1 = 1 ∨ sP σ i 0 = 0) from fun w => w.elim q2 c3)]
  refine q_if_ne (tgt := 45) dX7_changesWishes_39 (by decide) (fun q3 => ?_) (fun q3 => ?_)
  rotate_left
  · exact absurd q3 (by decide)
  obtain ⟨w1, w2, w3, w4⟩ := wok_dcd (by omega) c2
  have rw0 := r_wishes (a := dcd x) (b := dcd y) (c := dcd z) h hw.B hi
  rw [← w1.1, ← w2.1, ← w3.1] at rw0
  have hwn := hw.setW (p := i) (a := dcd x) (b := dcd y) (c := dcd z) hi w1.2 w2.2 w3.2 w4
  refine q_aload_n dX7_changesWishes_45 rfl ?_
  refine q_iload_n dX7_changesWishes_46 rfl ?_
  refine q_iload_n dX7_changesWishes_47 rfl ?_
  refine q_iload_n dX7_changesWishes_48 rfl ?_
  refine q_iload dX7_changesWishes_49 rfl ?_
  refine q_cV (as := [_, _, _, _]) lk_RX7_112 rw0 (Or.inl ⟨6, by decide, k356, rfl⟩) rfl (by decide) (Nat.le_of_ble_eq_true rfl) dX7_changesWishes_51 ?_
  rintro v J ⟨rfl, g1, g2⟩
  refine q_aload_n dX7_changesWishes_54 rfl ?_
  refine q_cV (as := []) lk_RX7_94 (r_settle g1 hwn) (Or.inl ⟨6, by decide, k356, rfl⟩) rfl (by decide) (Nat.le_of_ble_eq_true rfl) dX7_changesWishes_55 ?_
  rintro v K ⟨rfl, l1, l2⟩
  have hN : sN (sset 1000 (sSetW σ i (dcd x) (dcd y) (dcd z))) = sN σ := (sset_NCR 1000 _).1
  refine q_aload_n dX7_changesWishes_58 rfl ?_
  refine q_iload_n dX7_changesWishes_59 rfl ?_
  refine q_cV (as := [_]) lk_RX7_57 (r_rank l1 (hwn.set 1000) (p := i) (by rw [hN]; exact hi)) (Or.inl ⟨6, by decide, k356, rfl⟩) rfl (by decide) (Nat.le_of_ble_eq_true rfl) dX7_changesWishes_60 ?_
  rintro v J' ⟨rfl, rfl⟩
  exact q_iret rfl rfl dX7_changesWishes_63 ⟨rfl, l1, g2.tr l2⟩
theorem r_leaves {p : Int32} {I : q_Mem} {σ : q_S} (h : RS I σ) (hs : sok σ) : q_M kX7_leaves [.ref 356, .int p] I (fun v J => v = some (.int (opLeave σ p).1) ∧ RS J (opLeave σ p).2 ∧ FM 357 I J) := by
  have hw := hs.1
  have h1 := hs.2.1
  have h8 := hw.B.1
  have h30 := hw.B.2.2.1
  refine q_M.of pnX7_leaves (by simp [Value.category]) (Nat.le_of_ble_eq_true rfl) ?_
  refine q_aload_n dX7_leaves_0 rfl ?_
  refine q_iload_n dX7_leaves_1 rfl ?_
  refine q_cV (as := [_]) lk_RX7_116 (r_isPerson h hw.B) (Or.inl ⟨6, by decide, k356, rfl⟩) rfl (by decide) (Nat.le_of_ble_eq_true rfl) dX7_leaves_2 ?_
  rintro v J ⟨rfl, rfl⟩
  by_cases c1 : isC (sN σ 2) p
  case neg =>
    rw [if_neg c1, show opLeave σ p = (-1000001, σ) by rw [opLeave, if_pos c1]]
    refine q_if_ne (tgt := 11) dX7_leaves_5 (by decide) (fun q => ?_) (fun q => ?_)
    · exact absurd rfl q
    · refine q_ldc (v := -1000001) ct_RX7_109 dX7_leaves_8 ?_
      exact q_iret rfl rfl dX7_leaves_10 ⟨rfl, h, FM.rf⟩
  rw [if_pos c1]
  refine q_if_ne (tgt := 11) dX7_leaves_5 (by decide) (fun q => ?_) (fun q => ?_)
  rotate_left
  · exact absurd q (by decide)
  obtain ⟨i, hi, rfl⟩ := (isC_iff (by omega)).mp c1
  have ho : opLeave σ (nI i) = if sG σ 1 = 1 ∨ sP σ i 0 = 0 then (-1000002, σ) else (nI (sP σ i 5), sset 1000 (uP (sout σ i) i 0 0)) := by
    rw [opLeave, if_neg (fun w => w c1), nI_clamp (by omega)]
  rw [ho]
  have bad2 : (sG σ 1 = 1 ∨ sP σ i 0 = 0) → ∀ o2, q_X kX7_leaves 31 [some (.ref 356), some (.int (nI i)), o2] [] I (fun v J => v = some (.int (if sG σ 1 = 1 ∨ sP σ i 0 = 0 then (-1000002, σ) else (nI (sP σ i 5), sset 1000 (uP (sout σ i) i 0 0))).1) ∧ RS J (if sG σ 1 = 1 ∨ sP σ i 0 = 0 then (-1000002, σ) else (nI (sP σ i 5), sset 1000 (uP (sout σ i) i 0 0))).2 ∧ FM 357 I J) := by
    intro hb o2
    rw [if_pos hb]
    refine q_ldc (v := -1000002) ct_RX7_110 dX7_leaves_31 ?_
    exact q_iret rfl rfl dX7_leaves_33 ⟨rfl, h, FM.rf⟩
  refine q_aload_n dX7_leaves_11 rfl ?_
  refine q_getR2 (b := 357) fl_RX7_7 rfl k356 rfl dX7_leaves_12 ?_
  refine q_sipush (v := nI 547) dX7_leaves_15 (by decide) ?_
  refine q_iald k357 rfl (lt357 (by omega)) (by decide) (h.g (j := 1) (by omega)) dX7_leaves_18 ?_
  refine q_iconst (v := nI 1) dX7_leaves_19 (by decide) ?_
  refine q_icmp_eqN (tgt := 31) (by omega) (by omega) dX7_leaves_20 (by decide) (fun q2 => ?_) (fun q2 => ?_)
  · exact bad2 (Or.inl q2) _
  refine q_aload_n dX7_leaves_23 rfl ?_
  refine q_iload_n dX7_leaves_24 rfl ?_
  refine q_cV (as := [_]) lk_RX7_54 (r_isHere h hw hi) (Or.inl ⟨6, by decide, k356, rfl⟩) rfl (by decide) (Nat.le_of_ble_eq_true rfl) dX7_leaves_25 ?_
  rintro v J ⟨rfl, rfl⟩
  by_cases c3 : sP σ i 0 = 0
  · rw [if_pos c3]
    refine q_if_ne (tgt := 34) dX7_leaves_28 (by decide) (fun q3 => ?_) (fun q3 => ?_)
    · exact absurd rfl q3
    · exact bad2 (Or.inr c3) _
  rw [if_neg c3, if_neg (show ¬ (sG σ 1 = 1 ∨ sP σ i 0 = 0) from fun w => w.elim q2 c3)]
  refine q_if_ne (tgt := 34) dX7_leaves_28 (by decide) (fun q3 => ?_) (fun q3 => ?_)
  rotate_left
  · exact absurd q3 (by decide)
  refine q_aload_n dX7_leaves_34 rfl ?_
  refine q_getR2 (b := 357) fl_RX7_7 rfl k356 rfl dX7_leaves_35 ?_
  refine q_iload_n dX7_leaves_38 rfl ?_
  refine q_iconst (v := nI 5) dX7_leaves_39 (by decide) ?_
  refine q_cS (as := [_, _]) lk_RX7_36 r_of rfl (by decide) (Nat.le_of_ble_eq_true rfl) dX7_leaves_40 ?_
  rintro v J ⟨rfl, rfl⟩
  refine q_iald k357 rfl (lt357 (by omega)) (by decide) (h.p hi (j := 5) (by omega)) dX7_leaves_43 ?_
  refine q_istore_n (ls' := [_, _, _]) dX7_leaves_44 (Nat.le_of_ble_eq_true rfl) rfl ?_
  refine q_aload_n dX7_leaves_45 rfl ?_
  refine q_iload_n dX7_leaves_46 rfl ?_
  refine q_cV (as := [_]) lk_RX7_66 (r_goesOut h hw hi) (Or.inl ⟨6, by decide, k356, rfl⟩) rfl (by decide) (Nat.le_of_ble_eq_true rfl) dX7_leaves_47 ?_
  rintro v K ⟨rfl, g1, g2⟩
  refine q_aload_n dX7_leaves_50 rfl ?_
  refine q_getR2 (b := 357) fl_RX7_7 rfl k356 rfl dX7_leaves_51 ?_
  refine q_iload_n dX7_leaves_54 rfl ?_
  refine q_iconst (v := nI 0) dX7_leaves_55 (by decide) ?_
  refine q_cS (as := [_, _]) lk_RX7_36 r_of rfl (by decide) (Nat.le_of_ble_eq_true rfl) dX7_leaves_56 ?_
  rintro v J' ⟨rfl, rfl⟩
  refine q_iconst (v := nI 0) dX7_leaves_59 (by decide) ?_
  refine q_iast k357 rfl (lt357 (by omega)) (by decide) dX7_leaves_60 ?_
  have hN := sout_N σ i
  have h9 := g1.P (p := i) (j := 0) (v := 0) (x := nI 0) (hw.out i).B (by rw [hN]; exact hi) (by omega) rfl
  have hF9 : FM 357 I (q_up K 357 (336 + 7 * i + 0) (nI 0)) := g2.up
  generalize q_up K 357 (336 + 7 * i + 0) (nI 0) = L at h9 hF9 ⊢
  refine q_aload_n dX7_leaves_61 rfl ?_
  refine q_cV (as := []) lk_RX7_94 (r_settle h9 (hw.leave i)) (Or.inl ⟨6, by decide, k356, rfl⟩) rfl (by decide) (Nat.le_of_ble_eq_true rfl) dX7_leaves_62 ?_
  rintro v M ⟨rfl, l1, l2⟩
  refine q_iload_n dX7_leaves_65 rfl ?_
  exact q_iret rfl rfl dX7_leaves_66 ⟨rfl, l1, hF9.tr l2⟩
