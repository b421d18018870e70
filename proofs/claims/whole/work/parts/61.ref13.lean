/-! the reference: a new person -/
theorem r_wishes0 {p : Nat} {x y z : Int32} {I : q_Mem} (hp : p < 30) : q_M kX7_wishes [.ref 356, .int (nI p), .int x, .int y, .int z] I (fun v J => v = none ∧ J = q_up (q_up (q_up I 357 (336 + 7 * p + 1) x) 357 (336 + 7 * p + 2) y) 357 (336 + 7 * p + 3) z) := by
  refine q_M.of pnX7_wishes (by simp [Value.category]) (Nat.le_of_ble_eq_true rfl) ?_
  refine q_aload_n dX7_wishes_0 rfl ?_
  refine q_getR2 (b := 357) fl_RX7_7 rfl k356 rfl dX7_wishes_1 ?_
  refine q_iload_n dX7_wishes_4 rfl ?_
  refine q_iconst (v := nI 1) dX7_wishes_5 (by decide) ?_
  refine q_cS (as := [_, _]) lk_RX7_36 r_of rfl (by decide) (Nat.le_of_ble_eq_true rfl) dX7_wishes_6 ?_
  rintro v J ⟨rfl, rfl⟩
  refine q_iload_n dX7_wishes_9 rfl ?_
  refine q_iast k357 rfl (lt357 (by omega)) (by decide) dX7_wishes_10 ?_
  refine q_aload_n dX7_wishes_11 rfl ?_
  refine q_getR2 (b := 357) fl_RX7_7 rfl k356 rfl dX7_wishes_12 ?_
  refine q_iload_n dX7_wishes_15 rfl ?_
  refine q_iconst (v := nI 2) dX7_wishes_16 (by decide) ?_
  refine q_cS (as := [_, _]) lk_RX7_36 r_of rfl (by decide) (Nat.le_of_ble_eq_true rfl) dX7_wishes_17 ?_
  rintro v J ⟨rfl, rfl⟩
  refine q_iload_n dX7_wishes_20 rfl ?_
  refine q_iast k357 rfl (lt357 (by omega)) (by decide) dX7_wishes_21 ?_
  refine q_aload_n dX7_wishes_22 rfl ?_
  refine q_getR2 (b := 357) fl_RX7_7 rfl k356 rfl dX7_wishes_23 ?_
  refine q_iload_n dX7_wishes_26 rfl ?_
  refine q_iconst (v := nI 3) dX7_wishes_27 (by decide) ?_
  refine q_cS (as := [_, _]) lk_RX7_36 r_of rfl (by decide) (Nat.le_of_ble_eq_true rfl) dX7_wishes_28 ?_
  rintro v J ⟨rfl, rfl⟩
  refine q_iload dX7_wishes_31 rfl ?_
  refine q_iast k357 rfl (lt357 (by omega)) (by decide) dX7_wishes_33 ?_
  exact q_vret rfl dX7_wishes_34 ⟨rfl, rfl⟩
/-- one person more -/
theorem RS.addP {I J : q_Mem} {σ : q_S} {a b c : Nat} (h : RS I σ) (hw : WFc σ) (hP : sN σ 2 < 30) (hn : J 357 335 = nI (sN σ 2 + 1)) (h0 : J 357 (336 + 7 * sN σ 2 + 0) = nI 1) (h1 : J 357 (336 + 7 * sN σ 2 + 1) = enc a) (h2 : J 357 (336 + 7 * sN σ 2 + 2) = enc b) (h3 : J 357 (336 + 7 * sN σ 2 + 3) = enc c) (h4 : J 357 (336 + 7 * sN σ 2 + 4) = -1) (h5 : J 357 (336 + 7 * sN σ 2 + 5) = nI 0) (h6 : J 357 (336 + 7 * sN σ 2 + 6) = nI 0) (ho : ∀ i, ¬ i = 335 → (i < 336 + 7 * sN σ 2 ∨ 336 + 7 * sN σ 2 + 7 ≤ i) → J 357 i = I 357 i) : RS J (sAddP σ a b c) := by
  have hz := hw.zero (Nat.le_refl (sN σ 2))
  have h8 := hw.B.1
  have h5' := hw.B.2.1
  have hl := hw.B.2.2.2
  have eP : ∀ q j, sP (sAddP σ a b c) q j = f2 (f2 (f2 (f2 (sP σ) (sN σ 2) 1 a) (sN σ 2) 2 b) (sN σ 2) 3 c) (sN σ 2) 0 1 q j := fun _ _ => rfl
  have eN : ∀ j, sN (sAddP σ a b c) j = f1 (sN σ) 2 (sN σ 2 + 1) j := fun _ => rfl
  refine ⟨fun j hj => ?_, fun j hj => ?_, fun d hd j hj => ?_, fun d hd => ?_, fun d hd r v hr => ?_, fun p hp j hj => ?_, fun r hr => ?_⟩
  · rw [eN]
    have hj3 : j = 0 ∨ j = 1 ∨ j = 2 := by omega
    rcases hj3 with rfl | rfl | rfl
    · rw [f1_n (by omega), ho _ (by decide) (by left; show 0 + 0 < _; omega)]; exact h.1 0 (by omega)
    · rw [f1_n (by omega), ho _ (by decide) (by left; show 0 + 329 < _; omega)]; exact h.1 1 (by omega)
    · rw [f1_s]; exact hn
  · rw [ho _ (by omega) (by omega)]; exact h.2.1 j hj
  · have hd : d < sN σ 0 := hd
    rw [ho _ (by omega) (by omega)]; exact h.2.2.1 d hd j hj
  · have hd : d < sN σ 0 := hd
    rw [ho _ (by omega) (by omega)]; exact h.2.2.2.1 d hd
  · have hd : d < sN σ 0 := hd
    have := g_lt hr (hl d)
    rw [ho _ (by omega) (by omega)]; exact h.2.2.2.2.1 d hd r v hr
  · have hp : p < f1 (sN σ) 2 (sN σ 2 + 1) 2 := hp
    rw [f1_s] at hp
    rw [eP]
    by_cases e : p = sN σ 2
    · subst e
      rw [Nat.zero_add]
      simp only [f2_or, true_and]
      have hj7 : j = 0 ∨ j = 1 ∨ j = 2 ∨ j = 3 ∨ j = 4 ∨ j = 5 ∨ j = 6 := by omega
      rcases hj7 with rfl | rfl | rfl | rfl | rfl | rfl | rfl
      · exact h0
      · exact h1
      · exact h2
      · exact h3
      · show _ = penc 4 (sP σ (sN σ 2) 4); rw [hz 4]; exact h4
      · show _ = penc 5 (sP σ (sN σ 2) 5); rw [hz 5]; exact h5
      · show _ = penc 6 (sP σ (sN σ 2) 6); rw [hz 6]; exact h6
    · rw [f2_n (fun z => e z.1), f2_n (fun z => e z.1), f2_n (fun z => e z.1), f2_n (fun z => e z.1)]
      rw [ho _ (by omega) (by omega)]; exact h.2.2.2.2.2.1 p (by omega) j hj
  · have hr : r < sN σ 1 := hr
    rw [ho _ (by omega) (by omega)]; exact h.2.2.2.2.2.2 r hr
theorem r_comes {x y z : Int32} {I : q_Mem} {σ : q_S} (h : RS I σ) (hs : sok σ) : q_M kX7_comes [.ref 356, .int x, .int y, .int z] I (fun v J => v = some (.int (opJoin σ x y z).1) ∧ RS J (opJoin σ x y z).2 ∧ FM 357 I J) := by
  have hw := hs.1
  have h1 := hs.2.1
  have h8 := hw.B.1
  have h30 := hw.B.2.2.1
  refine q_M.of pnX7_comes (by simp [Value.category]) (Nat.le_of_ble_eq_true rfl) ?_
  refine q_aload_n dX7_comes_0 rfl ?_
  refine q_iload_n dX7_comes_1 rfl ?_
  refine q_iload_n dX7_comes_2 rfl ?_
  refine q_iload_n dX7_comes_3 rfl ?_
  refine q_cV (as := [_, _, _]) lk_RX7_106 (r_areWishes h hw.B) (Or.inl ⟨6, by decide, k356, rfl⟩) rfl (by decide) (Nat.le_of_ble_eq_true rfl) dX7_comes_4 ?_
  rintro v J ⟨rfl, rfl⟩
  by_cases c1 : wokI (sN σ 0) x y z
  case neg =>
    rw [if_neg c1, show opJoin σ x y z = (-1000001, σ) by rw [opJoin, if_pos c1]]
    refine q_if_ne (tgt := 13) dX7_comes_7 (by decide) (fun q => ?_) (fun q => ?_)
    · exact absurd rfl q
    · refine q_ldc (v := -1000001) ct_RX7_109 dX7_comes_10 ?_
      exact q_iret rfl rfl dX7_comes_12 ⟨rfl, h, FM.rf⟩
  rw [if_pos c1]
  refine q_if_ne (tgt := 13) dX7_comes_7 (by decide) (fun q => ?_) (fun q => ?_)
  rotate_left
  · exact absurd q (by decide)
  refine q_aload_n dX7_comes_13 rfl ?_
  refine q_getR2 (b := 357) fl_RX7_7 rfl k356 rfl dX7_comes_14 ?_
  refine q_sipush (v := nI 547) dX7_comes_17 (by decide) ?_
  refine q_iald k357 rfl (lt357 (by omega)) (by decide) (h.g (j := 1) (by omega)) dX7_comes_20 ?_
  refine q_iconst (v := nI 1) dX7_comes_21 (by decide) ?_
  refine q_icmp_neN (tgt := 28) (by omega) (by omega) dX7_comes_22 (by decide) (fun q2 => ?_) (fun q2 => ?_)
  rotate_left
  · rw [show opJoin σ x y z = (-1000002, σ) by rw [opJoin, if_neg (fun w => w c1), if_pos q2]]
    refine q_ldc (v := -1000002) ct_RX7_110 dX7_comes_25 ?_
    exact q_iret rfl rfl dX7_comes_27 ⟨rfl, h, FM.rf⟩
  refine q_aload_n dX7_comes_28 rfl ?_
  refine q_getR2 (b := 357) fl_RX7_7 rfl k356 rfl dX7_comes_29 ?_
  refine q_sipush (v := nI 335) dX7_comes_32 (by decide) ?_
  refine q_iald k357 rfl (lt357 (by omega)) (by decide) h.n2 dX7_comes_35 ?_
  refine q_bipush (v := nI 30) dX7_comes_36 (by decide) ?_
  refine q_icmp_neN (tgt := 44) (by omega) (by omega) dX7_comes_38 (by decide) (fun q3 => ?_) (fun q3 => ?_)
  rotate_left
  · rw [show opJoin σ x y z = (-1000003, σ) by rw [opJoin, if_neg (fun w => w c1), if_neg q2, if_pos q3]]
    refine q_ldc (v := -1000003) ct_RX7_111 dX7_comes_41 ?_
    exact q_iret rfl rfl dX7_comes_43 ⟨rfl, h, FM.rf⟩
  have hP : sN σ 2 < 30 := by omega
  rw [show opJoin σ x y z = (nI (sN σ 2), sset 1000 (sAddP σ (dcd x) (dcd y) (dcd z))) by rw [opJoin, if_neg (fun w => w c1), if_neg q2, if_neg q3]]
  obtain ⟨w1, w2, w3, w4⟩ := wok_dcd (by omega) c1
  refine q_aload_n dX7_comes_44 rfl ?_
  refine q_getR2 (b := 357) fl_RX7_7 rfl k356 rfl dX7_comes_45 ?_
  refine q_sipush (v := nI 335) dX7_comes_48 (by decide) ?_
  refine q_iald k357 rfl (lt357 (by omega)) (by decide) h.n2 dX7_comes_51 ?_
  refine q_istore (ls' := [_, _, _, _, _]) dX7_comes_52 (Nat.le_of_ble_eq_true rfl) rfl ?_
  refine q_aload_n dX7_comes_54 rfl ?_
  refine q_getR2 (b := 357) fl_RX7_7 rfl k356 rfl dX7_comes_55 ?_
  refine q_sipush (v := nI 335) dX7_comes_58 (by decide) ?_
  refine q_dup2 dX7_comes_61 rfl rfl ?_
  refine q_iald k357 rfl (lt357 (by omega)) (by decide) h.n2 dX7_comes_62 ?_
  refine q_iconst (v := nI 1) dX7_comes_63 (by decide) ?_
  refine q_iadd dX7_comes_64 ?_
  rw [nI_add]
  refine q_iast k357 rfl (lt357 (by omega)) (by decide) dX7_comes_65 ?_
  refine q_aload_n dX7_comes_66 rfl ?_
  refine q_getR2 (b := 357) fl_RX7_7 rfl k356 rfl dX7_comes_67 ?_
  refine q_iload dX7_comes_70 rfl ?_
  refine q_iconst (v := nI 0) dX7_comes_72 (by decide) ?_
  refine q_cS (as := [_, _]) lk_RX7_36 r_of rfl (by decide) (Nat.le_of_ble_eq_true rfl) dX7_comes_73 ?_
  rintro v J ⟨rfl, rfl⟩
  refine q_iconst (v := nI 1) dX7_comes_76 (by decide) ?_
  refine q_iast k357 rfl (lt357 (by omega)) (by decide) dX7_comes_77 ?_
  refine q_aload_n dX7_comes_78 rfl ?_
  refine q_iload dX7_comes_79 rfl ?_
  refine q_iload_n dX7_comes_81 rfl ?_
  refine q_iload_n dX7_comes_82 rfl ?_
  refine q_iload_n dX7_comes_83 rfl ?_
  refine q_cV (as := [_, _, _, _]) lk_RX7_112 (r_wishes0 hP) (Or.inl ⟨6, by decide, k356, rfl⟩) rfl (by decide) (Nat.le_of_ble_eq_true rfl) dX7_comes_84 ?_
  rintro v J ⟨rfl, rfl⟩
  refine q_aload_n dX7_comes_87 rfl ?_
  refine q_getR2 (b := 357) fl_RX7_7 rfl k356 rfl dX7_comes_88 ?_
  refine q_iload dX7_comes_91 rfl ?_
  refine q_iconst (v := nI 4) dX7_comes_93 (by decide) ?_
  refine q_cS (as := [_, _]) lk_RX7_36 r_of rfl (by decide) (Nat.le_of_ble_eq_true rfl) dX7_comes_94 ?_
  rintro v J ⟨rfl, rfl⟩
  refine q_iconst (v := -1) dX7_comes_97 (by decide) ?_
  refine q_iast k357 rfl (lt357 (by omega)) (by decide) dX7_comes_98 ?_
  refine q_aload_n dX7_comes_99 rfl ?_
  refine q_getR2 (b := 357) fl_RX7_7 rfl k356 rfl dX7_comes_100 ?_
  refine q_iload dX7_comes_103 rfl ?_
  refine q_iconst (v := nI 5) dX7_comes_105 (by decide) ?_
  refine q_cS (as := [_, _]) lk_RX7_36 r_of rfl (by decide) (Nat.le_of_ble_eq_true rfl) dX7_comes_106 ?_
  rintro v J ⟨rfl, rfl⟩
  refine q_iconst (v := nI 0) dX7_comes_109 (by decide) ?_
  refine q_iast k357 rfl (lt357 (by omega)) (by decide) dX7_comes_110 ?_
  refine q_aload_n dX7_comes_111 rfl ?_
  refine q_getR2 (b := 357) fl_RX7_7 rfl k356 rfl dX7_comes_112 ?_
  refine q_iload dX7_comes_115 rfl ?_
  refine q_bipush (v := nI 6) dX7_comes_117 (by decide) ?_
  refine q_cS (as := [_, _]) lk_RX7_36 r_of rfl (by decide) (Nat.le_of_ble_eq_true rfl) dX7_comes_119 ?_
  rintro v J ⟨rfl, rfl⟩
  refine q_iconst (v := nI 0) dX7_comes_122 (by decide) ?_
  refine q_iast k357 rfl (lt357 (by omega)) (by decide) dX7_comes_123 ?_
  have hF : FM 357 I (q_up (q_up (q_up (q_up (q_up (q_up (q_up (q_up I 357 335 (nI (sN σ 2 + 1))) 357 (336 + 7 * sN σ 2 + 0) (nI 1)) 357 (336 + 7 * sN σ 2 + 1) x) 357 (336 + 7 * sN σ 2 + 2) y) 357 (336 + 7 * sN σ 2 + 3) z) 357 (336 + 7 * sN σ 2 + 4) (-1)) 357 (336 + 7 * sN σ 2 + 5) (nI 0)) 357 (336 + 7 * sN σ 2 + 6) (nI 0)) := FM.rf.up.up.up.up.up.up.up.up
  have hR : RS (q_up (q_up (q_up (q_up (q_up (q_up (q_up (q_up I 357 335 (nI (sN σ 2 + 1))) 357 (336 + 7 * sN σ 2 + 0) (nI 1)) 357 (336 + 7 * sN σ 2 + 1) x) 357 (336 + 7 * sN σ 2 + 2) y) 357 (336 + 7 * sN σ 2 + 3) z) 357 (336 + 7 * sN σ 2 + 4) (-1)) 357 (336 + 7 * sN σ 2 + 5) (nI 0)) 357 (336 + 7 * sN σ 2 + 6) (nI 0)) (sAddP σ (dcd x) (dcd y) (dcd z)) := by
    refine h.addP hw hP ?_ ?_ ?_ ?_ ?_ ?_ ?_ ?_ (fun i i1 i2 => ?_)
    · repeat rw [q_up_n (by omega)]
      exact q_up_s
    · repeat rw [q_up_n (by omega)]
      exact q_up_s
    · repeat rw [q_up_n (by omega)]
      exact q_up_s.trans w1.1
    · repeat rw [q_up_n (by omega)]
      exact q_up_s.trans w2.1
    · repeat rw [q_up_n (by omega)]
      exact q_up_s.trans w3.1
    · repeat rw [q_up_n (by omega)]
      exact q_up_s
    · repeat rw [q_up_n (by omega)]
      exact q_up_s
    · exact q_up_s
    · repeat rw [q_up_n (by omega)]
  generalize q_up (q_up (q_up (q_up (q_up (q_up (q_up (q_up I 357 335 (nI (sN σ 2 + 1))) 357 (336 + 7 * sN σ 2 + 0) (nI 1)) 357 (336 + 7 * sN σ 2 + 1) x) 357 (336 + 7 * sN σ 2 + 2) y) 357 (336 + 7 * sN σ 2 + 3) z) 357 (336 + 7 * sN σ 2 + 4) (-1)) 357 (336 + 7 * sN σ 2 + 5) (nI 0)) 357 (336 + 7 * sN σ 2 + 6) (nI 0) = K at hF hR ⊢
  refine q_aload_n dX7_comes_124 rfl ?_
  refine q_cV (as := []) lk_RX7_94 (r_settle hR (hw.addP hP w1.2 w2.2 w3.2 w4)) (Or.inl ⟨6, by decide, k356, rfl⟩) rfl (by decide) (Nat.le_of_ble_eq_true rfl) dX7_comes_125 ?_
  rintro v M ⟨rfl, l1, l2⟩
  refine q_iload dX7_comes_128 rfl ?_
  exact q_iret rfl rfl dX7_comes_130 ⟨rfl, l1, hF.tr l2⟩
