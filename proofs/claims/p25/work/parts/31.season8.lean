/-! the class's season: its changes -/
theorem c_isOutside {x l u : Int32} {I : q_Mem} : q_M kX6_isOutside [.int x, .int l, .int u] I (fun v J => v = some (.int (if l ≤ x ∧ x ≤ u then 0 else 1)) ∧ I = J) := by
  refine q_M.of pnX6_isOutside (by simp [Value.category]) (Nat.le_of_ble_eq_true rfl) ?_
  refine q_iload_n dX6_isOutside_0 rfl ?_
  refine q_iload_n dX6_isOutside_1 rfl ?_
  refine q_icmp_lt (tgt := 10) dX6_isOutside_2 (by decide) (fun h1 => ?_) (fun h1 => ?_)
  · refine q_iconst (v := nI 1) dX6_isOutside_10 (by decide) ?_
    refine q_goto (tgt := 15) dX6_isOutside_11 (by decide) ?_
    exact q_iret rfl rfl dX6_isOutside_15 ⟨by rw [if_neg (fun q => absurd q.1 (Int32.not_le.mpr h1))]; rfl, rfl⟩
  refine q_iload_n dX6_isOutside_5 rfl ?_
  refine q_iload_n dX6_isOutside_6 rfl ?_
  refine q_icmp_le (tgt := 14) dX6_isOutside_7 (by decide) (fun h2 => ?_) (fun h2 => ?_)
  · refine q_iconst (v := nI 0) dX6_isOutside_14 (by decide) ?_
    exact q_iret rfl rfl dX6_isOutside_15 ⟨by rw [if_pos ⟨Int32.not_lt.mp h1, h2⟩]; rfl, rfl⟩
  · refine q_iconst (v := nI 1) dX6_isOutside_10 (by decide) ?_
    refine q_goto (tgt := 15) dX6_isOutside_11 (by decide) ?_
    exact q_iret rfl rfl dX6_isOutside_15 ⟨by rw [if_neg (fun q => h2 q.2)]; rfl, rfl⟩
theorem c_areWishes {b : Nat} {x y z : Int32} {I : q_Mem} {σ : q_S} (hk : q_kd b = 3) (h : RC b I σ) (h8 : sN σ 0 ≤ 8) : q_M kX3_areWishes [.ref b, .int x, .int y, .int z] I (fun v J => v = some (.int (if wokI (sN σ 0) x y z then 1 else 0)) ∧ I = J) := by
  have hi : ∀ w : Int32, isC (sN σ 0) w ↔ ∃ c, c < sN σ 0 ∧ w = nI c := fun w => isC_iff (by omega)
  refine q_M.of pnX3_areWishes (by simp [Value.category]) (Nat.le_of_ble_eq_true rfl) ?_
  refine q_aload_n dX3_areWishes_0 rfl ?_
  refine q_iload_n dX3_areWishes_1 rfl ?_
  refine q_cV (as := [_]) lk_RX3_123 (c_courseAt hk h h8) ⟨3, by decide, by assumption, rfl⟩ rfl (by decide) (Nat.le_of_ble_eq_true rfl) dX3_areWishes_2 ?_
  rintro v J ⟨rfl, ⟨c, hc, hx, rfl⟩ | ⟨hx, rfl⟩⟩
  case inr =>
    refine q_ifnonnullN dX3_areWishes_5 ?_
    refine q_iconst (v := nI 0) dX3_areWishes_8 (by decide) ?_
    exact q_iret rfl rfl dX3_areWishes_9 ⟨by rw [if_neg (fun q => by obtain ⟨c, hc, e⟩ := (hi x).mp q.1; exact hx c hc e)]; rfl, rfl⟩
  have hxc : isC (sN σ 0) x := (hi x).mpr ⟨c, hc, hx⟩
  refine q_ifnonnull (tgt := 10) dX3_areWishes_5 (by decide) ?_
  refine q_iload_n dX3_areWishes_10 rfl ?_
  refine q_iconst (v := -1) dX3_areWishes_11 (by decide) ?_
  refine q_icmp_ne (tgt := 26) dX3_areWishes_12 (by decide) (fun h1 => ?_) (fun h1 => ?_)

  · refine q_aload_n dX3_areWishes_26 rfl ?_
    refine q_iload_n dX3_areWishes_27 rfl ?_
    refine q_cV (as := [_]) lk_RX3_123 (c_courseAt hk h h8) ⟨3, by decide, by assumption, rfl⟩ rfl (by decide) (Nat.le_of_ble_eq_true rfl) dX3_areWishes_28 ?_
    rintro v J ⟨rfl, ⟨d, hd, hy, rfl⟩ | ⟨hy, rfl⟩⟩
    case inr =>
      refine q_ifnullN (tgt := 39) dX3_areWishes_31 (by decide) ?_
      refine q_iconst (v := nI 0) dX3_areWishes_39 (by decide) ?_
      refine q_iret rfl rfl dX3_areWishes_40 ⟨?_, rfl⟩
      rw [if_neg]
      · rfl
      rintro ⟨-, ⟨q, -⟩ | ⟨-, q, -⟩⟩
      · exact h1 q
      · obtain ⟨c, hc, e⟩ := (hi y).mp q; exact hy c hc e
    have hyc : isC (sN σ 0) y := (hi y).mpr ⟨d, hd, hy⟩
    refine q_ifnull dX3_areWishes_31 ?_
    refine q_iload_n dX3_areWishes_34 rfl ?_
    refine q_iload_n dX3_areWishes_35 rfl ?_
    refine q_icmp_ne (tgt := 41) dX3_areWishes_36 (by decide) (fun h2 => ?_) (fun h2 => ?_)
    · refine q_iload_n dX3_areWishes_41 rfl ?_
      refine q_iconst (v := -1) dX3_areWishes_42 (by decide) ?_
      refine q_icmp_eq (tgt := 64) dX3_areWishes_43 (by decide) (fun h3 => ?_) (fun h3 => ?_)
      · refine q_iconst (v := nI 1) dX3_areWishes_64 (by decide) ?_
        refine q_goto (tgt := 69) dX3_areWishes_65 (by decide) ?_
        exact q_iret rfl rfl dX3_areWishes_69 ⟨by rw [if_pos ⟨hxc, Or.inr ⟨h1, hyc, h2, Or.inl h3⟩⟩]; rfl, rfl⟩
      · refine q_aload_n dX3_areWishes_46 rfl ?_
        refine q_iload_n dX3_areWishes_47 rfl ?_
        refine q_cV (as := [_]) lk_RX3_123 (c_courseAt hk h h8) ⟨3, by decide, by assumption, rfl⟩ rfl (by decide) (Nat.le_of_ble_eq_true rfl) dX3_areWishes_48 ?_
        rintro v J ⟨rfl, ⟨g, hg, hz, rfl⟩ | ⟨hz, rfl⟩⟩
        case inr =>
          refine q_ifnullN (tgt := 68) dX3_areWishes_51 (by decide) ?_
          refine q_iconst (v := nI 0) dX3_areWishes_68 (by decide) ?_
          refine q_iret rfl rfl dX3_areWishes_69 ⟨?_, rfl⟩
          rw [if_neg]
          · rfl
          rintro ⟨-, ⟨q, -⟩ | ⟨-, -, -, q | ⟨q, -⟩⟩⟩
          · exact h1 q
          · exact h3 q
          · obtain ⟨c, hc, e⟩ := (hi z).mp q; exact hz c hc e
        have hzc : isC (sN σ 0) z := (hi z).mpr ⟨g, hg, hz⟩
        refine q_ifnull dX3_areWishes_51 ?_
        refine q_iload_n dX3_areWishes_54 rfl ?_
        refine q_iload_n dX3_areWishes_55 rfl ?_
        refine q_icmp_eq (tgt := 68) dX3_areWishes_56 (by decide) (fun h4 => ?_) (fun h4 => ?_)
        · refine q_iconst (v := nI 0) dX3_areWishes_68 (by decide) ?_
          refine q_iret rfl rfl dX3_areWishes_69 ⟨?_, rfl⟩
          rw [if_neg]
          · rfl
          rintro ⟨-, ⟨q, -⟩ | ⟨-, -, -, q | ⟨-, q, -⟩⟩⟩
          · exact h1 q
          · exact h3 q
          · exact q h4
        refine q_iload_n dX3_areWishes_59 rfl ?_
        refine q_iload_n dX3_areWishes_60 rfl ?_
        refine q_icmp_eq (tgt := 68) dX3_areWishes_61 (by decide) (fun h5 => ?_) (fun h5 => ?_)
        · refine q_iconst (v := nI 0) dX3_areWishes_68 (by decide) ?_
          refine q_iret rfl rfl dX3_areWishes_69 ⟨?_, rfl⟩
          rw [if_neg]
          · rfl
          rintro ⟨-, ⟨q, -⟩ | ⟨-, -, -, q | ⟨-, -, q⟩⟩⟩
          · exact h1 q
          · exact h3 q
          · exact q h5
        · refine q_iconst (v := nI 1) dX3_areWishes_64 (by decide) ?_
          refine q_goto (tgt := 69) dX3_areWishes_65 (by decide) ?_
          exact q_iret rfl rfl dX3_areWishes_69 ⟨by rw [if_pos ⟨hxc, Or.inr ⟨h1, hyc, h2, Or.inr ⟨hzc, h4, h5⟩⟩⟩]; rfl, rfl⟩
    · refine q_iconst (v := nI 0) dX3_areWishes_39 (by decide) ?_
      refine q_iret rfl rfl dX3_areWishes_40 ⟨?_, rfl⟩
      rw [if_neg]
      · rfl
      rintro ⟨-, ⟨q, -⟩ | ⟨-, -, q, -⟩⟩
      · exact h1 q
      · exact q h2
  · refine q_iload_n dX3_areWishes_15 rfl ?_
    refine q_iconst (v := -1) dX3_areWishes_16 (by decide) ?_
    refine q_icmp_ne (tgt := 24) dX3_areWishes_17 (by decide) (fun h2 => ?_) (fun h2 => ?_)
    · refine q_iconst (v := nI 0) dX3_areWishes_24 (by decide) ?_
      refine q_iret rfl rfl dX3_areWishes_25 ⟨?_, rfl⟩
      rw [if_neg]
      · rfl
      rintro ⟨-, ⟨-, q⟩ | ⟨q, -⟩⟩
      · exact h2 q
      · exact q h1
    · refine q_iconst (v := nI 1) dX3_areWishes_20 (by decide) ?_
      refine q_goto (tgt := 25) dX3_areWishes_21 (by decide) ?_
      exact q_iret rfl rfl dX3_areWishes_25 ⟨by rw [if_pos ⟨hxc, Or.inl ⟨h1, h2⟩⟩]; rfl, rfl⟩
theorem c_addRoom {b : Nat} {x : Int32} {I : q_Mem} {σ : q_S} (hk : q_kd b = 3) (h : RC b I σ) (hw : WFc σ) (hG : sG σ 1 ≤ 1) : q_M kX3_addRoom [.ref b, .int x] I (fun v J => v = some (.int (opRoom σ x).1) ∧ RC b J (opRoom σ x).2 ∧ FC b I J) := by
  have h5 := hw.B.2.1
  refine q_M.of pnX3_addRoom (by simp [Value.category]) (Nat.le_of_ble_eq_true rfl) ?_
  refine q_iload_n dX3_addRoom_0 rfl ?_
  refine q_iconst (v := nI 1) dX3_addRoom_1 (by decide) ?_
  refine q_bipush (v := nI 30) dX3_addRoom_2 (by decide) ?_
  refine q_cN (as := [_, _, _]) (host := RX6) lk_RX3_85 (fun _ h => h) c_isOutside rfl (by decide) (Nat.le_of_ble_eq_true rfl) dX3_addRoom_4 ?_
  rintro v J ⟨rfl, rfl⟩
  by_cases hx : nI 1 ≤ x ∧ x ≤ nI 30
  case neg =>
    have ho : opRoom σ x = (-1000001, σ) := by rw [opRoom, if_pos hx]
    rw [if_neg hx]
    refine q_if_eq (tgt := 13) dX3_addRoom_7 (by decide) (fun h1 => ?_) (fun h1 => ?_)
    · exact absurd h1 (by decide)
    refine q_ldc (v := -1000001) ct_RX3_89 dX3_addRoom_10 ?_
    exact q_iret rfl rfl dX3_addRoom_12 ⟨by rw [ho], by rw [ho]; exact h, FC.rf⟩
  rw [if_pos hx]
  refine q_if_eq (tgt := 13) dX3_addRoom_7 (by decide) (fun h1 => ?_) (fun h1 => ?_)

  · refine q_aload_n dX3_addRoom_13 rfl ?_
    refine q_getI fl_RX3_63 rfl (by assumption) (h.g (j := 1) (by omega)) dX3_addRoom_14 ?_
    refine q_if_eqN (tgt := 23) (by omega) dX3_addRoom_17 (by decide) (fun h2 => ?_) (fun h2 => ?_)
    · refine q_aload_n dX3_addRoom_23 rfl ?_
      refine q_getI fl_RX3_57 rfl (by assumption) (h.n (j := 1) (by omega)) dX3_addRoom_24 ?_
      refine q_iconst (v := nI 0) dX3_addRoom_27 (by decide) ?_
      refine q_aload_n dX3_addRoom_28 rfl ?_
      refine q_getR fl_RX3_23 rfl (by assumption) dX3_addRoom_29 ?_
      refine q_lenR hk rfl dX3_addRoom_32 ?_
      refine q_iconst (v := nI 1) dX3_addRoom_33 (by decide) ?_
      refine q_isub dX3_addRoom_34 ?_
      rw [show nI 5 - nI 1 = nI 4 from rfl]
      refine q_cN (as := [_, _, _]) (host := RX6) lk_RX3_85 (fun _ h => h) c_isOutside rfl (by decide) (Nat.le_of_ble_eq_true rfl) dX3_addRoom_35 ?_
      rintro v J ⟨rfl, rfl⟩
      by_cases hn : sN σ 1 = 5
      · have ho : opRoom σ x = (-1000003, σ) := by rw [opRoom, if_neg (fun q => q hx), if_neg (by omega), if_pos hn]
        rw [if_neg (fun q => by have := (nI_leI (by omega) (by omega)).mp q.2; omega)]
        refine q_if_eq (tgt := 44) dX3_addRoom_38 (by decide) (fun h3 => ?_) (fun h3 => ?_)
        · exact absurd h3 (by decide)
        refine q_ldc (v := -1000003) ct_RX3_91 dX3_addRoom_41 ?_
        exact q_iret rfl rfl dX3_addRoom_43 ⟨by rw [ho], by rw [ho]; exact h, FC.rf⟩
      · have ho : opRoom σ x = (nI (sN σ 1), sAddR σ x.toNatClampNeg) := by rw [opRoom, if_neg (fun q => q hx), if_neg (by omega), if_neg hn]
        rw [if_pos ⟨nI_le (Nat.zero_le _) (by omega), nI_le (by omega) (by omega)⟩]
        obtain ⟨j, hj, rfl⟩ := nI_of2 (M := nI 30) (n := 30) (by decide) (Int32.not_lt.mpr (Int32.le_trans (by decide) hx.1)) hx.2
        rw [nI_clamp (by omega)] at ho
        have hlt : sN σ 1 < 5 := by omega
        refine q_if_eq (tgt := 44) dX3_addRoom_38 (by decide) (fun h3 => ?_) (fun h3 => ?_)
        · refine q_aload_n dX3_addRoom_44 rfl ?_
          refine q_getR fl_RX3_23 rfl (by assumption) dX3_addRoom_45 ?_
          refine q_aload_n dX3_addRoom_48 rfl ?_
          refine q_getI fl_RX3_57 rfl (by assumption) (h.n (j := 1) (by omega)) dX3_addRoom_49 ?_
          refine q_iload_n dX3_addRoom_52 rfl ?_
          refine q_iastR hk rfl hlt dX3_addRoom_53 ?_
          have h : RC b (q_up I (b + 3) (sN σ 1) (nI j)) (uR σ (sN σ 1) j) := h.R hlt rfl
          have hF : FC b I (q_up I (b + 3) (sN σ 1) (nI j)) := FC.rf.up (by omega) (by omega)
          generalize q_up I (b + 3) (sN σ 1) (nI j) = J1 at h hF ⊢
          refine q_aload_n dX3_addRoom_54 rfl ?_
          refine q_dup dX3_addRoom_55 rfl ?_
          refine q_getI fl_RX3_57 rfl (by assumption) (h.n (j := 1) (by omega)) dX3_addRoom_56 ?_
          refine q_iconst (v := nI 1) dX3_addRoom_59 (by decide) ?_
          refine q_iadd dX3_addRoom_60 ?_
          rw [sN_mk, nI_add]
          refine q_putI ⟨fl_RX3_57, rfl, rfl⟩ (by assumption) ⟨rfl, rfl⟩ dX3_addRoom_61 ?_
          have h : RC b (q_up J1 b 5 (nI (sN σ 1 + 1))) (uN (uR σ (sN σ 1) j) 1 (sN σ 1 + 1)) := h.N (j := 1) (by omega) rfl
          have hF := hF.up (a := b) (j := 5) (x := nI (sN σ 1 + 1)) (by omega) (by omega)
          generalize q_up J1 b 5 (nI (sN σ 1 + 1)) = J2 at h hF ⊢
          refine q_aload_n dX3_addRoom_64 rfl ?_
          refine q_getI fl_RX3_57 rfl (by assumption) (h.n (j := 1) (by omega)) dX3_addRoom_65 ?_
          refine q_iconst (v := nI 1) dX3_addRoom_68 (by decide) ?_
          refine q_isub dX3_addRoom_69 ?_
          rw [sN_mk, f1_s, pk_sub (by omega)]
          exact q_iret rfl rfl dX3_addRoom_70 ⟨by rw [ho]; rfl, by rw [ho]; exact h, hF⟩
        · exact absurd rfl h3
    · have ho : opRoom σ x = (-1000002, σ) := by rw [opRoom, if_neg (fun q => q hx), if_pos (by omega)]
      refine q_ldc (v := -1000002) ct_RX3_90 dX3_addRoom_20 ?_
      exact q_iret rfl rfl dX3_addRoom_22 ⟨by rw [ho], by rw [ho]; exact h, FC.rf⟩
  · exact absurd rfl h1
/-- a number of a call within its range -/
theorem in_nat {x l : Int32} {u : Nat} (hu : u < 2 ^ 31) (hl : ¬ l < 0) (h : l ≤ x ∧ x ≤ nI u) : ∃ j, j ≤ u ∧ x = nI j := nI_of2 (M := nI u) (nI_toInt hu) (fun q => hl (Int32.lt_of_le_of_lt h.1 q)) h.2
theorem kind_0 : ∀ k, k ≤ 79 → nI k &&& 3 = nI (k % 4) ∧ (nI k >>> (2 &&& 31)) &&& 3 = nI (k / 4 % 4) ∧ nI k >>> (4 &&& 31) = nI (k / 16) := by decide +kernel
theorem c_addCourse {b : Nat} {k l m f : Int32} {I : q_Mem} {σ : q_S} (hk : q_kd b = 3) (h : RC b I σ) (hw : WFc σ) (hG : sG σ 1 ≤ 1) : q_M kX3_addCourse [.ref b, .int k, .int l, .int m, .int f] I (fun v J => v = some (.int (opCourse σ k l m f).1) ∧ RC b J (opCourse σ k l m f).2 ∧ FC b I J) := by
  have h8 := hw.B.1
  have bad : ¬ cokI k l m f → ∀ o5, q_X kX3_addCourse 41 [some (.ref b), some (.int k), some (.int l), some (.int m), some (.int f), o5] [] I (fun v J => v = some (.int (opCourse σ k l m f).1) ∧ RC b J (opCourse σ k l m f).2 ∧ FC b I J) := by
    intro hb o5
    have ho : opCourse σ k l m f = (-1000001, σ) := by rw [opCourse, if_pos hb]
    refine q_ldc (v := -1000001) ct_RX3_89 dX3_addCourse_41 ?_
    exact q_iret rfl rfl dX3_addCourse_43 ⟨by rw [ho], by rw [ho]; exact h, FC.rf⟩
  refine q_M.of pnX3_addCourse (by simp [Value.category]) (Nat.le_of_ble_eq_true rfl) ?_
  refine q_iload_n dX3_addCourse_0 rfl ?_
  refine q_iconst (v := nI 0) dX3_addCourse_1 (by decide) ?_
  refine q_bipush (v := nI 79) dX3_addCourse_2 (by decide) ?_
  refine q_cN (as := [_, _, _]) (host := RX6) lk_RX3_85 (fun _ h => h) c_isOutside rfl (by decide) (Nat.le_of_ble_eq_true rfl) dX3_addCourse_4 ?_
  rintro v J ⟨rfl, rfl⟩
  by_cases h1 : nI 0 ≤ k ∧ k ≤ nI 79
  case neg =>
    rw [if_neg h1]
    refine q_if_ne (tgt := 41) dX3_addCourse_7 (by decide) (fun q => ?_) (fun q => ?_)
    · exact bad (fun z => h1 z.1) _
    · exact absurd q (by decide)
  rw [if_pos h1]
  refine q_if_ne (tgt := 41) dX3_addCourse_7 (by decide) (fun q => ?_) (fun q => ?_)
  · exact absurd rfl q
  refine q_iload_n dX3_addCourse_10 rfl ?_
  refine q_iconst (v := nI 1) dX3_addCourse_11 (by decide) ?_
  refine q_bipush (v := nI 20) dX3_addCourse_12 (by decide) ?_
  refine q_cN (as := [_, _, _]) (host := RX6) lk_RX3_85 (fun _ h => h) c_isOutside rfl (by decide) (Nat.le_of_ble_eq_true rfl) dX3_addCourse_14 ?_
  rintro v J ⟨rfl, rfl⟩
  by_cases h2 : nI 1 ≤ l ∧ l ≤ nI 20
  case neg =>
    rw [if_neg h2]
    refine q_if_ne (tgt := 41) dX3_addCourse_17 (by decide) (fun q => ?_) (fun q => ?_)
    · exact bad (fun z => h2 z.2.1) _
    · exact absurd q (by decide)
  rw [if_pos h2]
  refine q_if_ne (tgt := 41) dX3_addCourse_17 (by decide) (fun q => ?_) (fun q => ?_)
  · exact absurd rfl q
  refine q_iload_n dX3_addCourse_20 rfl ?_
  refine q_iload_n dX3_addCourse_21 rfl ?_
  refine q_bipush (v := nI 20) dX3_addCourse_22 (by decide) ?_
  refine q_cN (as := [_, _, _]) (host := RX6) lk_RX3_85 (fun _ h => h) c_isOutside rfl (by decide) (Nat.le_of_ble_eq_true rfl) dX3_addCourse_24 ?_
  rintro v J ⟨rfl, rfl⟩
  by_cases h3 : l ≤ m ∧ m ≤ nI 20
  case neg =>
    rw [if_neg h3]
    refine q_if_ne (tgt := 41) dX3_addCourse_27 (by decide) (fun q => ?_) (fun q => ?_)
    · exact bad (fun z => h3 z.2.2.1) _
    · exact absurd q (by decide)
  rw [if_pos h3]
  refine q_if_ne (tgt := 41) dX3_addCourse_27 (by decide) (fun q => ?_) (fun q => ?_)
  · exact absurd rfl q
  refine q_iload dX3_addCourse_30 rfl ?_
  refine q_iconst (v := nI 0) dX3_addCourse_32 (by decide) ?_
  refine q_bipush (v := nI 99) dX3_addCourse_33 (by decide) ?_
  refine q_cN (as := [_, _, _]) (host := RX6) lk_RX3_85 (fun _ h => h) c_isOutside rfl (by decide) (Nat.le_of_ble_eq_true rfl) dX3_addCourse_35 ?_
  rintro v J ⟨rfl, rfl⟩
  by_cases h4 : nI 0 ≤ f ∧ f ≤ nI 99
  case neg =>
    rw [if_neg h4]
    refine q_if_eq (tgt := 44) dX3_addCourse_38 (by decide) (fun q => ?_) (fun q => ?_)
    · exact absurd q (by decide)
    · exact bad (fun z => h4 z.2.2.2) _
  rw [if_pos h4]
  refine q_if_eq (tgt := 44) dX3_addCourse_38 (by decide) (fun q => ?_) (fun q => ?_)
  · refine q_aload_n dX3_addCourse_44 rfl ?_
    refine q_getI fl_RX3_63 rfl (by assumption) (h.g (j := 1) (by omega)) dX3_addCourse_45 ?_
    have hok : cokI k l m f := ⟨h1, h2, h3, h4⟩
    obtain ⟨k, hk79, rfl⟩ := in_nat (by omega) (by decide) h1
    obtain ⟨l, hl20, rfl⟩ := in_nat (by omega) (by decide) h2
    obtain ⟨m, hm20, rfl⟩ := in_nat (by omega) (nI_pos (by omega)) h3
    obtain ⟨f, hf99, rfl⟩ := in_nat (by omega) (by decide) h4
    refine q_if_eqN (tgt := 54) (by omega) dX3_addCourse_48 (by decide) (fun h5 => ?_) (fun h5 => ?_)
    · refine q_aload_n dX3_addCourse_54 rfl ?_
      refine q_getI fl_RX3_50 rfl (by assumption) (h.n (j := 0) (by omega)) dX3_addCourse_55 ?_
      refine q_iconst (v := nI 0) dX3_addCourse_58 (by decide) ?_
      refine q_aload_n dX3_addCourse_59 rfl ?_
      refine q_getR fl_RX3_11 rfl (by assumption) dX3_addCourse_60 ?_
      refine q_lenC hk rfl dX3_addCourse_63 ?_
      refine q_iconst (v := nI 1) dX3_addCourse_64 (by decide) ?_
      refine q_isub dX3_addCourse_65 ?_
      rw [show nI 8 - nI 1 = nI 7 from rfl]
      refine q_cN (as := [_, _, _]) (host := RX6) lk_RX3_85 (fun _ h => h) c_isOutside rfl (by decide) (Nat.le_of_ble_eq_true rfl) dX3_addCourse_66 ?_
      rintro v J ⟨rfl, rfl⟩
      by_cases hn : sN σ 0 = 8
      · have ho : opCourse σ (nI k) (nI l) (nI m) (nI f) = (-1000003, σ) := by rw [opCourse, if_neg (fun q => q hok), if_neg (by omega), if_pos hn]
        rw [if_neg (fun q => by have := (nI_leI (by omega) (by omega)).mp q.2; omega)]
        refine q_if_eq (tgt := 76) dX3_addCourse_69 (by decide) (fun h6 => ?_) (fun h6 => ?_)
        · exact absurd h6 (by decide)
        refine q_null dX3_addCourse_72 ?_
        refine q_goto (tgt := 85) dX3_addCourse_73 (by decide) ?_
        refine q_astoreN (ls' := [_, _, _, _, _, _]) dX3_addCourse_85 (Nat.le_of_ble_eq_true rfl) rfl ?_
        refine q_aloadN dX3_addCourse_87 rfl ?_
        refine q_ifnonnullN dX3_addCourse_89 ?_
        refine q_ldc (v := -1000003) ct_RX3_91 dX3_addCourse_92 ?_
        exact q_iret rfl rfl dX3_addCourse_94 ⟨by rw [ho], by rw [ho]; exact h, FC.rf⟩
      · have ho : opCourse σ (nI k) (nI l) (nI m) (nI f) = (nI (sN σ 0), sAddC σ k l m f) := by
          rw [opCourse, if_neg (fun q => q hok), if_neg (by omega), if_neg hn, nI_clamp (by omega), nI_clamp (by omega), nI_clamp (by omega), nI_clamp (by omega)]
        have hlt : sN σ 0 < 8 := by omega
        have hkc := kSC hk hlt
        rw [if_pos ⟨nI_le (Nat.zero_le _) (by omega), nI_le (by omega) (by omega)⟩, ho]
        unfold sAddC
        generalize hcc : sN σ 0 = c at hlt hkc
        refine q_if_eq (tgt := 76) dX3_addCourse_69 (by decide) (fun h6 => ?_) (fun h6 => ?_)
        · refine q_aload_n dX3_addCourse_76 rfl ?_
          refine q_getR fl_RX3_11 rfl (by assumption) dX3_addCourse_77 ?_
          refine q_aload_n dX3_addCourse_80 rfl ?_
          refine q_getI fl_RX3_50 rfl (by assumption) ((h.n (j := 0) (by omega)).trans (by rw [hcc])) dX3_addCourse_81 ?_
          refine q_aaldC hk rfl hlt dX3_addCourse_84 ?_
          refine q_astore (ls' := [_, _, _, _, _, _]) dX3_addCourse_85 (Nat.le_of_ble_eq_true rfl) rfl ?_
          refine q_aload dX3_addCourse_87 rfl ?_
          refine q_ifnonnull (tgt := 95) dX3_addCourse_89 (by decide) ?_
          refine q_aload dX3_addCourse_95 rfl ?_
          refine q_iload_n dX3_addCourse_97 rfl ?_
          refine q_iload_n dX3_addCourse_98 rfl ?_
          refine q_iload_n dX3_addCourse_99 rfl ?_
          refine q_iload dX3_addCourse_100 rfl ?_
          refine q_cV (as := [_, _, _, _]) lk_RX3_92 (c_begin hkc) ⟨0, by decide, by assumption, rfl⟩ rfl (by decide) (Nat.le_of_ble_eq_true rfl) dX3_addCourse_102 ?_
          rintro v J ⟨rfl, rfl⟩
          obtain ⟨e1, e2, e3⟩ := kind_0 k hk79
          rw [e1, e2, e3]
          have hF : FC b I I := FC.rf
          have h : RC b (q_up I (b + 4 + 2 * c) 2 (nI (k % 4))) (uC σ c 0 (k % 4)) := h.C (j := 0) hlt (by omega) rfl
          have hF := hF.up (a := b + 4 + 2 * c) (j := 2) (x := nI (k % 4)) (by omega) (by omega)
          generalize q_up I (b + 4 + 2 * c) 2 (nI (k % 4)) = J0 at h hF ⊢
          have h : RC b (q_up J0 (b + 4 + 2 * c) 3 (nI (k / 4 % 4))) (uC (uC σ c 0 (k % 4)) c 1 (k / 4 % 4)) := h.C (j := 1) hlt (by omega) rfl
          have hF := hF.up (a := b + 4 + 2 * c) (j := 3) (x := nI (k / 4 % 4)) (by omega) (by omega)
          generalize q_up J0 (b + 4 + 2 * c) 3 (nI (k / 4 % 4)) = J1 at h hF ⊢
          have h : RC b (q_up J1 (b + 4 + 2 * c) 4 (nI (k / 16))) (uC (uC (uC σ c 0 (k % 4)) c 1 (k / 4 % 4)) c 2 (k / 16)) := h.C (j := 2) hlt (by omega) rfl
          have hF := hF.up (a := b + 4 + 2 * c) (j := 4) (x := nI (k / 16)) (by omega) (by omega)
          generalize q_up J1 (b + 4 + 2 * c) 4 (nI (k / 16)) = J2 at h hF ⊢
          have h : RC b (q_up J2 (b + 4 + 2 * c) 5 (nI l)) (uC (uC (uC (uC σ c 0 (k % 4)) c 1 (k / 4 % 4)) c 2 (k / 16)) c 3 l) := h.C (j := 3) hlt (by omega) rfl
          have hF := hF.up (a := b + 4 + 2 * c) (j := 5) (x := nI l) (by omega) (by omega)
          generalize q_up J2 (b + 4 + 2 * c) 5 (nI l) = J3 at h hF ⊢
          have h : RC b (q_up J3 (b + 4 + 2 * c) 6 (nI m)) (uC (uC (uC (uC (uC σ c 0 (k % 4)) c 1 (k / 4 % 4)) c 2 (k / 16)) c 3 l) c 4 m) := h.C (j := 4) hlt (by omega) rfl
          have hF := hF.up (a := b + 4 + 2 * c) (j := 6) (x := nI m) (by omega) (by omega)
          generalize q_up J3 (b + 4 + 2 * c) 6 (nI m) = J4 at h hF ⊢
          have h : RC b (q_up J4 (b + 4 + 2 * c) 7 (nI f)) (uC (uC (uC (uC (uC (uC σ c 0 (k % 4)) c 1 (k / 4 % 4)) c 2 (k / 16)) c 3 l) c 4 m) c 5 f) := h.C (j := 5) hlt (by omega) rfl
          have hF := hF.up (a := b + 4 + 2 * c) (j := 7) (x := nI f) (by omega) (by omega)
          generalize q_up J4 (b + 4 + 2 * c) 7 (nI f) = J5 at h hF ⊢
          have h : RC b (q_up J5 (b + 4 + 2 * c) 8 (0)) (uC (uC (uC (uC (uC (uC (uC σ c 0 (k % 4)) c 1 (k / 4 % 4)) c 2 (k / 16)) c 3 l) c 4 m) c 5 f) c 6 1) := h.C (j := 6) hlt (by omega) rfl
          have hF := hF.up (a := b + 4 + 2 * c) (j := 8) (x := 0) (by omega) (by omega)
          generalize q_up J5 (b + 4 + 2 * c) 8 (0) = J6 at h hF ⊢
          have h : RC b (q_up J6 (b + 4 + 2 * c) 9 (0)) (uC (uC (uC (uC (uC (uC (uC (uC σ c 0 (k % 4)) c 1 (k / 4 % 4)) c 2 (k / 16)) c 3 l) c 4 m) c 5 f) c 6 1) c 9 0) := h.C (j := 9) hlt (by omega) rfl
          have hF := hF.up (a := b + 4 + 2 * c) (j := 9) (x := 0) (by omega) (by omega)
          generalize q_up J6 (b + 4 + 2 * c) 9 (0) = J7 at h hF ⊢
          have h : RC b (q_up J7 (b + 4 + 2 * c) 10 (-1)) (uC (uC (uC (uC (uC (uC (uC (uC (uC σ c 0 (k % 4)) c 1 (k / 4 % 4)) c 2 (k / 16)) c 3 l) c 4 m) c 5 f) c 6 1) c 9 0) c 8 0) := h.C (j := 8) hlt (by omega) rfl
          have hF := hF.up (a := b + 4 + 2 * c) (j := 10) (x := -1) (by omega) (by omega)
          generalize q_up J7 (b + 4 + 2 * c) 10 (-1) = J8 at h hF ⊢
          have h : RC b (q_up J8 (b + 4 + 2 * c) 11 (-1)) (uC (uC (uC (uC (uC (uC (uC (uC (uC (uC σ c 0 (k % 4)) c 1 (k / 4 % 4)) c 2 (k / 16)) c 3 l) c 4 m) c 5 f) c 6 1) c 9 0) c 8 0) c 7 0) := h.C (j := 7) hlt (by omega) rfl
          have hF := hF.up (a := b + 4 + 2 * c) (j := 11) (x := -1) (by omega) (by omega)
          generalize q_up J8 (b + 4 + 2 * c) 11 (-1) = J9 at h hF ⊢
          have h : RC b (q_up J9 (b + 4 + 2 * c) 12 0) (uL (uC (uC (uC (uC (uC (uC (uC (uC (uC (uC σ c 0 (k % 4)) c 1 (k / 4 % 4)) c 2 (k / 16)) c 3 l) c 4 m) c 5 f) c 6 1) c 9 0) c 8 0) c 7 0) c []) := h.L hlt q_up_s (fun r v hr => by cases hr) (fun i j q1 q2 => q_up_n q2)
          have hF := hF.up (a := b + 4 + 2 * c) (j := 12) (x := 0) (by omega) (by omega)
          generalize q_up J9 (b + 4 + 2 * c) 12 0 = K at h hF ⊢
          refine q_aload_n dX3_addCourse_105 rfl ?_
          refine q_dup dX3_addCourse_106 rfl ?_
          refine q_getI fl_RX3_50 rfl (by assumption) ((h.n (j := 0) (by omega)).trans (by rw [show sN (uL (uC (uC (uC (uC (uC (uC (uC (uC (uC (uC σ c 0 (k % 4)) c 1 (k / 4 % 4)) c 2 (k / 16)) c 3 l) c 4 m) c 5 f) c 6 1) c 9 0) c 8 0) c 7 0) c []) 0 = c from hcc])) dX3_addCourse_107 ?_
          refine q_iconst (v := nI 1) dX3_addCourse_110 (by decide) ?_
          refine q_iadd dX3_addCourse_111 ?_
          rw [nI_add]
          refine q_putI ⟨fl_RX3_50, rfl, rfl⟩ (by assumption) ⟨rfl, rfl⟩ dX3_addCourse_112 ?_
          have h : RC b (q_up K b 3 (nI (c + 1))) (uN (uL (uC (uC (uC (uC (uC (uC (uC (uC (uC (uC σ c 0 (k % 4)) c 1 (k / 4 % 4)) c 2 (k / 16)) c 3 l) c 4 m) c 5 f) c 6 1) c 9 0) c 8 0) c 7 0) c []) 0 (c + 1)) := h.N (j := 0) (by omega) rfl
          have hF := hF.up (a := b) (j := 3) (x := nI (c + 1)) (by omega) (by omega)
          refine q_aload dX3_addCourse_115 rfl ?_
          refine q_getI fl_RX3_96 rfl (by assumption) (h.cn hlt) dX3_addCourse_117 ?_
          exact q_iret rfl rfl dX3_addCourse_120 ⟨rfl, h, hF⟩
        · exact absurd rfl h6
    · have ho : opCourse σ (nI k) (nI l) (nI m) (nI f) = (-1000002, σ) := by rw [opCourse, if_neg (fun q => q hok), if_pos (by omega)]
      refine q_ldc (v := -1000002) ct_RX3_90 dX3_addCourse_51 ?_
      exact q_iret rfl rfl dX3_addCourse_53 ⟨by rw [ho], by rw [ho]; exact h, FC.rf⟩
  · exact absurd rfl q
