/-! the reference closes -/
def nop (σ : q_S) : Nat := ssum (fun k => if sC σ k 6 = 1 then 1 else 0) 8
theorem nop_le (σ : q_S) : nop σ ≤ 8 := by
  have := ssum_le (f := fun k => if sC σ k 6 = 1 then 1 else 0) (g := fun _ => 1) (fun k => by split <;> omega) 8
  rw [ssum_one] at this
  exact this
theorem nop_lt {σ τ : q_S} {c : Nat} (hc : c < 8) (h1 : sC σ c 6 = 1) (h2 : ¬ sC τ c 6 = 1) (h : ∀ i, ¬ i = c → sC τ i 6 = sC σ i 6) : nop τ < nop σ := by
  refine (ssum_lt (p := c) (fun q hq => ?_) ?_ 8).1 hc
  · show (if sC τ q 6 = 1 then 1 else 0) = if sC σ q 6 = 1 then 1 else 0
    rw [h q hq]
  · show (if sC τ c 6 = 1 then 1 else 0) < if sC σ c 6 = 1 then 1 else 0
    rw [if_neg h2, if_pos h1]; omega
theorem scl1_6 (σ : q_S) (c : Nat) : (∀ i, ¬ i = c → sC (scl1 σ c) i 6 = sC σ i 6) ∧ ¬ sC (scl1 σ c) c 6 = 1 := by
  unfold scl1
  rw [(sset_NCR 1000 _).2.1]
  split
  · refine ⟨fun i hi => ?_, ?_⟩
    · show f2 (f2 (sC σ) c 6 3) c 9 2 i 6 = sC σ i 6
      rw [f2_n (by omega), f2_n (by omega)]
    · show ¬ f2 (f2 (sC σ) c 6 3) c 9 2 c 6 = 1
      rw [f2_n (by omega), f2_s]; omega
  · obtain ⟨k1, k2, k3, -⟩ := smgs_keep (sft σ c 8 - 1) (sL σ c) σ
    refine ⟨fun i hi => ?_, ?_⟩
    · show f2 (f2 (f2 (sC (smgs (sft σ c 8 - 1) (sL σ c) σ)) c 6 4) c 9 1) c 8 (sft σ c 8 - 1 + 1) i 6 = sC σ i 6
      rw [f2_n (by omega), f2_n (by omega), f2_n (by omega), k2]
    · show ¬ f2 (f2 (f2 (sC (smgs (sft σ c 8 - 1) (sL σ c) σ)) c 6 4) c 9 1) c 8 (sft σ c 8 - 1 + 1) c 6 = 1
      rw [f2_n (by omega), f2_n (by omega), f2_s]; omega
theorem scl2_6 (σ : q_S) (c : Nat) : (∀ i, ¬ i = c → sC (scl2 σ c) i 6 = sC σ i 6) ∧ ¬ sC (scl2 σ c) c 6 = 1 := by
  unfold scl2
  split
  · refine ⟨fun i hi => ?_, ?_⟩
    · show f2 (f2 (sC σ) c 6 3) c 9 3 i 6 = sC σ i 6
      rw [f2_n (by omega), f2_n (by omega)]
    · show ¬ f2 (f2 (sC σ) c 6 3) c 9 3 c 6 = 1
      rw [f2_n (by omega), f2_s]; omega
  · refine ⟨fun i hi => ?_, ?_⟩
    · show f2 (f2 (sC σ) c 7 (srm σ c (sN σ 1))) c 6 2 i 6 = sC σ i 6
      rw [f2_n (by omega), f2_n (by omega)]
    · show ¬ f2 (f2 (sC σ) c 7 (srm σ c (sN σ 1))) c 6 2 c 6 = 1
      rw [f2_s]; omega
theorem r_closes {I : q_Mem} {σ : q_S} (h : RS I σ) (hw : WFc σ) : q_M kX7_closes [.ref 356] I (fun v J => v = none ∧ RS J (sclose σ) ∧ FM 357 I J) := by
  have second : ∀ (n : Nat) (τ : q_S) (J : q_Mem) (o2 : Option Value), nop τ ≤ n → RS J τ → WFc τ → FM 357 I J → q_X kX7_closes 51 [some (.ref 356), some (.int (enc (sgr τ 8))), o2] [] J (fun v J => v = none ∧ RS J (uG (scls2 n τ) 1 1) ∧ FM 357 I J) := by
    intro n
    induction n with
    | zero =>
      intro τ J o2 hn h hw hF
      refine q_iload_n dX7_closes_51 rfl ?_
      have hle := sgr_le τ 8
      have e : sgr τ 8 = 0 := by
        rcases Nat.eq_zero_or_pos (sgr τ 8) with q | q
        · exact q
        · have hs := sgr_spec τ 8 (by omega)
          have := nop_lt (σ := τ) (τ := uC τ (sgr τ 8 - 1) 6 0) (c := sgr τ 8 - 1) (by omega) hs (by show ¬ f2 (sC τ) (sgr τ 8 - 1) 6 0 (sgr τ 8 - 1) 6 = 1; rw [f2_s]; omega) (fun i hi => f2_n (fun z => hi z.1))
          omega
      rw [e]
      refine q_if_lt (tgt := 106) dX7_closes_52 (by decide) (fun q => ?_) (fun q => ?_)
      · refine q_aload_n dX7_closes_106 rfl ?_
        refine q_getR2 (b := 357) fl_RX7_7 rfl k356 rfl dX7_closes_107 ?_
        refine q_sipush (v := nI 547) dX7_closes_110 (by decide) ?_
        refine q_iconst (v := nI 1) dX7_closes_113 (by decide) ?_
        refine q_iast k357 rfl (lt357 (by omega)) (by decide) dX7_closes_114 ?_
        have h1 : RS (q_up J 357 547 (nI 1)) _ := h.G (j := 1) (v := 1) hw.B (by omega) rfl
        exact q_vret rfl dX7_closes_115 ⟨rfl, h1, hF.up⟩
      · exact absurd (by decide) q
    | succ n ih =>
      intro τ J o2 hn h hw hF
      have h8 := hw.B.1
      have h5 := hw.B.2.1
      have hle := sgr_le τ 8
      have hneg := enc_neg (v := sgr τ 8) (by omega)
      refine q_iload_n dX7_closes_51 rfl ?_
      rw [scls2]
      by_cases e : sgr τ 8 = 0
      · rw [if_pos e, e]
        refine q_if_lt (tgt := 106) dX7_closes_52 (by decide) (fun q => ?_) (fun q => ?_)
        · refine q_aload_n dX7_closes_106 rfl ?_
          refine q_getR2 (b := 357) fl_RX7_7 rfl k356 rfl dX7_closes_107 ?_
          refine q_sipush (v := nI 547) dX7_closes_110 (by decide) ?_
          refine q_iconst (v := nI 1) dX7_closes_113 (by decide) ?_
          refine q_iast k357 rfl (lt357 (by omega)) (by decide) dX7_closes_114 ?_
          have h1 : RS (q_up J 357 547 (nI 1)) _ := h.G (j := 1) (v := 1) hw.B (by omega) rfl
          exact q_vret rfl dX7_closes_115 ⟨rfl, h1, hF.up⟩
        · exact absurd (by decide) q
      rw [if_neg e]
      have hs := sgr_spec τ 8 e
      have hlt := nop_lt (σ := τ) (τ := scl2 τ (sgr τ 8 - 1)) (c := sgr τ 8 - 1) (by omega) hs (scl2_6 τ _).2 (scl2_6 τ _).1
      have hwn := hw.cl2 hs
      have hc : sgr τ 8 - 1 < sN τ 0 := c_lt_of_st hw hs
      rw [enc_pos e]
      refine q_if_lt (tgt := 106) dX7_closes_52 (by decide) (fun q => ?_) (fun q => ?_)
      · exact absurd q (nn (by omega))
      generalize sgr τ 8 - 1 = c at hs hlt hwn hc ⊢
      have next : ∀ (K : q_Mem) (o1 o2 : Option Value), RS K (scl2 τ c) → FM 357 I K → q_X kX7_closes 98 [some (.ref 356), o1, o2] [] K (fun v J => v = none ∧ RS J (uG (scls2 n (scl2 τ c)) 1 1) ∧ FM 357 I J) := by
        intro K o1 o2 hK hFK
        refine q_aload_n dX7_closes_98 rfl ?_
        refine q_cV (as := []) lk_RX7_97 (r_greatest hK hwn) (Or.inl ⟨6, by decide, k356, rfl⟩) rfl (by decide) (Nat.le_of_ble_eq_true rfl) dX7_closes_99 ?_
        rintro v J' ⟨rfl, rfl⟩
        refine q_istore_n (ls' := [_, _, _]) dX7_closes_102 (Nat.le_of_ble_eq_true rfl) rfl ?_
        refine q_goto (tgt := 51) dX7_closes_103 (by decide) ?_
        exact ih (scl2 τ c) K _ (by omega) hK hwn hFK
      refine q_aload_n dX7_closes_55 rfl ?_
      refine q_iload_n dX7_closes_56 rfl ?_
      refine q_cV (as := [_]) lk_RX7_100 (r_roomFor h hw hc) (Or.inl ⟨6, by decide, k356, rfl⟩) rfl (by decide) (Nat.le_of_ble_eq_true rfl) dX7_closes_57 ?_
      rintro v J' ⟨rfl, rfl⟩
      refine q_istore_n (ls' := [_, _, _]) dX7_closes_60 (Nat.le_of_ble_eq_true rfl) rfl ?_
      refine q_iload_n dX7_closes_61 rfl ?_
      have hle2 := srm_le τ c (sN τ 1)
      have hneg2 := enc_neg (v := srm τ c (sN τ 1)) (by omega)
      by_cases f : srm τ c (sN τ 1) = 0
      · rw [scl2, if_pos f] at next
        rw [f]
        refine q_if_ge (tgt := 74) dX7_closes_62 (by decide) (fun q2 => ?_) (fun q2 => ?_)
        · exact absurd q2 (by decide)
        refine q_aload_n dX7_closes_65 rfl ?_
        refine q_iload_n dX7_closes_66 rfl ?_
        refine q_iconst (v := nI 3) dX7_closes_67 (by decide) ?_
        refine q_cV (as := [_, _]) lk_RX7_88 (r_cancels h hw hc (w := 3) (by omega)) (Or.inl ⟨6, by decide, k356, rfl⟩) rfl (by decide) (Nat.le_of_ble_eq_true rfl) dX7_closes_68 ?_
        rintro v K ⟨rfl, g1, g2⟩
        refine q_goto (tgt := 98) dX7_closes_71 (by decide) ?_
        rw [scl2, if_pos f]
        exact next K _ _ g1 (hF.tr g2)
      · rw [scl2, if_neg f] at next
        rw [scl2, if_neg f]
        rw [enc_pos f]
        refine q_if_ge (tgt := 74) dX7_closes_62 (by decide) (fun q2 => ?_) (fun q2 => ?_)
        rotate_left
        · exact absurd (nI_pos' (by omega)) q2
        refine q_aload_n dX7_closes_74 rfl ?_
        refine q_getR2 (b := 357) fl_RX7_7 rfl k356 rfl dX7_closes_75 ?_
        refine q_iload_n dX7_closes_78 rfl ?_
        refine q_bipush (v := nI 7) dX7_closes_79 (by decide) ?_
        refine q_cS (as := [_, _]) lk_RX7_40 r_at rfl (by decide) (Nat.le_of_ble_eq_true rfl) dX7_closes_81 ?_
        rintro v J' ⟨rfl, rfl⟩
        refine q_iload_n dX7_closes_84 rfl ?_
        refine q_iast k357 rfl (lt357 (by omega)) (by decide) dX7_closes_85 ?_
        have h1 := h.C (c := c) (j := 7) (v := srm τ c (sN τ 1)) (x := nI (srm τ c (sN τ 1) - 1)) hw.B hc (by omega) (enc_pos f).symm
        have hF1 : FM 357 I (q_up J 357 (1 + 41 * c + 7) (nI (srm τ c (sN τ 1) - 1))) := hF.up
        generalize q_up J 357 (1 + 41 * c + 7) (nI (srm τ c (sN τ 1) - 1)) = K1 at h1 hF1 ⊢
        refine q_aload_n dX7_closes_86 rfl ?_
        refine q_getR2 (b := 357) fl_RX7_7 rfl k356 rfl dX7_closes_87 ?_
        refine q_iload_n dX7_closes_90 rfl ?_
        refine q_bipush (v := nI 6) dX7_closes_91 (by decide) ?_
        refine q_cS (as := [_, _]) lk_RX7_40 r_at rfl (by decide) (Nat.le_of_ble_eq_true rfl) dX7_closes_93 ?_
        rintro v J' ⟨rfl, rfl⟩
        refine q_iconst (v := nI 1) dX7_closes_96 (by decide) ?_
        refine q_iast k357 rfl (lt357 (by omega)) (by decide) dX7_closes_97 ?_
        have h2 := h1.C (c := c) (j := 6) (v := 2) (x := nI 1) hw.B hc (by omega) rfl
        exact next _ _ _ h2 hF1.up
  have first : ∀ (n : Nat) (τ : q_S) (J : q_Mem) (o2 : Option Value), nop τ ≤ n → RS J τ → WFc τ → FM 357 I J → q_X kX7_closes 5 [some (.ref 356), some (.int (enc (ssm τ 8))), o2] [] J (fun v J => v = none ∧ RS J (uG (scls2 8 (scls1 n τ)) 1 1) ∧ FM 357 I J) := by
    have out : ∀ (τ : q_S) (J : q_Mem) (o1 o2 : Option Value), RS J τ → WFc τ → FM 357 I J → q_X kX7_closes 46 [some (.ref 356), o1, o2] [] J (fun v J => v = none ∧ RS J (uG (scls2 8 τ) 1 1) ∧ FM 357 I J) := by
      intro τ J o1 o2 h hw hF
      refine q_aload_n dX7_closes_46 rfl ?_
      refine q_cV (as := []) lk_RX7_97 (r_greatest h hw) (Or.inl ⟨6, by decide, k356, rfl⟩) rfl (by decide) (Nat.le_of_ble_eq_true rfl) dX7_closes_47 ?_
      rintro v J' ⟨rfl, rfl⟩
      refine q_istore_n (ls' := [_, _, _]) dX7_closes_50 (Nat.le_of_ble_eq_true rfl) rfl ?_
      exact second 8 τ J _ (nop_le τ) h hw hF
    intro n
    induction n with
    | zero =>
      intro τ J o2 hn h hw hF
      refine q_iload_n dX7_closes_5 rfl ?_
      have hle := ssm_le τ 8
      have e : ssm τ 8 = 0 := by
        rcases Nat.eq_zero_or_pos (ssm τ 8) with q | q
        · exact q
        · have hs := (ssm_spec τ 8 (by omega)).1
          have := nop_lt (σ := τ) (τ := uC τ (ssm τ 8 - 1) 6 0) (c := ssm τ 8 - 1) (by omega) hs (by show ¬ f2 (sC τ) (ssm τ 8 - 1) 6 0 (ssm τ 8 - 1) 6 = 1; rw [f2_s]; omega) (fun i hi => f2_n (fun z => hi z.1))
          omega
      rw [e]
      refine q_if_lt (tgt := 46) dX7_closes_6 (by decide) (fun q => ?_) (fun q => ?_)
      · exact out τ J _ _ h hw hF
      · exact absurd (by decide) q
    | succ n ih =>
      intro τ J o2 hn h hw hF
      have h8 := hw.B.1
      have hle := ssm_le τ 8
      refine q_iload_n dX7_closes_5 rfl ?_
      rw [scls1]
      by_cases e : ssm τ 8 = 0
      · rw [if_pos e, e]
        refine q_if_lt (tgt := 46) dX7_closes_6 (by decide) (fun q => ?_) (fun q => ?_)
        · exact out τ J _ _ h hw hF
        · exact absurd (by decide) q
      rw [if_neg e]
      have hs := (ssm_spec τ 8 e).1
      have hlt := nop_lt (σ := τ) (τ := scl1 τ (ssm τ 8 - 1)) (c := ssm τ 8 - 1) (by omega) hs (scl1_6 τ _).2 (scl1_6 τ _).1
      have hwn := hw.cl1 hs
      have hc : ssm τ 8 - 1 < sN τ 0 := c_lt_of_st hw hs
      rw [enc_pos e]
      refine q_if_lt (tgt := 46) dX7_closes_6 (by decide) (fun q => ?_) (fun q => ?_)
      · exact absurd q (nn (by omega))
      generalize ssm τ 8 - 1 = c at hs hlt hwn hc ⊢
      have next : ∀ (K : q_Mem) (ρ : q_S) (o1 o2 : Option Value), sset 1000 ρ = scl1 τ c → RS K ρ → WFc ρ → FM 357 I K → q_X kX7_closes 34 [some (.ref 356), o1, o2] [] K (fun v J => v = none ∧ RS J (uG (scls2 8 (scls1 n (scl1 τ c))) 1 1) ∧ FM 357 I J) := by
        intro K ρ o1 o2 hρ hK hwK hFK
        refine q_aload_n dX7_closes_34 rfl ?_
        refine q_cV (as := []) lk_RX7_94 (r_settle hK hwK) (Or.inl ⟨6, by decide, k356, rfl⟩) rfl (by decide) (Nat.le_of_ble_eq_true rfl) dX7_closes_35 ?_
        rw [hρ]
        rintro v L ⟨rfl, l1, l2⟩
        refine q_aload_n dX7_closes_38 rfl ?_
        refine q_cV (as := []) lk_RX7_81 (r_smallest l1 hwn) (Or.inl ⟨6, by decide, k356, rfl⟩) rfl (by decide) (Nat.le_of_ble_eq_true rfl) dX7_closes_39 ?_
        rintro v J' ⟨rfl, rfl⟩
        refine q_istore_n (ls' := [_, _, _]) dX7_closes_42 (Nat.le_of_ble_eq_true rfl) rfl ?_
        refine q_goto (tgt := 5) dX7_closes_43 (by decide) ?_
        exact ih (scl1 τ c) L _ (by omega) l1 hwn (hFK.tr l2)
      refine q_aload_n dX7_closes_9 rfl ?_
      refine q_iload_n dX7_closes_10 rfl ?_
      refine q_cV (as := [_]) lk_RX7_85 (r_fitting h hw hc) (Or.inl ⟨6, by decide, k356, rfl⟩) rfl (by decide) (Nat.le_of_ble_eq_true rfl) dX7_closes_11 ?_
      rintro v J' ⟨rfl, rfl⟩
      refine q_istore_n (ls' := [_, _, _]) dX7_closes_14 (Nat.le_of_ble_eq_true rfl) rfl ?_
      refine q_iload_n dX7_closes_15 rfl ?_
      have hle2 := sft_le τ c 8
      by_cases f : sft τ c 8 = 0
      · have hsc : scl1 τ c = sset 1000 (scan τ c 2) := by rw [scl1, if_pos f]
        rw [f]
        refine q_if_ge (tgt := 28) dX7_closes_16 (by decide) (fun q2 => ?_) (fun q2 => ?_)
        · exact absurd q2 (by decide)
        refine q_aload_n dX7_closes_19 rfl ?_
        refine q_iload_n dX7_closes_20 rfl ?_
        refine q_iconst (v := nI 2) dX7_closes_21 (by decide) ?_
        refine q_cV (as := [_, _]) lk_RX7_88 (r_cancels h hw hc (w := 2) (by omega)) (Or.inl ⟨6, by decide, k356, rfl⟩) rfl (by decide) (Nat.le_of_ble_eq_true rfl) dX7_closes_22 ?_
        rintro v K ⟨rfl, g1, g2⟩
        refine q_goto (tgt := 34) dX7_closes_25 (by decide) ?_
        exact next K _ _ _ hsc.symm g1 (hw.can hc (by omega)) (hF.tr g2)
      · have hsc : scl1 τ c = sset 1000 (smerge τ c (sft τ c 8 - 1)) := by rw [scl1, if_neg f]
        obtain ⟨f1, f2, f3⟩ := sft_spec τ c 8 f
        rw [enc_pos f]
        refine q_if_ge (tgt := 28) dX7_closes_16 (by decide) (fun q2 => ?_) (fun q2 => ?_)
        rotate_left
        · exact absurd (nI_pos' (by omega)) q2
        refine q_aload_n dX7_closes_28 rfl ?_
        refine q_iload_n dX7_closes_29 rfl ?_
        refine q_iload_n dX7_closes_30 rfl ?_
        refine q_cV (as := [_, _]) lk_RX7_91 (r_merges h hw hc (c_lt_of_st hw f1) f2 f3) (Or.inl ⟨6, by decide, k356, rfl⟩) rfl (by decide) (Nat.le_of_ble_eq_true rfl) dX7_closes_31 ?_
        rintro v K ⟨rfl, g1, g2⟩
        exact next K _ _ _ hsc.symm g1 (hw.merge hc (c_lt_of_st hw f1) f2 f3) (hF.tr g2)
  refine q_M.of pnX7_closes (by simp [Value.category]) (Nat.le_of_ble_eq_true rfl) ?_
  refine q_aload_n dX7_closes_0 rfl ?_
  refine q_cV (as := []) lk_RX7_81 (r_smallest h hw) (Or.inl ⟨6, by decide, k356, rfl⟩) rfl (by decide) (Nat.le_of_ble_eq_true rfl) dX7_closes_1 ?_
  rintro v J' ⟨rfl, rfl⟩
  refine q_istore_n (ls' := [_, _, _]) dX7_closes_4 (Nat.le_of_ble_eq_true rfl) rfl ?_
  exact first 8 σ I _ (nop_le σ) h hw FM.rf
