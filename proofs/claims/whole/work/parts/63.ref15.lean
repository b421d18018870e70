/-! the reference: aside and back, some questions -/
theorem r_putAside {I : q_Mem} : q_M kX7_putAside [.ref 356] I (fun v J => v = none ∧ (∀ i, i < 554 → J 358 i = I 357 i) ∧ FM 358 I J) := by
  have key : ∀ (d k : Nat) (J : q_Mem), k + d = 554 → (∀ i, i < k → J 358 i = I 357 i) → FM 358 I J → q_X kX7_putAside 2 [some (.ref 356), some (.int (nI k))] [] J (fun v J => v = none ∧ (∀ i, i < 554 → J 358 i = I 357 i) ∧ FM 358 I J) := by
    intro d
    induction d with
    | zero =>
      intro k J hd hk hF
      refine q_iload_n dX7_putAside_2 rfl ?_
      refine q_sipush (v := nI 554) dX7_putAside_3 (by decide) ?_
      refine q_icmp_geN (tgt := 27) (by omega) (by omega) dX7_putAside_6 (by decide) (fun q => ?_) (fun q => ?_)
      · exact q_vret rfl dX7_putAside_27 ⟨rfl, fun i hi => hk i (by omega), hF⟩
      · omega
    | succ d ih =>
      intro k J hd hk hF
      have hk5 : k < 554 := by omega
      refine q_iload_n dX7_putAside_2 rfl ?_
      refine q_sipush (v := nI 554) dX7_putAside_3 (by decide) ?_
      refine q_icmp_geN (tgt := 27) (by omega) (by omega) dX7_putAside_6 (by decide) (fun q => ?_) (fun q => ?_)
      · omega
      refine q_aload_n dX7_putAside_9 rfl ?_
      refine q_getR2 (b := 358) fl_RX7_13 rfl k356 rfl dX7_putAside_10 ?_
      refine q_iload_n dX7_putAside_13 rfl ?_
      refine q_aload_n dX7_putAside_14 rfl ?_
      refine q_getR2 (b := 357) fl_RX7_7 rfl k356 rfl dX7_putAside_15 ?_
      refine q_iload_n dX7_putAside_18 rfl ?_
      refine q_iald k357 rfl (lt357 (by omega)) (by decide) rfl dX7_putAside_19 ?_
      refine q_iast k358 rfl (lt358 hk5) (by decide) dX7_putAside_20 ?_
      refine q_iinc (ls' := [_, _]) dX7_putAside_21 rfl (nI_add _ 1) rfl ?_
      refine q_goto (tgt := 2) dX7_putAside_24 (by decide) ?_
      refine ih (k + 1) _ (by omega) (fun i hi => ?_) hF.up
      by_cases e : i = k
      · subst e; rw [q_up_s]; exact congrFun (hF 357 (by omega)) i
      · rw [q_up_n (by omega)]; exact hk i (by omega)
  refine q_M.of pnX7_putAside (by simp [Value.category]) (Nat.le_of_ble_eq_true rfl) ?_
  refine q_iconst (v := nI 0) dX7_putAside_0 (by decide) ?_
  refine q_istore_n (ls' := [_, _]) dX7_putAside_1 (Nat.le_of_ble_eq_true rfl) rfl ?_
  exact key 554 0 I rfl (fun i hi => by omega) FM.rf
theorem r_putBack {I : q_Mem} : q_M kX7_putBack [.ref 356] I (fun v J => v = none ∧ (∀ i, i < 554 → J 357 i = I 358 i) ∧ FM 357 I J) := by
  have key : ∀ (d k : Nat) (J : q_Mem), k + d = 554 → (∀ i, i < k → J 357 i = I 358 i) → FM 357 I J → q_X kX7_putBack 2 [some (.ref 356), some (.int (nI k))] [] J (fun v J => v = none ∧ (∀ i, i < 554 → J 357 i = I 358 i) ∧ FM 357 I J) := by
    intro d
    induction d with
    | zero =>
      intro k J hd hk hF
      refine q_iload_n dX7_putBack_2 rfl ?_
      refine q_sipush (v := nI 554) dX7_putBack_3 (by decide) ?_
      refine q_icmp_geN (tgt := 27) (by omega) (by omega) dX7_putBack_6 (by decide) (fun q => ?_) (fun q => ?_)
      · exact q_vret rfl dX7_putBack_27 ⟨rfl, fun i hi => hk i (by omega), hF⟩
      · omega
    | succ d ih =>
      intro k J hd hk hF
      have hk5 : k < 554 := by omega
      refine q_iload_n dX7_putBack_2 rfl ?_
      refine q_sipush (v := nI 554) dX7_putBack_3 (by decide) ?_
      refine q_icmp_geN (tgt := 27) (by omega) (by omega) dX7_putBack_6 (by decide) (fun q => ?_) (fun q => ?_)
      · omega
      refine q_aload_n dX7_putBack_9 rfl ?_
      refine q_getR2 (b := 357) fl_RX7_7 rfl k356 rfl dX7_putBack_10 ?_
      refine q_iload_n dX7_putBack_13 rfl ?_
      refine q_aload_n dX7_putBack_14 rfl ?_
      refine q_getR2 (b := 358) fl_RX7_13 rfl k356 rfl dX7_putBack_15 ?_
      refine q_iload_n dX7_putBack_18 rfl ?_
      refine q_iald k358 rfl (lt358 hk5) (by decide) rfl dX7_putBack_19 ?_
      refine q_iast k357 rfl (lt357 (by omega)) (by decide) dX7_putBack_20 ?_
      refine q_iinc (ls' := [_, _]) dX7_putBack_21 rfl (nI_add _ 1) rfl ?_
      refine q_goto (tgt := 2) dX7_putBack_24 (by decide) ?_
      refine ih (k + 1) _ (by omega) (fun i hi => ?_) hF.up
      by_cases e : i = k
      · subst e; rw [q_up_s]; exact congrFun (hF 358 (by omega)) i
      · rw [q_up_n (by omega)]; exact hk i (by omega)
  refine q_M.of pnX7_putBack (by simp [Value.category]) (Nat.le_of_ble_eq_true rfl) ?_
  refine q_iconst (v := nI 0) dX7_putBack_0 (by decide) ?_
  refine q_istore_n (ls' := [_, _]) dX7_putBack_1 (Nat.le_of_ble_eq_true rfl) rfl ?_
  exact key 554 0 I rfl (fun i hi => by omega) FM.rf
theorem r_told {w : Nat} {I : q_Mem} (hw : w < 2 ^ 31) : q_M kX7_told [.int (enc w)] I (fun v J => v = some (.int (told w)) ∧ I = J) := by
  refine q_M.of pnX7_told (by simp [Value.category]) (Nat.le_of_ble_eq_true rfl) ?_
  refine q_iload_n dX7_told_0 rfl ?_
  by_cases e : w = 0
  · subst e
    refine q_if_ge (tgt := 9) dX7_told_1 (by decide) (fun q => ?_) (fun q => ?_)
    · exact absurd q (by decide)
    · refine q_ldc (v := -1000004) ct_RX7_157 dX7_told_4 ?_
      refine q_goto (tgt := 10) dX7_told_6 (by decide) ?_
      exact q_iret rfl rfl dX7_told_10 ⟨rfl, rfl⟩
  · refine q_if_ge (tgt := 9) dX7_told_1 (by decide) (fun q => ?_) (fun q => ?_)
    · refine q_iload_n dX7_told_9 rfl ?_
      exact q_iret rfl rfl dX7_told_10 ⟨by rw [enc, if_neg e, told, if_neg e], rfl⟩
    · exact absurd (by rw [enc_pos e]; exact nI_pos' (by omega)) q
theorem r_beside {c : Int32} {I : q_Mem} {σ : q_S} (h : RS I σ) (hw : WFc σ) : q_M kX7_beside [.ref 356, .int c] I (fun v J => v = some (.int (qBeside σ c)) ∧ I = J) := by
  have h8 := hw.B.1
  refine q_M.of pnX7_beside (by simp [Value.category]) (Nat.le_of_ble_eq_true rfl) ?_
  refine q_aload_n dX7_beside_0 rfl ?_
  refine q_iload_n dX7_beside_1 rfl ?_
  refine q_cV (as := [_]) lk_RX7_103 (r_isCourse h hw.B) (Or.inl ⟨6, by decide, k356, rfl⟩) rfl (by decide) (Nat.le_of_ble_eq_true rfl) dX7_beside_2 ?_
  rintro v J ⟨rfl, rfl⟩
  by_cases c1 : isC (sN σ 0) c
  case neg =>
    rw [if_neg c1, qBeside, if_neg c1]
    refine q_if_ne (tgt := 11) dX7_beside_5 (by decide) (fun q => ?_) (fun q => ?_)
    · exact absurd rfl q
    · refine q_ldc (v := -1000001) ct_RX7_109 dX7_beside_8 ?_
      exact q_iret rfl rfl dX7_beside_10 ⟨rfl, rfl⟩
  rw [if_pos c1, qBeside, if_pos c1]
  refine q_if_ne (tgt := 11) dX7_beside_5 (by decide) (fun q => ?_) (fun q => ?_)
  rotate_left
  · exact absurd q (by decide)
  obtain ⟨i, hi, rfl⟩ := (isC_iff (by omega)).mp c1
  rw [nI_clamp (by omega)]
  refine q_aload_n dX7_beside_11 rfl ?_
  refine q_iload_n dX7_beside_12 rfl ?_
  refine q_cV (as := [_]) lk_RX7_43 (r_isOpen h hw hi) (Or.inl ⟨6, by decide, k356, rfl⟩) rfl (by decide) (Nat.le_of_ble_eq_true rfl) dX7_beside_13 ?_
  rintro v J ⟨rfl, rfl⟩
  by_cases e : sC σ i 6 = 1
  · rw [if_pos e, if_pos e]
    refine q_if_eq (tgt := 30) dX7_beside_16 (by decide) (fun q2 => ?_) (fun q2 => ?_)
    · exact absurd q2 (by decide)
    refine q_aload_n dX7_beside_19 rfl ?_
    refine q_iload_n dX7_beside_20 rfl ?_
    refine q_cV (as := [_]) lk_RX7_85 (r_fitting h hw hi) (Or.inl ⟨6, by decide, k356, rfl⟩) rfl (by decide) (Nat.le_of_ble_eq_true rfl) dX7_beside_21 ?_
    rintro v J ⟨rfl, rfl⟩
    have hle := sft_le σ i 8
    refine q_cS (as := [_]) lk_RX7_161 (r_told (w := sft σ i 8) (by omega)) rfl (by decide) (Nat.le_of_ble_eq_true rfl) dX7_beside_24 ?_
    rintro v J ⟨rfl, rfl⟩
    refine q_goto (tgt := 32) dX7_beside_27 (by decide) ?_
    exact q_iret rfl rfl dX7_beside_32 ⟨rfl, rfl⟩
  · rw [if_neg e, if_neg e]
    refine q_if_eq (tgt := 30) dX7_beside_16 (by decide) (fun q2 => ?_) (fun q2 => ?_)
    rotate_left
    · exact absurd rfl q2
    refine q_ldc (v := -1000002) ct_RX7_110 dX7_beside_30 ?_
    exact q_iret rfl rfl dX7_beside_32 ⟨rfl, rfl⟩
