/-! the reference: another memory; ifJoin -/
/-- what another memory holds of a season -/
theorem RS.cp {I J : q_Mem} {σ : q_S} (h : RS I σ) (hB : sB σ) (hJ : ∀ i, i < 554 → J 357 i = I 357 i) : RS J σ := by
  obtain ⟨b0, b1, b2, b3⟩ := hB
  obtain ⟨h1, h2, h3, h4, h5, h6, h7⟩ := h
  refine ⟨fun j hj => ?_, fun j hj => ?_, fun d hd j hj => ?_, fun d hd => ?_, fun d hd r v hr => ?_, fun p hp j hj => ?_, fun r hr => ?_⟩
  · have hm : mslot j < 336 := by unfold mslot; split <;> (try split) <;> omega
    rw [hJ _ (by omega)]; exact h1 j hj
  · rw [hJ _ (by omega)]; exact h2 j hj
  · rw [hJ _ (by omega)]; exact h3 d hd j hj
  · rw [hJ _ (by omega)]; exact h4 d hd
  · have := g_lt hr (b3 d)
    rw [hJ _ (by omega)]; exact h5 d hd r v hr
  · rw [hJ _ (by omega)]; exact h6 p hp j hj
  · rw [hJ _ (by omega)]; exact h7 r hr
theorem r_ifJoin {c : Int32} {I : q_Mem} {σ : q_S} (h : RS I σ) (hw : WFc σ) (hG : sG σ 1 ≤ 1) : q_M kX7_ifJoin [.ref 356, .int c] I (fun v J => v = some (.int (qIfJoin σ c)) ∧ I = J) := by
  have h8 := hw.B.1
  have h30 := hw.B.2.2.1
  refine q_M.of pnX7_ifJoin (by simp [Value.category]) (Nat.le_of_ble_eq_true rfl) ?_
  refine q_aload_n dX7_ifJoin_0 rfl ?_
  refine q_iload_n dX7_ifJoin_1 rfl ?_
  refine q_cV (as := [_]) lk_RX7_103 (r_isCourse h hw.B) (Or.inl ⟨6, by decide, k356, rfl⟩) rfl (by decide) (Nat.le_of_ble_eq_true rfl) dX7_ifJoin_2 ?_
  rintro v J ⟨rfl, rfl⟩
  by_cases c1 : isC (sN σ 0) c
  case neg =>
    rw [if_neg c1, qIfJoin, if_neg c1]
    refine q_if_ne (tgt := 11) dX7_ifJoin_5 (by decide) (fun q => ?_) (fun q => ?_)
    · exact absurd rfl q
    · refine q_ldc (v := -1000001) ct_RX7_109 dX7_ifJoin_8 ?_
      exact q_iret rfl rfl dX7_ifJoin_10 ⟨rfl, rfl⟩
  rw [if_pos c1, qIfJoin, if_pos c1]
  refine q_if_ne (tgt := 11) dX7_ifJoin_5 (by decide) (fun q => ?_) (fun q => ?_)
  rotate_left
  · exact absurd q (by decide)
  obtain ⟨i, hi, rfl⟩ := (isC_iff (by omega)).mp c1
  rw [nI_clamp (by omega)]
  refine q_aload_n dX7_ifJoin_11 rfl ?_
  refine q_getR2 (b := 357) fl_RX7_7 rfl k356 rfl dX7_ifJoin_12 ?_
  refine q_sipush (v := nI 547) dX7_ifJoin_15 (by decide) ?_
  refine q_iald k357 rfl (lt357 (by omega)) (by decide) (h.g (j := 1) (by omega)) dX7_ifJoin_18 ?_
  refine q_iconst (v := nI 1) dX7_ifJoin_19 (by decide) ?_
  refine q_icmp_neN (tgt := 26) (by omega) (by omega) dX7_ifJoin_20 (by decide) (fun q2 => ?_) (fun q2 => ?_)
  rotate_left
  · rw [if_pos q2]
    refine q_ldc (v := -1000002) ct_RX7_110 dX7_ifJoin_23 ?_
    exact q_iret rfl rfl dX7_ifJoin_25 ⟨rfl, rfl⟩
  rw [if_neg q2]
  refine q_aload_n dX7_ifJoin_26 rfl ?_
  refine q_getR2 (b := 357) fl_RX7_7 rfl k356 rfl dX7_ifJoin_27 ?_
  refine q_sipush (v := nI 335) dX7_ifJoin_30 (by decide) ?_
  refine q_iald k357 rfl (lt357 (by omega)) (by decide) h.n2 dX7_ifJoin_33 ?_
  refine q_bipush (v := nI 30) dX7_ifJoin_34 (by decide) ?_
  refine q_icmp_neN (tgt := 44) (by omega) (by omega) dX7_ifJoin_36 (by decide) (fun q3 => ?_) (fun q3 => ?_)
  rotate_left
  · rw [if_pos q3]
    refine q_ldc (v := -1000003) ct_RX7_111 dX7_ifJoin_39 ?_
    refine q_goto (tgt := 57) dX7_ifJoin_41 (by decide) ?_
    exact q_iret rfl rfl dX7_ifJoin_57 ⟨rfl, rfl⟩
  rw [if_neg q3]
  refine q_aload_n dX7_ifJoin_44 rfl ?_
  refine q_iload_n dX7_ifJoin_45 rfl ?_
  refine q_cV (as := [_]) lk_RX7_60 (r_hasFree h hw hi) (Or.inl ⟨6, by decide, k356, rfl⟩) rfl (by decide) (Nat.le_of_ble_eq_true rfl) dX7_ifJoin_46 ?_
  rintro v J ⟨rfl, rfl⟩
  by_cases e : sC σ i 6 = 1 ∧ sLen σ i < sC σ i 4
  · rw [if_pos e, if_pos e]
    refine q_if_eq (tgt := 56) dX7_ifJoin_49 (by decide) (fun q4 => ?_) (fun q4 => ?_)
    · exact absurd q4 (by decide)
    · refine q_iconst (v := nI 0) dX7_ifJoin_52 (by decide) ?_
      refine q_goto (tgt := 57) dX7_ifJoin_53 (by decide) ?_
      exact q_iret rfl rfl dX7_ifJoin_57 ⟨rfl, rfl⟩
  · rw [if_neg e, if_neg e]
    refine q_if_eq (tgt := 56) dX7_ifJoin_49 (by decide) (fun q4 => ?_) (fun q4 => ?_)
    · refine q_iconst (v := nI 4) dX7_ifJoin_56 (by decide) ?_
      exact q_iret rfl rfl dX7_ifJoin_57 ⟨rfl, rfl⟩
    · exact absurd rfl q4
