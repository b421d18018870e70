/-! the reference: sums -/
theorem ssum_pad {f : Nat → Nat} {n : Nat} (h : ∀ k, n ≤ k → f k = 0) : ∀ d, ssum f (n + d) = ssum f n := by
  intro d
  induction d with
  | zero => rfl
  | succ d ih => rw [show n + (d + 1) = n + d + 1 by omega, ssum, ih, h (n + d) (by omega), Nat.add_zero]
theorem ssum_30 {f : Nat → Nat} {n : Nat} (hn : n ≤ 30) (h : ∀ k, n ≤ k → f k = 0) : ssum f n = ssum f 30 := by
  rw [← ssum_pad h (30 - n), show n + (30 - n) = 30 by omega]
theorem r_paidNow {I : q_Mem} {σ : q_S} (h : RS I σ) (hw : WFc σ) : q_M kX7_paidNow [.ref 356] I (fun v J => v = some (.int (nI (ssum (fun p => sP σ p 5) 30))) ∧ I = J) := by
  have h30 := hw.B.2.2.1
  have hpad : ssum (fun p => sP σ p 5) (sN σ 2) = ssum (fun p => sP σ p 5) 30 := ssum_30 h30 (fun k hk => hw.zero hk 5)
  have key : ∀ (d k : Nat), k + d = sN σ 2 → q_X kX7_paidNow 4 [some (.ref 356), some (.int (nI (ssum (fun p => sP σ p 5) k))), some (.int (nI k))] [] I (fun v J => v = some (.int (nI (ssum (fun p => sP σ p 5) 30))) ∧ I = J) := by
    intro d
    induction d with
    | zero =>
      intro k hd
      obtain rfl : k = sN σ 2 := by omega
      refine q_iload_n dX7_paidNow_4 rfl ?_
      refine q_aload_n dX7_paidNow_5 rfl ?_
      refine q_getR2 (b := 357) fl_RX7_7 rfl k356 rfl dX7_paidNow_6 ?_
      refine q_sipush (v := nI 335) dX7_paidNow_9 (by decide) ?_
      refine q_iald k357 rfl (lt357 (by omega)) (by decide) h.n2 dX7_paidNow_12 ?_
      refine q_icmp_geN (tgt := 35) (by omega) (by omega) dX7_paidNow_13 (by decide) (fun q => ?_) (fun q => ?_)
      · refine q_iload_n dX7_paidNow_35 rfl ?_
        exact q_iret rfl rfl dX7_paidNow_36 ⟨by rw [hpad], rfl⟩
      · omega
    | succ d ih =>
      intro k hd
      have hk : k < sN σ 2 := by omega
      refine q_iload_n dX7_paidNow_4 rfl ?_
      refine q_aload_n dX7_paidNow_5 rfl ?_
      refine q_getR2 (b := 357) fl_RX7_7 rfl k356 rfl dX7_paidNow_6 ?_
      refine q_sipush (v := nI 335) dX7_paidNow_9 (by decide) ?_
      refine q_iald k357 rfl (lt357 (by omega)) (by decide) h.n2 dX7_paidNow_12 ?_
      refine q_icmp_geN (tgt := 35) (by omega) (by omega) dX7_paidNow_13 (by decide) (fun q => ?_) (fun q => ?_)
      · omega
      refine q_iload_n dX7_paidNow_16 rfl ?_
      refine q_aload_n dX7_paidNow_17 rfl ?_
      refine q_getR2 (b := 357) fl_RX7_7 rfl k356 rfl dX7_paidNow_18 ?_
      refine q_iload_n dX7_paidNow_21 rfl ?_
      refine q_iconst (v := nI 5) dX7_paidNow_22 (by decide) ?_
      refine q_cS (as := [_, _]) lk_RX7_36 r_of rfl (by decide) (Nat.le_of_ble_eq_true rfl) dX7_paidNow_23 ?_
      rintro v J ⟨rfl, rfl⟩
      refine q_iald k357 rfl (lt357 (by omega)) (by decide) (h.p hk (j := 5) (by omega)) dX7_paidNow_26 ?_
      rw [show penc 5 (sP σ k 5) = nI (sP σ k 5) from rfl]
      refine q_iadd dX7_paidNow_27 ?_
      rw [nI_add]
      refine q_istore_n (ls' := [_, _, _]) dX7_paidNow_28 (Nat.le_of_ble_eq_true rfl) rfl ?_
      refine q_iinc (ls' := [_, _, _]) dX7_paidNow_29 rfl (nI_add _ 1) rfl ?_
      refine q_goto (tgt := 4) dX7_paidNow_32 (by decide) ?_
      exact ih (k + 1) (by omega)
  refine q_M.of pnX7_paidNow (by simp [Value.category]) (Nat.le_of_ble_eq_true rfl) ?_
  refine q_iconst (v := nI 0) dX7_paidNow_0 (by decide) ?_
  refine q_istore_n (ls' := [_, _, _]) dX7_paidNow_1 (Nat.le_of_ble_eq_true rfl) rfl ?_
  refine q_iconst (v := nI 0) dX7_paidNow_2 (by decide) ?_
  refine q_istore_n (ls' := [_, _, _]) dX7_paidNow_3 (Nat.le_of_ble_eq_true rfl) rfl ?_
  exact key (sN σ 2) 0 (by omega)
theorem r_here {I : q_Mem} {σ : q_S} (h : RS I σ) (hw : WFc σ) : q_M kX7_here [.ref 356] I (fun v J => v = some (.int (nI (nHere σ))) ∧ I = J) := by
  have h30 := hw.B.2.2.1
  have hpad : ssum (fun p => sP σ p 0) (sN σ 2) = nHere σ := ssum_30 h30 (fun k hk => hw.zero hk 0)
  have key : ∀ (d k : Nat), k + d = sN σ 2 → q_X kX7_here 4 [some (.ref 356), some (.int (nI (ssum (fun p => sP σ p 0) k))), some (.int (nI k))] [] I (fun v J => v = some (.int (nI (nHere σ))) ∧ I = J) := by
    intro d
    induction d with
    | zero =>
      intro k hd
      obtain rfl : k = sN σ 2 := by omega
      refine q_iload_n dX7_here_4 rfl ?_
      refine q_aload_n dX7_here_5 rfl ?_
      refine q_getR2 (b := 357) fl_RX7_7 rfl k356 rfl dX7_here_6 ?_
      refine q_sipush (v := nI 335) dX7_here_9 (by decide) ?_
      refine q_iald k357 rfl (lt357 (by omega)) (by decide) h.n2 dX7_here_12 ?_
      refine q_icmp_geN (tgt := 35) (by omega) (by omega) dX7_here_13 (by decide) (fun q => ?_) (fun q => ?_)
      · refine q_iload_n dX7_here_35 rfl ?_
        exact q_iret rfl rfl dX7_here_36 ⟨by rw [hpad], rfl⟩
      · omega
    | succ d ih =>
      intro k hd
      have hk : k < sN σ 2 := by omega
      refine q_iload_n dX7_here_4 rfl ?_
      refine q_aload_n dX7_here_5 rfl ?_
      refine q_getR2 (b := 357) fl_RX7_7 rfl k356 rfl dX7_here_6 ?_
      refine q_sipush (v := nI 335) dX7_here_9 (by decide) ?_
      refine q_iald k357 rfl (lt357 (by omega)) (by decide) h.n2 dX7_here_12 ?_
      refine q_icmp_geN (tgt := 35) (by omega) (by omega) dX7_here_13 (by decide) (fun q => ?_) (fun q => ?_)
      · omega
      refine q_iload_n dX7_here_16 rfl ?_
      refine q_aload_n dX7_here_17 rfl ?_
      refine q_getR2 (b := 357) fl_RX7_7 rfl k356 rfl dX7_here_18 ?_
      refine q_iload_n dX7_here_21 rfl ?_
      refine q_iconst (v := nI 0) dX7_here_22 (by decide) ?_
      refine q_cS (as := [_, _]) lk_RX7_36 r_of rfl (by decide) (Nat.le_of_ble_eq_true rfl) dX7_here_23 ?_
      rintro v J ⟨rfl, rfl⟩
      refine q_iald k357 rfl (lt357 (by omega)) (by decide) (h.p hk (j := 0) (by omega)) dX7_here_26 ?_
      rw [show penc 0 (sP σ k 0) = nI (sP σ k 0) from rfl]
      refine q_iadd dX7_here_27 ?_
      rw [nI_add]
      refine q_istore_n (ls' := [_, _, _]) dX7_here_28 (Nat.le_of_ble_eq_true rfl) rfl ?_
      refine q_iinc (ls' := [_, _, _]) dX7_here_29 rfl (nI_add _ 1) rfl ?_
      refine q_goto (tgt := 4) dX7_here_32 (by decide) ?_
      exact ih (k + 1) (by omega)
  refine q_M.of pnX7_here (by simp [Value.category]) (Nat.le_of_ble_eq_true rfl) ?_
  refine q_iconst (v := nI 0) dX7_here_0 (by decide) ?_
  refine q_istore_n (ls' := [_, _, _]) dX7_here_1 (Nat.le_of_ble_eq_true rfl) rfl ?_
  refine q_iconst (v := nI 0) dX7_here_2 (by decide) ?_
  refine q_istore_n (ls' := [_, _, _]) dX7_here_3 (Nat.le_of_ble_eq_true rfl) rfl ?_
  exact key (sN σ 2) 0 (by omega)
theorem r_withFree {I : q_Mem} {σ : q_S} (h : RS I σ) (hw : WFc σ) : q_M kX7_withFree [.ref 356] I (fun v J => v = some (.int (nI (sbits (fun c => decide (sC σ c 6 = 1 ∧ sLen σ c < sC σ c 4)) 8))) ∧ I = J) := by
  have h8 := hw.B.1
  have hpad : sbits (fun c => decide (sC σ c 6 = 1 ∧ sLen σ c < sC σ c 4)) (sN σ 0) = sbits (fun c => decide (sC σ c 6 = 1 ∧ sLen σ c < sC σ c 4)) 8 := sbits_8 h8 (fun k hk => decide_eq_false (fun z => by have := (hw.2.2.1 k hk).1; have := z.1; omega))
  have key : ∀ (d k : Nat), k + d = sN σ 0 → q_X kX7_withFree 4 [some (.ref 356), some (.int (nI (sbits (fun c => decide (sC σ c 6 = 1 ∧ sLen σ c < sC σ c 4)) k))), some (.int (nI k))] [] I (fun v J => v = some (.int (nI (sbits (fun c => decide (sC σ c 6 = 1 ∧ sLen σ c < sC σ c 4)) 8))) ∧ I = J) := by
    intro d
    induction d with
    | zero =>
      intro k hd
      obtain rfl : k = sN σ 0 := by omega
      refine q_iload_n dX7_withFree_4 rfl ?_
      refine q_aload_n dX7_withFree_5 rfl ?_
      refine q_getR2 (b := 357) fl_RX7_7 rfl k356 rfl dX7_withFree_6 ?_
      refine q_iconst (v := nI 0) dX7_withFree_9 (by decide) ?_
      refine q_iald k357 rfl (lt357 (by omega)) (by decide) h.n0 dX7_withFree_10 ?_
      refine q_icmp_geN (tgt := 38) (by omega) (by omega) dX7_withFree_11 (by decide) (fun q => ?_) (fun q => ?_)
      · refine q_iload_n dX7_withFree_38 rfl ?_
        exact q_iret rfl rfl dX7_withFree_39 ⟨by rw [hpad], rfl⟩
      · omega
    | succ d ih =>
      intro k hd
      have hk : k < sN σ 0 := by omega
      have hlt := sbits_lt (fun c => decide (sC σ c 6 = 1 ∧ sLen σ c < sC σ c 4)) k
      refine q_iload_n dX7_withFree_4 rfl ?_
      refine q_aload_n dX7_withFree_5 rfl ?_
      refine q_getR2 (b := 357) fl_RX7_7 rfl k356 rfl dX7_withFree_6 ?_
      refine q_iconst (v := nI 0) dX7_withFree_9 (by decide) ?_
      refine q_iald k357 rfl (lt357 (by omega)) (by decide) h.n0 dX7_withFree_10 ?_
      refine q_icmp_geN (tgt := 38) (by omega) (by omega) dX7_withFree_11 (by decide) (fun q => ?_) (fun q => ?_)
      · omega
      refine q_iload_n dX7_withFree_14 rfl ?_
      refine q_aload_n dX7_withFree_15 rfl ?_
      refine q_iload_n dX7_withFree_16 rfl ?_
      refine q_cV (as := [_]) lk_RX7_60 (r_hasFree h hw hk) (Or.inl ⟨6, by decide, k356, rfl⟩) rfl (by decide) (Nat.le_of_ble_eq_true rfl) dX7_withFree_17 ?_
      rintro v J ⟨rfl, rfl⟩
      by_cases e : sC σ k 6 = 1 ∧ sLen σ k < sC σ k 4
      · rw [if_pos e]
        refine q_if_eq (tgt := 29) dX7_withFree_20 (by decide) (fun q2 => ?_) (fun q2 => ?_)
        · exact absurd q2 (by decide)
        refine q_iconst (v := nI 1) dX7_withFree_23 (by decide) ?_
        refine q_iload_n dX7_withFree_24 rfl ?_
        refine q_ishl dX7_withFree_25 ?_
        refine q_goto (tgt := 30) dX7_withFree_26 (by decide) ?_
        refine q_ior dX7_withFree_30 ?_
        rw [show nI (sbits (fun c => decide (sC σ c 6 = 1 ∧ sLen σ c < sC σ c 4)) k) ||| (nI 1 <<< (nI k &&& 31)) = nI (sbits (fun c => decide (sC σ c 6 = 1 ∧ sLen σ c < sC σ c 4)) (k + 1)) by
          rw [bit_or k (by omega) _ hlt, sbits, decide_eq_true e]
          rfl]
        refine q_istore_n (ls' := [_, _, _]) dX7_withFree_31 (Nat.le_of_ble_eq_true rfl) rfl ?_
        refine q_iinc (ls' := [_, _, _]) dX7_withFree_32 rfl (nI_add _ 1) rfl ?_
        refine q_goto (tgt := 4) dX7_withFree_35 (by decide) ?_
        exact ih (k + 1) (by omega)
      · rw [if_neg e]
        refine q_if_eq (tgt := 29) dX7_withFree_20 (by decide) (fun q2 => ?_) (fun q2 => ?_)
        rotate_left
        · exact absurd rfl q2
        refine q_iconst (v := nI 0) dX7_withFree_29 (by decide) ?_
        refine q_ior dX7_withFree_30 ?_
        rw [show nI (sbits (fun c => decide (sC σ c 6 = 1 ∧ sLen σ c < sC σ c 4)) k) ||| nI 0 = nI (sbits (fun c => decide (sC σ c 6 = 1 ∧ sLen σ c < sC σ c 4)) (k + 1)) by
          rw [sbits, decide_eq_false e]
          exact Int32.or_zero]
        refine q_istore_n (ls' := [_, _, _]) dX7_withFree_31 (Nat.le_of_ble_eq_true rfl) rfl ?_
        refine q_iinc (ls' := [_, _, _]) dX7_withFree_32 rfl (nI_add _ 1) rfl ?_
        refine q_goto (tgt := 4) dX7_withFree_35 (by decide) ?_
        exact ih (k + 1) (by omega)
  refine q_M.of pnX7_withFree (by simp [Value.category]) (Nat.le_of_ble_eq_true rfl) ?_
  refine q_iconst (v := nI 0) dX7_withFree_0 (by decide) ?_
  refine q_istore_n (ls' := [_, _, _]) dX7_withFree_1 (Nat.le_of_ble_eq_true rfl) rfl ?_
  refine q_iconst (v := nI 0) dX7_withFree_2 (by decide) ?_
  refine q_istore_n (ls' := [_, _, _]) dX7_withFree_3 (Nat.le_of_ble_eq_true rfl) rfl ?_
  exact key (sN σ 0) 0 (by omega)
