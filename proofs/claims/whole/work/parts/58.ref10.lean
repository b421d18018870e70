/-! the reference: sets, a closing's answer -/
theorem sbits_pad {P : Nat → Bool} {n : Nat} (h : ∀ k, n ≤ k → P k = false) : ∀ d, sbits P (n + d) = sbits P n := by
  intro d
  induction d with
  | zero => rfl
  | succ d ih => rw [show n + (d + 1) = n + d + 1 by omega, sbits, ih, h (n + d) (by omega)]; simp
theorem sbits_8 {P : Nat → Bool} {n : Nat} (hn : n ≤ 8) (h : ∀ k, n ≤ k → P k = false) : sbits P n = sbits P 8 := by
  rw [← sbits_pad h (8 - n), show n + (8 - n) = 8 by omega]
theorem r_inState {s : Nat} {I : q_Mem} {σ : q_S} (h : RS I σ) (hw : WFc σ) (hs : s < 8) : q_M kX7_inState [.ref 356, .int (nI s)] I (fun v J => v = some (.int (nI (sbits (fun c => decide (sC σ c 6 = s + 1)) 8))) ∧ I = J) := by
  have h8 := hw.B.1
  have hpad : sbits (fun c => decide (sC σ c 6 = s + 1)) (sN σ 0) = sbits (fun c => decide (sC σ c 6 = s + 1)) 8 := sbits_8 h8 (fun k hk => decide_eq_false (by have := (hw.2.2.1 k hk).1; omega))
  have key : ∀ (d k : Nat), k + d = sN σ 0 → q_X kX7_inState 4 [some (.ref 356), some (.int (nI s)), some (.int (nI (sbits (fun c => decide (sC σ c 6 = s + 1)) k))), some (.int (nI k))] [] I (fun v J => v = some (.int (nI (sbits (fun c => decide (sC σ c 6 = s + 1)) 8))) ∧ I = J) := by
    intro d
    induction d with
    | zero =>
      intro k hd
      obtain rfl : k = sN σ 0 := by omega
      refine q_iload_n dX7_inState_4 rfl ?_
      refine q_aload_n dX7_inState_5 rfl ?_
      refine q_getR2 (b := 357) fl_RX7_7 rfl k356 rfl dX7_inState_6 ?_
      refine q_iconst (v := nI 0) dX7_inState_9 (by decide) ?_
      refine q_iald k357 rfl (lt357 (by omega)) (by decide) h.n0 dX7_inState_10 ?_
      refine q_icmp_geN (tgt := 45) (by omega) (by omega) dX7_inState_11 (by decide) (fun q => ?_) (fun q => ?_)
      · refine q_iload_n dX7_inState_45 rfl ?_
        exact q_iret rfl rfl dX7_inState_46 ⟨by rw [hpad], rfl⟩
      · omega
    | succ d ih =>
      intro k hd
      have hk : k < sN σ 0 := by omega
      have h6 := (hw.cr (show k < 8 by omega)).2.2.2.2.2.2.1
      have hlt := sbits_lt (fun c => decide (sC σ c 6 = s + 1)) k
      refine q_iload_n dX7_inState_4 rfl ?_
      refine q_aload_n dX7_inState_5 rfl ?_
      refine q_getR2 (b := 357) fl_RX7_7 rfl k356 rfl dX7_inState_6 ?_
      refine q_iconst (v := nI 0) dX7_inState_9 (by decide) ?_
      refine q_iald k357 rfl (lt357 (by omega)) (by decide) h.n0 dX7_inState_10 ?_
      refine q_icmp_geN (tgt := 45) (by omega) (by omega) dX7_inState_11 (by decide) (fun q => ?_) (fun q => ?_)
      · omega
      refine q_iload_n dX7_inState_14 rfl ?_
      refine q_aload_n dX7_inState_15 rfl ?_
      refine q_getR2 (b := 357) fl_RX7_7 rfl k356 rfl dX7_inState_16 ?_
      refine q_iload_n dX7_inState_19 rfl ?_
      refine q_bipush (v := nI 6) dX7_inState_20 (by decide) ?_
      refine q_cS (as := [_, _]) lk_RX7_40 r_at rfl (by decide) (Nat.le_of_ble_eq_true rfl) dX7_inState_22 ?_
      rintro v J ⟨rfl, rfl⟩
      refine q_iald k357 rfl (lt357 (by omega)) (by decide) (h.c hk (j := 6) (by omega)) dX7_inState_25 ?_
      refine q_iload_n dX7_inState_26 rfl ?_
      have hz : cenc 6 (sC σ k 6) = nI s ↔ sC σ k 6 = s + 1 := enc_nI (by omega) (by omega)
      refine q_icmp_ne (tgt := 36) dX7_inState_27 (by decide) (fun q2 => ?_) (fun q2 => ?_)
      · refine q_iconst (v := nI 0) dX7_inState_36 (by decide) ?_
        refine q_ior dX7_inState_37 ?_
        rw [show nI (sbits (fun c => decide (sC σ c 6 = s + 1)) k) ||| nI 0 = nI (sbits (fun c => decide (sC σ c 6 = s + 1)) (k + 1)) by
          rw [sbits, decide_eq_false (fun z => q2 (hz.mpr z))]
          exact Int32.or_zero]
        refine q_istore_n (ls' := [_, _, _, _]) dX7_inState_38 (Nat.le_of_ble_eq_true rfl) rfl ?_
        refine q_iinc (ls' := [_, _, _, _]) dX7_inState_39 rfl (nI_add _ 1) rfl ?_
        refine q_goto (tgt := 4) dX7_inState_42 (by decide) ?_
        exact ih (k + 1) (by omega)
      · refine q_iconst (v := nI 1) dX7_inState_30 (by decide) ?_
        refine q_iload_n dX7_inState_31 rfl ?_
        refine q_ishl dX7_inState_32 ?_
        refine q_goto (tgt := 37) dX7_inState_33 (by decide) ?_
        refine q_ior dX7_inState_37 ?_
        rw [show nI (sbits (fun c => decide (sC σ c 6 = s + 1)) k) ||| (nI 1 <<< (nI k &&& 31)) = nI (sbits (fun c => decide (sC σ c 6 = s + 1)) (k + 1)) by
          rw [bit_or k (by omega) _ hlt, sbits, decide_eq_true (hz.mp q2)]
          rfl]
        refine q_istore_n (ls' := [_, _, _, _]) dX7_inState_38 (Nat.le_of_ble_eq_true rfl) rfl ?_
        refine q_iinc (ls' := [_, _, _, _]) dX7_inState_39 rfl (nI_add _ 1) rfl ?_
        refine q_goto (tgt := 4) dX7_inState_42 (by decide) ?_
        exact ih (k + 1) (by omega)
  refine q_M.of pnX7_inState (by simp [Value.category]) (Nat.le_of_ble_eq_true rfl) ?_
  refine q_iconst (v := nI 0) dX7_inState_0 (by decide) ?_
  refine q_istore_n (ls' := [_, _, _, _]) dX7_inState_1 (Nat.le_of_ble_eq_true rfl) rfl ?_
  refine q_iconst (v := nI 0) dX7_inState_2 (by decide) ?_
  refine q_istore_n (ls' := [_, _, _, _]) dX7_inState_3 (Nat.le_of_ble_eq_true rfl) rfl ?_
  exact key (sN σ 0) 0 (by omega)
theorem half_nI : ∀ s, s < 256 → nI s - nI s / nI 2 * nI 2 = nI (s % 2) ∧ nI s / nI 2 = nI (s / 2) := by decide +kernel
theorem bcnt_0 : ∀ d, bcnt d 0 = 0 := by
  intro d
  induction d with
  | zero => rfl
  | succ d ih => rw [bcnt]; simpa using ih
theorem r_size {s : Nat} {I : q_Mem} (hs : s < 2 ^ 8) : q_M kX7_size [.int (nI s)] I (fun v J => v = some (.int (nI (bcnt 8 s))) ∧ I = J) := by
  have key : ∀ (d u m : Nat), u < 2 ^ d → d ≤ 8 → m + bcnt d u = bcnt 8 s → q_X kX7_size 4 [some (.int (nI s)), some (.int (nI m)), some (.int (nI u))] [] I (fun v J => v = some (.int (nI (bcnt 8 s))) ∧ I = J) := by
    intro d
    induction d with
    | zero =>
      intro u m hu hd he
      obtain rfl : u = 0 := by omega
      refine q_iload_n dX7_size_4 rfl ?_
      refine q_if_leN (tgt := 21) (by omega) dX7_size_5 (by decide) (fun q => ?_) (fun q => ?_)
      · refine q_iload_n dX7_size_21 rfl ?_
        exact q_iret rfl rfl dX7_size_22 ⟨by rw [← he]; rfl, rfl⟩
      · omega
    | succ d ih =>
      intro u m hu hd he
      have h2 : 2 ^ (d + 1) ≤ 2 ^ 8 := Nat.pow_le_pow_right (by omega) hd
      obtain ⟨e1, e2⟩ := half_nI u (by omega)
      rw [Nat.pow_succ] at hu
      rw [bcnt] at he
      refine q_iload_n dX7_size_4 rfl ?_
      refine q_if_leN (tgt := 21) (by omega) dX7_size_5 (by decide) (fun q => ?_) (fun q => ?_)
      · obtain rfl : u = 0 := by omega
        rw [bcnt_0] at he
        refine q_iload_n dX7_size_21 rfl ?_
        exact q_iret rfl rfl dX7_size_22 ⟨by rw [← he]; rfl, rfl⟩
      · refine q_iload_n dX7_size_8 rfl ?_
        refine q_iload_n dX7_size_9 rfl ?_
        refine q_iconst (v := nI 2) dX7_size_10 (by decide) ?_
        refine q_irem dX7_size_11 (by decide) ?_
        rw [e1]
        refine q_iadd dX7_size_12 ?_
        rw [nI_add]
        refine q_istore_n (ls' := [_, _, _]) dX7_size_13 (Nat.le_of_ble_eq_true rfl) rfl ?_
        refine q_iload_n dX7_size_14 rfl ?_
        refine q_iconst (v := nI 2) dX7_size_15 (by decide) ?_
        refine q_idiv dX7_size_16 (by decide) ?_
        rw [e2]
        refine q_istore_n (ls' := [_, _, _]) dX7_size_17 (Nat.le_of_ble_eq_true rfl) rfl ?_
        refine q_goto (tgt := 4) dX7_size_18 (by decide) ?_
        exact ih (u / 2) (m + u % 2) (by omega) (by omega) (by omega)
  refine q_M.of pnX7_size (by simp [Value.category]) (Nat.le_of_ble_eq_true rfl) ?_
  refine q_iconst (v := nI 0) dX7_size_0 (by decide) ?_
  refine q_istore_n (ls' := [_, _, _]) dX7_size_1 (Nat.le_of_ble_eq_true rfl) rfl ?_
  refine q_iload_n dX7_size_2 rfl ?_
  refine q_istore_n (ls' := [_, _, _]) dX7_size_3 (Nat.le_of_ble_eq_true rfl) rfl ?_
  exact key 8 s 0 hs (Nat.le_refl _) (by omega)
theorem r_closesTerm {I : q_Mem} {σ : q_S} (h : RS I σ) (hs : sok σ) : q_M kX7_closesTerm [.ref 356] I (fun v J => v = some (.int (opClose σ).1) ∧ RS J (opClose σ).2 ∧ FM 357 I J) := by
  have hw := hs.1
  have h1 := hs.2.1
  refine q_M.of pnX7_closesTerm (by simp [Value.category]) (Nat.le_of_ble_eq_true rfl) ?_
  refine q_aload_n dX7_closesTerm_0 rfl ?_
  refine q_getR2 (b := 357) fl_RX7_7 rfl k356 rfl dX7_closesTerm_1 ?_
  refine q_sipush (v := nI 547) dX7_closesTerm_4 (by decide) ?_
  refine q_iald k357 rfl (lt357 (by omega)) (by decide) (h.g (j := 1) (by omega)) dX7_closesTerm_7 ?_
  refine q_iconst (v := nI 1) dX7_closesTerm_8 (by decide) ?_
  refine q_icmp_neN (tgt := 15) (by omega) (by omega) dX7_closesTerm_9 (by decide) (fun q => ?_) (fun q => ?_)
  · rw [show opClose σ = (nI (bcnt 8 (sbits (fun c => decide (sC (sclose σ) c 6 = 2)) 8)), sclose σ) by rw [opClose, if_neg q]]
    refine q_aload_n dX7_closesTerm_15 rfl ?_
    refine q_cV (as := []) lk_RX7_119 (r_closes h hw) (Or.inl ⟨6, by decide, k356, rfl⟩) rfl (by decide) (Nat.le_of_ble_eq_true rfl) dX7_closesTerm_16 ?_
    rintro v J ⟨rfl, g1, g2⟩
    refine q_aload_n dX7_closesTerm_19 rfl ?_
    refine q_iconst (v := nI 1) dX7_closesTerm_20 (by decide) ?_
    refine q_cV (as := [_]) lk_RX7_122 (r_inState g1 hw.close (s := 1) (by omega)) (Or.inl ⟨6, by decide, k356, rfl⟩) rfl (by decide) (Nat.le_of_ble_eq_true rfl) dX7_closesTerm_21 ?_
    rintro v J' ⟨rfl, rfl⟩
    refine q_cS (as := [_]) lk_RX7_125 (r_size (sbits_lt _ 8)) rfl (by decide) (Nat.le_of_ble_eq_true rfl) dX7_closesTerm_24 ?_
    rintro v J' ⟨rfl, rfl⟩
    exact q_iret rfl rfl dX7_closesTerm_27 ⟨rfl, g1, g2⟩
  · rw [show opClose σ = (-1000002, σ) by rw [opClose, if_pos q]]
    refine q_ldc (v := -1000002) ct_RX7_110 dX7_closesTerm_12 ?_
    exact q_iret rfl rfl dX7_closesTerm_14 ⟨rfl, h, FM.rf⟩
