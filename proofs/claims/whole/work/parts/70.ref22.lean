/-! the reference: the mean, counts -/
theorem r_bitsOf {v : UInt32} {x : Int32} {I : q_Mem} (h : rbits v = some x) : q_M kX7_bitsOf [.float v] I (fun w J => w = some (.int x) ∧ I = J) := by
  have fin : ∀ (e : Int32) (r : UInt32), rend e r = some x → q_X kX7_bitsOf 45 [some (.float v), some (.int e), some (.float r)] [] I (fun w J => w = some (.int x) ∧ I = J) := by
    intro e r he
    unfold rend at he
    by_cases c : n32 (FP.fsub r FP.fconst1) = true ∧ n32 (FP.fmul (FP.fsub r FP.fconst1) 1258291200) = true
    case neg => rw [if_neg c] at he; cases he
    rw [if_pos c] at he
    injection he with he
    have c1 := n32_of c.1
    have c2 := n32_of c.2
    refine q_iload_n dX7_bitsOf_45 rfl ?_
    refine q_ldc (v := 8388608) ct_RX7_170 dX7_bitsOf_46 ?_
    refine q_imul dX7_bitsOf_48 ?_
    refine q_fload_n dX7_bitsOf_49 rfl ?_
    refine q_fconst1 dX7_bitsOf_50 ?_
    refine q_fsub dX7_bitsOf_51 (by assumption) ?_
    refine q_ldcf (v := 1258291200) ct_RX7_171 dX7_bitsOf_52 ?_
    refine q_fmul dX7_bitsOf_54 (by assumption) ?_
    refine q_f2i dX7_bitsOf_55 ?_
    refine q_iadd dX7_bitsOf_56 ?_
    exact q_iret rfl rfl dX7_bitsOf_57 ⟨by rw [he], rfl⟩
  have dn : ∀ (d : Nat) (e : Int32) (r : UInt32) (y : Int32 × UInt32), cdn d e r = some y → rend y.1 y.2 = some x → q_X kX7_bitsOf 29 [some (.float v), some (.int e), some (.float r)] [] I (fun w J => w = some (.int x) ∧ I = J) := by
    intro d
    induction d with
    | zero => intro e r y hc; cases hc
    | succ d ih =>
      intro e r y hc hy
      rw [cdn] at hc
      refine q_fload_n dX7_bitsOf_29 rfl ?_
      refine q_fconst2 dX7_bitsOf_30 ?_
      refine q_fcmp dX7_bitsOf_31 ?_
      refine q_if_lt (tgt := 45) dX7_bitsOf_32 (by decide) (fun q2 => ?_) (fun q2 => ?_)
      · rw [if_pos q2] at hc
        injection hc with hc
        subst hc
        exact fin e r hy
      · rw [if_neg q2] at hc
        by_cases c : n32 (FP.fdiv r FP.fconst2) = true
        case neg => rw [if_neg c] at hc; cases hc
        rw [if_pos c] at hc
        have c1 := n32_of c
        refine q_fload_n dX7_bitsOf_35 rfl ?_
        refine q_fconst2 dX7_bitsOf_36 ?_
        refine q_fdiv dX7_bitsOf_37 (by assumption) ?_
        refine q_fstore_n (ls' := [_, _, _]) dX7_bitsOf_38 (Nat.le_of_ble_eq_true rfl) rfl ?_
        refine q_iinc (ls' := [_, _, _]) dX7_bitsOf_39 rfl ((show e + Int32.ofInt 1 = e + 1 from rfl)) rfl ?_
        refine q_goto (tgt := 29) dX7_bitsOf_42 (by decide) ?_
        exact ih (e + 1) _ y hc hy
  have up : ∀ (d : Nat) (e : Int32) (r : UInt32) (y : Int32 × UInt32), cup d e r = some y → ((cdn 8 y.1 y.2).bind fun r => rend r.1 r.2) = some x → q_X kX7_bitsOf 13 [some (.float v), some (.int e), some (.float r)] [] I (fun w J => w = some (.int x) ∧ I = J) := by
    intro d
    induction d with
    | zero => intro e r y hc; cases hc
    | succ d ih =>
      intro e r y hc hy
      rw [cup] at hc
      refine q_fload_n dX7_bitsOf_13 rfl ?_
      refine q_fconst1 dX7_bitsOf_14 ?_
      refine q_fcmp dX7_bitsOf_15 ?_
      refine q_if_ge (tgt := 29) dX7_bitsOf_16 (by decide) (fun q2 => ?_) (fun q2 => ?_)
      · rw [if_pos q2] at hc
        injection hc with hc
        subst hc
        cases hz : cdn 8 e r with
        | none => simp only [hz] at hy; cases hy
        | some z =>
          simp only [hz] at hy
          exact dn 8 e r z hz hy
      · rw [if_neg q2] at hc
        by_cases c : n32 (FP.fmul r FP.fconst2) = true
        case neg => rw [if_neg c] at hc; cases hc
        rw [if_pos c] at hc
        have c1 := n32_of c
        refine q_fload_n dX7_bitsOf_19 rfl ?_
        refine q_fconst2 dX7_bitsOf_20 ?_
        refine q_fmul dX7_bitsOf_21 (by assumption) ?_
        refine q_fstore_n (ls' := [_, _, _]) dX7_bitsOf_22 (Nat.le_of_ble_eq_true rfl) rfl ?_
        refine q_iinc (ls' := [_, _, _]) dX7_bitsOf_23 rfl ((show e + Int32.ofInt (-1) = e - 1 from (Int32.sub_eq_add_neg e 1).symm)) rfl ?_
        refine q_goto (tgt := 13) dX7_bitsOf_26 (by decide) ?_
        exact ih (e - 1) _ y hc hy
  unfold rbits at h
  refine q_M.of pnX7_bitsOf (by simp [Value.category]) (Nat.le_of_ble_eq_true rfl) ?_
  refine q_fload_n dX7_bitsOf_0 rfl ?_
  refine q_fconst0 dX7_bitsOf_1 ?_
  refine q_fcmp dX7_bitsOf_2 ?_
  refine q_if_ne (tgt := 8) dX7_bitsOf_3 (by decide) (fun q => ?_) (fun q => ?_)
  · rw [if_neg q] at h
    cases hz : cup 8 127 v with
    | none => rw [hz] at h; cases h
    | some z =>
      rw [hz] at h
      refine q_bipush (v := nI 127) dX7_bitsOf_8 (by decide) ?_
      refine q_istore_n (ls' := [_, _, _]) dX7_bitsOf_10 (Nat.le_of_ble_eq_true rfl) rfl ?_
      refine q_fload_n dX7_bitsOf_11 rfl ?_
      refine q_fstore_n (ls' := [_, _, _]) dX7_bitsOf_12 (Nat.le_of_ble_eq_true rfl) rfl ?_
      exact up 8 127 v z hz h
  · rw [if_pos q] at h
    injection h with h
    refine q_iconst (v := nI 0) dX7_bitsOf_6 (by decide) ?_
    exact q_iret rfl rfl dX7_bitsOf_7 ⟨by rw [← h]; rfl, rfl⟩
theorem r_mean {I : q_Mem} {σ : q_S} (h : RS I σ) (hw : WFc σ) : q_M kX7_mean [.ref 356] I (fun v J => v = some (.int (qMean σ)) ∧ I = J) := by
  have h30 := hw.B.2.2.1
  have hn30 := nHere_le hw
  have hpad : ssum (fun p => if sP σ p 0 = 0 then 0 else srank σ p) (sN σ 2) = nRanks σ := ssum_30 h30 (fun k hk => if_pos (hw.zero hk 0))
  have key : ∀ (d k : Nat), k + d = sN σ 2 → q_X kX7_mean 4 [some (.ref 356), some (.int (nI (ssum (fun p => if sP σ p 0 = 0 then 0 else srank σ p) k))), some (.int (nI k))] [] I (fun v J => v = some (.int (qMean σ)) ∧ I = J) := by
    intro d
    induction d with
    | zero =>
      intro k hd
      obtain rfl : k = sN σ 2 := by omega
      refine q_iload_n dX7_mean_4 rfl ?_
      refine q_aload_n dX7_mean_5 rfl ?_
      refine q_getR2 (b := 357) fl_RX7_7 rfl k356 rfl dX7_mean_6 ?_
      refine q_sipush (v := nI 335) dX7_mean_9 (by decide) ?_
      refine q_iald k357 rfl (lt357 (by omega)) (by decide) h.n2 dX7_mean_12 ?_
      refine q_icmp_geN (tgt := 42) (by omega) (by omega) dX7_mean_13 (by decide) (fun q => ?_) (fun q => ?_)
      rotate_left
      · omega
      rw [hpad]
      refine q_aload_n dX7_mean_42 rfl ?_
      refine q_cV (as := []) lk_RX7_172 (r_here h hw) (Or.inl ⟨6, by decide, k356, rfl⟩) rfl (by decide) (Nat.le_of_ble_eq_true rfl) dX7_mean_43 ?_
      rintro v J ⟨rfl, rfl⟩
      refine q_if_neN (tgt := 54) (by omega) dX7_mean_46 (by decide) (fun q2 => ?_) (fun q2 => ?_)
      · obtain ⟨m1, m2, m3⟩ := mtab_c (show 1 ≤ nHere σ by omega) hn30 (nRanks_le (σ := σ))
        refine q_iload_n dX7_mean_54 rfl ?_
        refine q_i2f dX7_mean_55 ?_
        refine q_aload_n dX7_mean_56 rfl ?_
        refine q_cV (as := []) lk_RX7_172 (r_here h hw) (Or.inl ⟨6, by decide, k356, rfl⟩) rfl (by decide) (Nat.le_of_ble_eq_true rfl) dX7_mean_57 ?_
        rintro v J ⟨rfl, rfl⟩
        refine q_i2f dX7_mean_60 ?_
        refine q_fdiv dX7_mean_61 m1 ?_
        refine q_cS (as := [_]) lk_RX7_175 (r_bitsOf m3) rfl (by decide) (Nat.le_of_ble_eq_true rfl) dX7_mean_62 ?_
        rintro v J ⟨rfl, rfl⟩
        exact q_iret rfl rfl dX7_mean_65 ⟨by rw [qMean, if_neg q2], rfl⟩
      · refine q_ldc (v := -1000004) ct_RX7_157 dX7_mean_49 ?_
        refine q_goto (tgt := 65) dX7_mean_51 (by decide) ?_
        exact q_iret rfl rfl dX7_mean_65 ⟨by rw [qMean, if_pos q2], rfl⟩
    | succ d ih =>
      intro k hd
      have hk : k < sN σ 2 := by omega
      have nx := ih (k + 1) (by omega)
      rw [ssum] at nx
      refine q_iload_n dX7_mean_4 rfl ?_
      refine q_aload_n dX7_mean_5 rfl ?_
      refine q_getR2 (b := 357) fl_RX7_7 rfl k356 rfl dX7_mean_6 ?_
      refine q_sipush (v := nI 335) dX7_mean_9 (by decide) ?_
      refine q_iald k357 rfl (lt357 (by omega)) (by decide) h.n2 dX7_mean_12 ?_
      refine q_icmp_geN (tgt := 42) (by omega) (by omega) dX7_mean_13 (by decide) (fun q => ?_) (fun q => ?_)
      · omega
      refine q_iload_n dX7_mean_16 rfl ?_
      refine q_aload_n dX7_mean_17 rfl ?_
      refine q_iload_n dX7_mean_18 rfl ?_
      refine q_cV (as := [_]) lk_RX7_54 (r_isHere h hw hk) (Or.inl ⟨6, by decide, k356, rfl⟩) rfl (by decide) (Nat.le_of_ble_eq_true rfl) dX7_mean_19 ?_
      rintro v J ⟨rfl, rfl⟩
      by_cases e : sP σ k 0 = 0
      · rw [if_pos e] at nx
        rw [if_pos e]
        refine q_if_eq (tgt := 33) dX7_mean_22 (by decide) (fun q2 => ?_) (fun q2 => ?_)
        rotate_left
        · exact absurd rfl q2
        refine q_iconst (v := nI 0) dX7_mean_33 (by decide) ?_
        refine q_iadd dX7_mean_34 ?_
        rw [nI_add]
        refine q_istore_n (ls' := [_, _, _]) dX7_mean_35 (Nat.le_of_ble_eq_true rfl) rfl ?_
        refine q_iinc (ls' := [_, _, _]) dX7_mean_36 rfl (nI_add _ 1) rfl ?_
        refine q_goto (tgt := 4) dX7_mean_39 (by decide) ?_
        exact nx
      · rw [if_neg e] at nx
        rw [if_neg e]
        refine q_if_eq (tgt := 33) dX7_mean_22 (by decide) (fun q2 => ?_) (fun q2 => ?_)
        · exact absurd q2 (by decide)
        refine q_aload_n dX7_mean_25 rfl ?_
        refine q_iload_n dX7_mean_26 rfl ?_
        refine q_cV (as := [_]) lk_RX7_57 (r_rank h hw hk) (Or.inl ⟨6, by decide, k356, rfl⟩) rfl (by decide) (Nat.le_of_ble_eq_true rfl) dX7_mean_27 ?_
        rintro v J ⟨rfl, rfl⟩
        refine q_goto (tgt := 34) dX7_mean_30 (by decide) ?_
        refine q_iadd dX7_mean_34 ?_
        rw [nI_add]
        refine q_istore_n (ls' := [_, _, _]) dX7_mean_35 (Nat.le_of_ble_eq_true rfl) rfl ?_
        refine q_iinc (ls' := [_, _, _]) dX7_mean_36 rfl (nI_add _ 1) rfl ?_
        refine q_goto (tgt := 4) dX7_mean_39 (by decide) ?_
        exact nx
  refine q_M.of pnX7_mean (by simp [Value.category]) (Nat.le_of_ble_eq_true rfl) ?_
  refine q_iconst (v := nI 0) dX7_mean_0 (by decide) ?_
  refine q_istore_n (ls' := [_, _, _]) dX7_mean_1 (Nat.le_of_ble_eq_true rfl) rfl ?_
  refine q_iconst (v := nI 0) dX7_mean_2 (by decide) ?_
  refine q_istore_n (ls' := [_, _, _]) dX7_mean_3 (Nat.le_of_ble_eq_true rfl) rfl ?_
  exact key (sN σ 2) 0 (by omega)
theorem r_count {w : Int32} {I : q_Mem} {σ : q_S} {hs : List q_S} {t : List Nat} (h : MG I σ hs t) (hs1 : sok σ) : q_M kX7_count [.ref 356, .int w] I (fun v J => v = some (.int (qCount σ hs.length t.length w)) ∧ I = J) := by
  have hw := hs1.1
  have h0 := h.1
  refine q_M.of pnX7_count (by simp [Value.category]) (Nat.le_of_ble_eq_true rfl) ?_
  refine q_iload_n dX7_count_0 rfl ?_
  by_cases hwc : isC 18 w
  case neg =>
    refine q_tabOut (tgt := 177) dX7_count_1 (by have := tab_out (by omega) hwc; omega) (by decide) ?_
    refine q_ldc (v := -1000001) ct_RX7_109 dX7_count_177 ?_
    exact q_iret rfl rfl dX7_count_179 ⟨by rw [qCount, if_neg hwc], rfl⟩
  obtain ⟨j, hj, rfl⟩ := (isC_iff (by omega)).mp hwc
  have hv : qCount σ hs.length t.length (nI j) = cnt σ hs.length t.length j := by rw [qCount, if_pos hwc, nI_clamp (by omega)]
  rw [hv]
  have hjc : j = 0 ∨ j = 1 ∨ j = 2 ∨ j = 3 ∨ j = 4 ∨ j = 5 ∨ j = 6 ∨ j = 7 ∨ j = 8 ∨ j = 9 ∨ j = 10 ∨ j = 11 ∨ j = 12 ∨ j = 13 ∨ j = 14 ∨ j = 15 ∨ j = 16 ∨ j = 17 := by omega
  rcases hjc with rfl | rfl | rfl | rfl | rfl | rfl | rfl | rfl | rfl | rfl | rfl | rfl | rfl | rfl | rfl | rfl | rfl | rfl
  · refine q_tabIn (off := 87) (tgt := 88) dX7_count_1 (by decide) (by decide) (by decide) (by decide) ?_
    refine q_aload_n dX7_count_88 rfl ?_
    refine q_getR2 (b := 357) fl_RX7_7 rfl k356 rfl dX7_count_89 ?_
    refine q_iconst (v := nI 0) dX7_count_92 (by decide) ?_
    refine q_iald k357 rfl (lt357 (by omega)) (by decide) h0.n0 dX7_count_93 ?_
    exact q_iret rfl rfl dX7_count_94 ⟨rfl, rfl⟩
  · refine q_tabIn (off := 94) (tgt := 95) dX7_count_1 (by decide) (by decide) (by decide) (by decide) ?_
    refine q_aload_n dX7_count_95 rfl ?_
    refine q_getR2 (b := 357) fl_RX7_7 rfl k356 rfl dX7_count_96 ?_
    refine q_sipush (v := nI 329) dX7_count_99 (by decide) ?_
    refine q_iald k357 rfl (lt357 (by omega)) (by decide) h0.n1 dX7_count_102 ?_
    exact q_iret rfl rfl dX7_count_103 ⟨rfl, rfl⟩
  · refine q_tabIn (off := 103) (tgt := 104) dX7_count_1 (by decide) (by decide) (by decide) (by decide) ?_
    refine q_aload_n dX7_count_104 rfl ?_
    refine q_getR2 (b := 357) fl_RX7_7 rfl k356 rfl dX7_count_105 ?_
    refine q_sipush (v := nI 335) dX7_count_108 (by decide) ?_
    refine q_iald k357 rfl (lt357 (by omega)) (by decide) h0.n2 dX7_count_111 ?_
    exact q_iret rfl rfl dX7_count_112 ⟨rfl, rfl⟩
  · refine q_tabIn (off := 112) (tgt := 113) dX7_count_1 (by decide) (by decide) (by decide) (by decide) ?_
    refine q_aload_n dX7_count_113 rfl ?_
    refine q_cV (as := []) lk_RX7_172 (r_here h0 hw) (Or.inl ⟨6, by decide, k356, rfl⟩) rfl (by decide) (Nat.le_of_ble_eq_true rfl) dX7_count_114 ?_
    rintro v J ⟨rfl, rfl⟩
    exact q_iret rfl rfl dX7_count_117 ⟨rfl, rfl⟩
  · refine q_tabIn (off := 117) (tgt := 118) dX7_count_1 (by decide) (by decide) (by decide) (by decide) ?_
    refine q_aload_n dX7_count_118 rfl ?_
    refine q_cV (as := []) lk_RX7_167 (r_peopleIn h0 hw) (Or.inl ⟨6, by decide, k356, rfl⟩) rfl (by decide) (Nat.le_of_ble_eq_true rfl) dX7_count_119 ?_
    rintro v J ⟨rfl, rfl⟩
    exact q_iret rfl rfl dX7_count_122 ⟨rfl, rfl⟩
  · refine q_tabIn (off := 122) (tgt := 123) dX7_count_1 (by decide) (by decide) (by decide) (by decide) ?_
    refine q_aload_n dX7_count_123 rfl ?_
    refine q_iconst (v := nI 0) dX7_count_124 (by decide) ?_
    refine q_cV (as := [_]) lk_RX7_122 (r_inState h0 hw (s := 0) (by omega)) (Or.inl ⟨6, by decide, k356, rfl⟩) rfl (by decide) (Nat.le_of_ble_eq_true rfl) dX7_count_125 ?_
    rintro v J ⟨rfl, rfl⟩
    exact q_iret rfl rfl dX7_count_128 ⟨rfl, rfl⟩
  · refine q_tabIn (off := 128) (tgt := 129) dX7_count_1 (by decide) (by decide) (by decide) (by decide) ?_
    refine q_aload_n dX7_count_129 rfl ?_
    refine q_cV (as := []) lk_RX7_179 (r_withFree h0 hw) (Or.inl ⟨6, by decide, k356, rfl⟩) rfl (by decide) (Nat.le_of_ble_eq_true rfl) dX7_count_130 ?_
    rintro v J ⟨rfl, rfl⟩
    exact q_iret rfl rfl dX7_count_133 ⟨rfl, rfl⟩
  · refine q_tabIn (off := 133) (tgt := 134) dX7_count_1 (by decide) (by decide) (by decide) (by decide) ?_
    refine q_aload_n dX7_count_134 rfl ?_
    refine q_getR2 (b := 357) fl_RX7_7 rfl k356 rfl dX7_count_135 ?_
    refine q_sipush (v := nI 546) dX7_count_138 (by decide) ?_
    refine q_iload_n dX7_count_141 rfl ?_
    refine q_iadd dX7_count_142 ?_
    refine q_bipush (v := nI 7) dX7_count_143 (by decide) ?_
    refine q_isub dX7_count_145 ?_
    rw [show nI 546 + nI 7 - nI 7 = nI 546 from rfl]
    refine q_iald k357 rfl (lt357 (by omega)) (by decide) (h0.g (j := 0) (by omega)) dX7_count_146 ?_
    exact q_iret rfl rfl dX7_count_147 ⟨rfl, rfl⟩
  · refine q_tabIn (off := 133) (tgt := 134) dX7_count_1 (by decide) (by decide) (by decide) (by decide) ?_
    refine q_aload_n dX7_count_134 rfl ?_
    refine q_getR2 (b := 357) fl_RX7_7 rfl k356 rfl dX7_count_135 ?_
    refine q_sipush (v := nI 546) dX7_count_138 (by decide) ?_
    refine q_iload_n dX7_count_141 rfl ?_
    refine q_iadd dX7_count_142 ?_
    refine q_bipush (v := nI 7) dX7_count_143 (by decide) ?_
    refine q_isub dX7_count_145 ?_
    rw [show nI 546 + nI 8 - nI 7 = nI 547 from rfl]
    refine q_iald k357 rfl (lt357 (by omega)) (by decide) (h0.g (j := 1) (by omega)) dX7_count_146 ?_
    exact q_iret rfl rfl dX7_count_147 ⟨rfl, rfl⟩
  · refine q_tabIn (off := 133) (tgt := 134) dX7_count_1 (by decide) (by decide) (by decide) (by decide) ?_
    refine q_aload_n dX7_count_134 rfl ?_
    refine q_getR2 (b := 357) fl_RX7_7 rfl k356 rfl dX7_count_135 ?_
    refine q_sipush (v := nI 546) dX7_count_138 (by decide) ?_
    refine q_iload_n dX7_count_141 rfl ?_
    refine q_iadd dX7_count_142 ?_
    refine q_bipush (v := nI 7) dX7_count_143 (by decide) ?_
    refine q_isub dX7_count_145 ?_
    rw [show nI 546 + nI 9 - nI 7 = nI 548 from rfl]
    refine q_iald k357 rfl (lt357 (by omega)) (by decide) (h0.g (j := 2) (by omega)) dX7_count_146 ?_
    exact q_iret rfl rfl dX7_count_147 ⟨rfl, rfl⟩
  · refine q_tabIn (off := 133) (tgt := 134) dX7_count_1 (by decide) (by decide) (by decide) (by decide) ?_
    refine q_aload_n dX7_count_134 rfl ?_
    refine q_getR2 (b := 357) fl_RX7_7 rfl k356 rfl dX7_count_135 ?_
    refine q_sipush (v := nI 546) dX7_count_138 (by decide) ?_
    refine q_iload_n dX7_count_141 rfl ?_
    refine q_iadd dX7_count_142 ?_
    refine q_bipush (v := nI 7) dX7_count_143 (by decide) ?_
    refine q_isub dX7_count_145 ?_
    rw [show nI 546 + nI 10 - nI 7 = nI 549 from rfl]
    refine q_iald k357 rfl (lt357 (by omega)) (by decide) (h0.g (j := 3) (by omega)) dX7_count_146 ?_
    exact q_iret rfl rfl dX7_count_147 ⟨rfl, rfl⟩
  · refine q_tabIn (off := 147) (tgt := 148) dX7_count_1 (by decide) (by decide) (by decide) (by decide) ?_
    refine q_aload_n dX7_count_148 rfl ?_
    refine q_cV (as := []) lk_RX7_128 (r_paidNow h0 hw) (Or.inl ⟨6, by decide, k356, rfl⟩) rfl (by decide) (Nat.le_of_ble_eq_true rfl) dX7_count_149 ?_
    rintro v J ⟨rfl, rfl⟩
    exact q_iret rfl rfl dX7_count_152 ⟨rfl, rfl⟩
  · refine q_tabIn (off := 152) (tgt := 153) dX7_count_1 (by decide) (by decide) (by decide) (by decide) ?_
    refine q_aload_n dX7_count_153 rfl ?_
    refine q_getR2 (b := 357) fl_RX7_7 rfl k356 rfl dX7_count_154 ?_
    refine q_sipush (v := nI 550) dX7_count_157 (by decide) ?_
    refine q_iload_n dX7_count_160 rfl ?_
    refine q_iadd dX7_count_161 ?_
    refine q_bipush (v := nI 12) dX7_count_162 (by decide) ?_
    refine q_isub dX7_count_164 ?_
    rw [show nI 550 + nI 12 - nI 12 = nI 550 from rfl]
    refine q_iald k357 rfl (lt357 (by omega)) (by decide) (h0.g (j := 4) (by omega)) dX7_count_165 ?_
    exact q_iret rfl rfl dX7_count_166 ⟨rfl, rfl⟩
  · refine q_tabIn (off := 152) (tgt := 153) dX7_count_1 (by decide) (by decide) (by decide) (by decide) ?_
    refine q_aload_n dX7_count_153 rfl ?_
    refine q_getR2 (b := 357) fl_RX7_7 rfl k356 rfl dX7_count_154 ?_
    refine q_sipush (v := nI 550) dX7_count_157 (by decide) ?_
    refine q_iload_n dX7_count_160 rfl ?_
    refine q_iadd dX7_count_161 ?_
    refine q_bipush (v := nI 12) dX7_count_162 (by decide) ?_
    refine q_isub dX7_count_164 ?_
    rw [show nI 550 + nI 13 - nI 12 = nI 551 from rfl]
    refine q_iald k357 rfl (lt357 (by omega)) (by decide) (h0.g (j := 5) (by omega)) dX7_count_165 ?_
    exact q_iret rfl rfl dX7_count_166 ⟨rfl, rfl⟩
  · refine q_tabIn (off := 152) (tgt := 153) dX7_count_1 (by decide) (by decide) (by decide) (by decide) ?_
    refine q_aload_n dX7_count_153 rfl ?_
    refine q_getR2 (b := 357) fl_RX7_7 rfl k356 rfl dX7_count_154 ?_
    refine q_sipush (v := nI 550) dX7_count_157 (by decide) ?_
    refine q_iload_n dX7_count_160 rfl ?_
    refine q_iadd dX7_count_161 ?_
    refine q_bipush (v := nI 12) dX7_count_162 (by decide) ?_
    refine q_isub dX7_count_164 ?_
    rw [show nI 550 + nI 14 - nI 12 = nI 552 from rfl]
    refine q_iald k357 rfl (lt357 (by omega)) (by decide) (h0.g (j := 6) (by omega)) dX7_count_165 ?_
    exact q_iret rfl rfl dX7_count_166 ⟨rfl, rfl⟩
  · refine q_tabIn (off := 152) (tgt := 153) dX7_count_1 (by decide) (by decide) (by decide) (by decide) ?_
    refine q_aload_n dX7_count_153 rfl ?_
    refine q_getR2 (b := 357) fl_RX7_7 rfl k356 rfl dX7_count_154 ?_
    refine q_sipush (v := nI 550) dX7_count_157 (by decide) ?_
    refine q_iload_n dX7_count_160 rfl ?_
    refine q_iadd dX7_count_161 ?_
    refine q_bipush (v := nI 12) dX7_count_162 (by decide) ?_
    refine q_isub dX7_count_164 ?_
    rw [show nI 550 + nI 15 - nI 12 = nI 553 from rfl]
    refine q_iald k357 rfl (lt357 (by omega)) (by decide) (h0.g (j := 7) (by omega)) dX7_count_165 ?_
    exact q_iret rfl rfl dX7_count_166 ⟨rfl, rfl⟩
  · refine q_tabIn (off := 166) (tgt := 167) dX7_count_1 (by decide) (by decide) (by decide) (by decide) ?_
    refine q_aload_n dX7_count_167 rfl ?_
    refine q_getI fl_RX7_28 rfl k356 h.2.1.1 dX7_count_168 ?_
    exact q_iret rfl rfl dX7_count_171 ⟨rfl, rfl⟩
  · refine q_tabIn (off := 171) (tgt := 172) dX7_count_1 (by decide) (by decide) (by decide) (by decide) ?_
    refine q_aload_n dX7_count_172 rfl ?_
    refine q_getI fl_RX7_182 rfl k356 h.2.2.1 dX7_count_173 ?_
    exact q_iret rfl rfl dX7_count_176 ⟨rfl, rfl⟩
/-! the reference: undo, the text's characters -/
theorem r_undo {I : q_Mem} {σ : q_S} {hs : List q_S} {t : List Nat} (h : MG I σ hs t) (hs1 : ∀ τ, τ ∈ hs → sok τ) : q_M kX7_undo [.ref 356] I (fun v J => v = some (.int (qUndo σ hs).1) ∧ MG J (qUndo σ hs).2.1 (qUndo σ hs).2.2 t ∧ FR I J) := by
  obtain ⟨h0, ⟨m1, m2, m3⟩, hT⟩ := id h
  refine q_M.of pnX7_undo (by simp [Value.category]) (Nat.le_of_ble_eq_true rfl) ?_
  refine q_aload_n dX7_undo_0 rfl ?_
  refine q_getI fl_RX7_28 rfl k356 m1 dX7_undo_1 ?_
  cases hs with
  | nil =>
    refine q_if_neN (tgt := 10) (by omega) dX7_undo_4 (by decide) (fun q => ?_) (fun q => ?_)
    · exact absurd rfl q
    refine q_ldc (v := -1000002) ct_RX7_110 dX7_undo_7 ?_
    exact q_iret rfl rfl dX7_undo_9 ⟨rfl, h, FR.rf⟩
  | cons τ l =>
    have hl : (τ :: l).length = l.length + 1 := rfl
    rw [hl] at m1 m2 m3
    have hτ := hs1 τ List.mem_cons_self
    rw [hl]
    refine q_if_neN (tgt := 10) (by omega) dX7_undo_4 (by decide) (fun q => ?_) (fun q => ?_)
    rotate_left
    · omega
    refine q_aload_n dX7_undo_10 rfl ?_
    refine q_dup dX7_undo_11 rfl ?_
    refine q_getI fl_RX7_28 rfl k356 m1 dX7_undo_12 ?_
    refine q_iconst (v := nI 1) dX7_undo_15 (by decide) ?_
    refine q_isub dX7_undo_16 ?_
    rw [pk_sub (show 1 ≤ l.length + 1 by omega), Nat.add_sub_cancel]
    refine q_putI ⟨fl_RX7_28, rfl, rfl⟩ k356 ⟨rfl, rfl⟩ dX7_undo_17 ?_
    refine q_iconst (v := nI 0) dX7_undo_20 (by decide) ?_
    refine q_istore_n (ls' := [_, _]) dX7_undo_21 (Nat.le_of_ble_eq_true rfl) rfl ?_
    have e3 : q_up I 356 3 (nI l.length) 356 3 = nI l.length := q_up_s
    have eF : ∀ a j, ¬ (a = 356 ∧ j = 3) → q_up I 356 3 (nI l.length) a j = I a j := fun a j z => q_up_n z
    have hR := m3 0 τ rfl
    rw [show l.length + 1 - 1 - 0 = l.length by omega] at hR
    generalize q_up I 356 3 (nI l.length) = K0 at e3 eF ⊢
    have key : ∀ (d k : Nat) (K : q_Mem), k + d = 554 → (∀ i, i < k → K 357 i = I 359 (554 * l.length + i)) → (∀ a j, ¬ a = 357 → K a j = K0 a j) → q_X kX7_undo 22 [some (.ref 356), some (.int (nI k))] [] K (fun v J => v = some (.int (qUndo σ (τ :: l)).1) ∧ MG J (qUndo σ (τ :: l)).2.1 (qUndo σ (τ :: l)).2.2 t ∧ FR I J) := by
      intro d
      induction d with
      | zero =>
        intro k K hd hk hF
        have eK : K 356 3 = nI l.length := (hF 356 3 (by omega)).trans e3
        have e359 : K 359 = I 359 := funext fun j => (hF 359 j (by omega)).trans (eF 359 j (by omega))
        have e360 : K 360 = I 360 := funext fun j => (hF 360 j (by omega)).trans (eF 360 j (by omega))
        have e5 : K 356 5 = I 356 5 := (hF 356 5 (by omega)).trans (eF 356 5 (by omega))
        refine q_iload_n dX7_undo_22 rfl ?_
        refine q_sipush (v := nI 554) dX7_undo_23 (by decide) ?_
        refine q_icmp_geN (tgt := 56) (by omega) (by omega) dX7_undo_26 (by decide) (fun q => ?_) (fun q => ?_)
        rotate_left
        · omega
        refine q_aload_n dX7_undo_56 rfl ?_
        refine q_getI fl_RX7_28 rfl k356 eK dX7_undo_57 ?_
        refine q_iret rfl rfl dX7_undo_60 ⟨rfl, ⟨hR.cp hτ.1.B (fun i hi => by rw [Nat.zero_add]; exact hk i (by omega)), ⟨eK, by show l.length ≤ 4; omega, fun i τ' hi => ?_⟩, hT.fr e5 e360⟩, fun a ha => funext fun j => (hF a j (by omega)).trans (eF a j (by omega))⟩
        have hi : l[i]? = some τ' := hi
        have := m3 (i + 1) τ' hi
        rw [show l.length + 1 - 1 - (i + 1) = l.length - 1 - i by omega] at this
        exact this.fr e359
      | succ d ih =>
        intro k K hd hk hF
        have eK : K 356 3 = nI l.length := (hF 356 3 (by omega)).trans e3
        have e359 : K 359 (554 * l.length + k) = I 359 (554 * l.length + k) := (hF 359 _ (by omega)).trans (eF 359 _ (by omega))
        refine q_iload_n dX7_undo_22 rfl ?_
        refine q_sipush (v := nI 554) dX7_undo_23 (by decide) ?_
        refine q_icmp_geN (tgt := 56) (by omega) (by omega) dX7_undo_26 (by decide) (fun q => ?_) (fun q => ?_)
        · omega
        refine q_aload_n dX7_undo_29 rfl ?_
        refine q_getR2 (b := 357) fl_RX7_7 rfl k356 rfl dX7_undo_30 ?_
        refine q_iload_n dX7_undo_33 rfl ?_
        refine q_aload_n dX7_undo_34 rfl ?_
        refine q_getR2 (b := 359) fl_RX7_16 rfl k356 rfl dX7_undo_35 ?_
        refine q_sipush (v := nI 554) dX7_undo_38 (by decide) ?_
        refine q_aload_n dX7_undo_41 rfl ?_
        refine q_getI fl_RX7_28 rfl k356 eK dX7_undo_42 ?_
        refine q_imul dX7_undo_45 ?_
        rw [nI_mul]
        refine q_iload_n dX7_undo_46 rfl ?_
        refine q_iadd dX7_undo_47 ?_
        rw [nI_add]
        refine q_iald k359 rfl (lt359 (by omega)) (by decide) e359 dX7_undo_48 ?_
        refine q_iast k357 rfl (lt357 (by omega)) (by decide) dX7_undo_49 ?_
        refine q_iinc (ls' := [_, _]) dX7_undo_50 rfl (nI_add _ 1) rfl ?_
        refine q_goto (tgt := 22) dX7_undo_53 (by decide) ?_
        refine ih (k + 1) _ (by omega) (fun i hi => ?_) (fun a j ha => (q_up_n (by omega)).trans (hF a j ha))
        by_cases e : i = k
        · subst e; exact q_up_s
        · exact (q_up_n (by omega)).trans (hk i (by omega))
    exact key 554 0 K0 rfl (fun i hi => by omega) (fun _ _ _ => rfl)
theorem r_type {c : Int32} {I : q_Mem} {σ : q_S} {hs : List q_S} {t : List Nat} (h : MG I σ hs t) (ht : tok t) : q_M kX7_type [.ref 356, .int c] I (fun v J => v = some (.int (qType t c).1) ∧ MG J σ hs (qType t c).2 ∧ FR I J) := by
  have h60 := ht.1
  obtain ⟨h0, hH, hT⟩ := id h
  refine q_M.of pnX7_type (by simp [Value.category]) (Nat.le_of_ble_eq_true rfl) ?_
  refine q_iload_n dX7_type_0 rfl ?_
  refine q_bipush (v := nI 32) dX7_type_1 (by decide) ?_
  refine q_bipush (v := nI 126) dX7_type_3 (by decide) ?_
  refine q_cS (as := [_, _, _]) lk_RX7_32 r_in rfl (by decide) (Nat.le_of_ble_eq_true rfl) dX7_type_5 ?_
  rintro v J ⟨rfl, rfl⟩
  by_cases e : nI 32 ≤ c ∧ c ≤ nI 126
  case neg =>
    rw [if_neg e, show qType t c = (-1000001, t) by rw [qType, if_pos e]]
    refine q_if_ne (tgt := 14) dX7_type_8 (by decide) (fun q => ?_) (fun q => ?_)
    · exact absurd rfl q
    · refine q_ldc (v := -1000001) ct_RX7_109 dX7_type_11 ?_
      exact q_iret rfl rfl dX7_type_13 ⟨rfl, h, FR.rf⟩
  rw [if_pos e]
  have hq : qType t c = if t.length = 60 then (-1000003, t) else (nI (t.length + 1), t ++ [c.toNatClampNeg]) := by rw [qType, if_neg (fun z => z e)]
  rw [hq]
  refine q_if_ne (tgt := 14) dX7_type_8 (by decide) (fun q => ?_) (fun q => ?_)
  rotate_left
  · exact absurd q (by decide)
  obtain ⟨j, hj, rfl⟩ := in_nat (l := nI 32) (by omega) (nn (by omega)) e
  rw [nI_clamp (by omega)]
  refine q_aload_n dX7_type_14 rfl ?_
  refine q_getI fl_RX7_182 rfl k356 hT.1 dX7_type_15 ?_
  refine q_bipush (v := nI 60) dX7_type_18 (by decide) ?_
  refine q_icmp_neN (tgt := 26) (by omega) (by omega) dX7_type_20 (by decide) (fun q2 => ?_) (fun q2 => ?_)
  rotate_left
  · rw [if_pos q2]
    refine q_ldc (v := -1000003) ct_RX7_111 dX7_type_23 ?_
    exact q_iret rfl rfl dX7_type_25 ⟨rfl, h, FR.rf⟩
  rw [if_neg q2]
  refine q_aload_n dX7_type_26 rfl ?_
  refine q_getR2 (b := 360) fl_RX7_19 rfl k356 rfl dX7_type_27 ?_
  refine q_aload_n dX7_type_30 rfl ?_
  refine q_getI fl_RX7_182 rfl k356 hT.1 dX7_type_31 ?_
  refine q_iload_n dX7_type_34 rfl ?_
  refine q_iast k360 rfl (lt360 (by omega)) (by decide) dX7_type_35 ?_
  have a5 : q_up I 360 t.length (nI j) 356 5 = nI t.length := (q_up_n (by omega)).trans hT.1
  refine q_aload_n dX7_type_36 rfl ?_
  refine q_dup dX7_type_37 rfl ?_
  refine q_getI fl_RX7_182 rfl k356 a5 dX7_type_38 ?_
  refine q_iconst (v := nI 1) dX7_type_41 (by decide) ?_
  refine q_iadd dX7_type_42 ?_
  rw [nI_add]
  refine q_putI ⟨fl_RX7_182, rfl, rfl⟩ k356 ⟨rfl, rfl⟩ dX7_type_43 ?_
  refine q_aload_n dX7_type_46 rfl ?_
  refine q_getI fl_RX7_182 rfl k356 q_up_s dX7_type_47 ?_
  refine q_iret rfl rfl dX7_type_50 ⟨rfl, ⟨h0.fr (funext fun i => (q_up_n (by omega)).trans (q_up_n (by omega))), hH.fr ((q_up_n (by omega)).trans (q_up_n (by omega))) (funext fun i => (q_up_n (by omega)).trans (q_up_n (by omega))), ⟨?_, fun i d hi => ?_⟩⟩, (FR.rf.up (by omega) (by omega)).up (by omega) (by omega)⟩
  · show q_up _ 356 5 (nI (t.length + 1)) 356 5 = nI (t ++ [j]).length
    rw [q_up_s, List.length_append]; rfl
  · have hi : (t ++ [j])[i]? = some d := hi
    refine (q_up_n (by omega)).trans ?_
    by_cases e2 : i = t.length
    · subst e2
      rw [List.getElem?_append_right (Nat.le_refl _)] at hi
      simp at hi
      rw [q_up_s, hi]
    · refine (q_up_n (by omega)).trans ?_
      have hl : (t ++ [j]).length = t.length + 1 := by rw [List.length_append]; rfl
      have hit : i < t.length := by
        have := g_lt hi (show (t ++ [j]).length ≤ t.length + 1 by omega)
        omega
      rw [List.getElem?_append_left hit] at hi
      exact hT.2 i d hi
theorem r_clearText {I : q_Mem} {σ : q_S} {hs : List q_S} {t : List Nat} (h : MG I σ hs t) : q_M kX7_clearText [.ref 356] I (fun v J => v = some (.int (nI t.length)) ∧ MG J σ hs [] ∧ FR I J) := by
  obtain ⟨h0, hH, hT⟩ := id h
  refine q_M.of pnX7_clearText (by simp [Value.category]) (Nat.le_of_ble_eq_true rfl) ?_
  refine q_aload_n dX7_clearText_0 rfl ?_
  refine q_getI fl_RX7_182 rfl k356 hT.1 dX7_clearText_1 ?_
  refine q_istore_n (ls' := [_, _]) dX7_clearText_4 (Nat.le_of_ble_eq_true rfl) rfl ?_
  refine q_aload_n dX7_clearText_5 rfl ?_
  refine q_iconst (v := nI 0) dX7_clearText_6 (by decide) ?_
  refine q_putI ⟨fl_RX7_182, rfl, rfl⟩ k356 ⟨rfl, rfl⟩ dX7_clearText_7 ?_
  refine q_iload_n dX7_clearText_10 rfl ?_
  exact q_iret rfl rfl dX7_clearText_11 ⟨rfl, ⟨h0.fr (funext fun i => q_up_n (by omega)), hH.fr (q_up_n (by omega)) (funext fun i => q_up_n (by omega)), ⟨q_up_s, fun i c hc => by cases hc⟩⟩, FR.rf.up (by omega) (by omega)⟩
