/-! the reference: the next term -/
theorem RS.congr {I : q_Mem} {σ τ : q_S} (h : RS I σ) (hN : ∀ j, j < 3 → sN τ j = sN σ j) (hG : ∀ j, j < 8 → sG τ j = sG σ j) (hC : ∀ c, c < sN σ 0 → ∀ j, j < 10 → sC τ c j = sC σ c j) (hL : ∀ c, c < sN σ 0 → sL τ c = sL σ c) (hP : ∀ p, p < sN σ 2 → ∀ j, j < 7 → sP τ p j = sP σ p j) (hR : ∀ r, r < sN σ 1 → sR τ r = sR σ r) : RS I τ := by
  obtain ⟨h1, h2, h3, h4, h5, h6, h7⟩ := h
  have n0 := hN 0 (by omega)
  have n1 := hN 1 (by omega)
  have n2 := hN 2 (by omega)
  exact ⟨fun j hj => by rw [hN j hj]; exact h1 j hj, fun j hj => by rw [hG j hj]; exact h2 j hj, fun d hd j hj => by rw [n0] at hd; rw [hC d hd j hj]; exact h3 d hd j hj, fun d hd => by rw [n0] at hd; rw [hL d hd]; exact h4 d hd, fun d hd r v hr => by rw [n0] at hd; rw [hL d hd] at hr; exact h5 d hd r v hr, fun p hp j hj => by rw [n2] at hp; rw [hP p hp j hj]; exact h6 p hp j hj, fun r hr => by rw [n1] at hr; rw [hR r hr]; exact h7 r hr⟩
/-- no person left -/
theorem RS.noP {I : q_Mem} {σ : q_S} (h : RS I σ) (hB : sB σ) : RS (q_up I 357 335 (nI 0)) (uN σ 2 0) := by
  obtain ⟨h1, h2, h3, h4, h5, h6, h7⟩ := h
  obtain ⟨b0, b1, b2, b3⟩ := hB
  refine ⟨fun j hj => ?_, fun j hj => ?_, fun d hd j hj => ?_, fun d hd => ?_, fun d hd r v hr => ?_, fun p hp j hj => ?_, fun r hr => ?_⟩
  · have hj3 : j = 0 ∨ j = 1 ∨ j = 2 := by omega
    rcases hj3 with rfl | rfl | rfl
    · rw [q_up_n (by decide)]; exact h1 0 (by omega)
    · rw [q_up_n (by decide)]; exact h1 1 (by omega)
    · exact q_up_s
  · rw [q_up_n (by omega)]; exact h2 j hj
  · have hd : d < sN σ 0 := hd
    rw [q_up_n (by omega)]; exact h3 d hd j hj
  · have hd : d < sN σ 0 := hd
    rw [q_up_n (by omega)]; exact h4 d hd
  · have hd : d < sN σ 0 := hd
    have := g_lt hr (b3 d)
    rw [q_up_n (by omega)]; exact h5 d hd r v hr
  · exact absurd hp (Nat.not_lt_zero _)
  · have hr : r < sN σ 1 := hr
    rw [q_up_n (by omega)]; exact h7 r hr
/-- the next term, as far as k classes are gone through -/
def rtk (σ : q_S) (k : Nat) : q_S := (sN σ, f1 (sG σ) 4 (sG σ 4 + ssum (fun p => sP σ p 5) 30), fun c j => if c < k then (if j = 6 then 1 else if j = 7 ∨ j = 8 ∨ j = 9 then 0 else sC σ c j) else sC σ c j, fun c => if c < k then [] else sL σ c, sP σ, sR σ)
theorem rtk_B {σ : q_S} (hB : sB σ) (k : Nat) : sB (rtk σ k) := ⟨hB.1, hB.2.1, hB.2.2.1, fun c => by
  show (if c < k then [] else sL σ c).length ≤ 20
  split
  · exact Nat.zero_le _
  · exact hB.2.2.2 c⟩
theorem r_beginsTerm {I : q_Mem} {σ : q_S} (h : RS I σ) (hs : sok σ) : q_M kX7_beginsTerm [.ref 356] I (fun v J => v = some (.int (opTerm σ).1) ∧ RS J (opTerm σ).2 ∧ FM 357 I J) := by
  have hw := hs.1
  have h1 := hs.2.1
  have h8 := hw.B.1
  have key : ¬ sG σ 1 = 0 → ∀ (d k : Nat) (J : q_Mem), k + d = sN σ 0 → RS J (rtk σ k) → FM 357 I J → q_X kX7_beginsTerm 31 [some (.ref 356), some (.int (nI k))] [] J (fun v J => v = some (.int (opTerm σ).1) ∧ RS J (opTerm σ).2 ∧ FM 357 I J) := by
    intro hg d
    have ho : opTerm σ = (nI (sG σ 0 + 1), sterm σ) := by rw [opTerm, if_neg hg]
    induction d with
    | zero =>
      intro k J hd h hF
      obtain rfl : k = sN σ 0 := by omega
      have hB := rtk_B hw.B (sN σ 0)
      have vn : J 357 0 = nI (sN σ 0) := h.n0
      refine q_iload_n dX7_beginsTerm_31 rfl ?_
      refine q_aload_n dX7_beginsTerm_32 rfl ?_
      refine q_getR2 (b := 357) fl_RX7_7 rfl k356 rfl dX7_beginsTerm_33 ?_
      refine q_iconst (v := nI 0) dX7_beginsTerm_36 (by decide) ?_
      refine q_iald k357 rfl (lt357 (by omega)) (by decide) vn dX7_beginsTerm_37 ?_
      refine q_icmp_geN (tgt := 107) (by omega) (by omega) dX7_beginsTerm_38 (by decide) (fun q => ?_) (fun q => ?_)
      rotate_left
      · omega
      rw [ho]
      refine q_aload_n dX7_beginsTerm_107 rfl ?_
      refine q_getR2 (b := 357) fl_RX7_7 rfl k356 rfl dX7_beginsTerm_108 ?_
      refine q_sipush (v := nI 335) dX7_beginsTerm_111 (by decide) ?_
      refine q_iconst (v := nI 0) dX7_beginsTerm_114 (by decide) ?_
      refine q_iast k357 rfl (lt357 (by omega)) (by decide) dX7_beginsTerm_115 ?_
      have h2 := h.noP hB
      have hF2 : FM 357 I (q_up J 357 335 (nI 0)) := hF.up
      have hB2 : sB (uN (rtk σ (sN σ 0)) 2 0) := ⟨hB.1, hB.2.1, by show f1 (sN σ) 2 0 2 ≤ 30; rw [f1_s]; omega, hB.2.2.2⟩
      generalize q_up J 357 335 (nI 0) = K at h2 hF2 ⊢
      refine q_aload_n dX7_beginsTerm_116 rfl ?_
      refine q_getR2 (b := 357) fl_RX7_7 rfl k356 rfl dX7_beginsTerm_117 ?_
      refine q_sipush (v := nI 547) dX7_beginsTerm_120 (by decide) ?_
      refine q_iconst (v := nI 0) dX7_beginsTerm_123 (by decide) ?_
      refine q_iast k357 rfl (lt357 (by omega)) (by decide) dX7_beginsTerm_124 ?_
      have h3 : RS (q_up K 357 547 (nI 0)) _ := h2.G (j := 1) (v := 0) hB2 (by omega) rfl
      have hF3 : FM 357 I (q_up K 357 547 (nI 0)) := hF2.up
      have e0 : q_up K 357 547 (nI 0) 357 546 = nI (sG σ 0) := (q_up_n (by omega)).trans (h2.g (j := 0) (by omega))
      generalize q_up K 357 547 (nI 0) = L at h3 hF3 e0 ⊢
      refine q_aload_n dX7_beginsTerm_125 rfl ?_
      refine q_getR2 (b := 357) fl_RX7_7 rfl k356 rfl dX7_beginsTerm_126 ?_
      refine q_sipush (v := nI 546) dX7_beginsTerm_129 (by decide) ?_
      refine q_dup2 dX7_beginsTerm_132 rfl rfl ?_
      refine q_iald k357 rfl (lt357 (by omega)) (by decide) e0 dX7_beginsTerm_133 ?_
      refine q_iconst (v := nI 1) dX7_beginsTerm_134 (by decide) ?_
      refine q_iadd dX7_beginsTerm_135 ?_
      rw [nI_add]
      refine q_iast k357 rfl (lt357 (by omega)) (by decide) dX7_beginsTerm_136 ?_
      have h4 : RS (q_up L 357 546 (nI (sG σ 0 + 1))) _ := h3.G (j := 0) (v := sG σ 0 + 1) hB2 (by omega) rfl
      refine q_aload_n dX7_beginsTerm_137 rfl ?_
      refine q_getR2 (b := 357) fl_RX7_7 rfl k356 rfl dX7_beginsTerm_138 ?_
      refine q_sipush (v := nI 546) dX7_beginsTerm_141 (by decide) ?_
      refine q_iald k357 rfl (lt357 (by omega)) (by decide) q_up_s dX7_beginsTerm_144 ?_
      refine q_iret rfl rfl dX7_beginsTerm_145 ⟨rfl, h4.congr (fun j hj => rfl) (fun j hj => ?_) (fun c hc j hj => ?_) (fun c hc => ?_) (fun p hp => absurd hp (Nat.not_lt_zero _)) (fun r hr => rfl), hF3.up⟩
      · show f1 (f1 (f1 (sG σ) 4 _) 1 0) 0 (sG σ 0 + 1) j = f1 (f1 (f1 (sG σ) 4 _) 1 0) 0 (sG σ 0 + 1) j
        rfl
      · have hc : c < sN σ 0 := hc
        have := hw.2.2.2.1 c hc
        show (if sC σ c 6 = 0 then sC σ c j else _) = if c < sN σ 0 then _ else sC σ c j
        rw [if_neg (by omega), if_pos hc]
      · have hc : c < sN σ 0 := hc
        have := hw.2.2.2.1 c hc
        show (if sC σ c 6 = 0 then sL σ c else _) = if c < sN σ 0 then _ else sL σ c
        rw [if_neg (by omega), if_pos hc]
    | succ d ih =>
      intro k J hd h hF
      have hk : k < sN σ 0 := by omega
      have hB := rtk_B hw.B k
      have vn : J 357 0 = nI (sN σ 0) := h.n0
      refine q_iload_n dX7_beginsTerm_31 rfl ?_
      refine q_aload_n dX7_beginsTerm_32 rfl ?_
      refine q_getR2 (b := 357) fl_RX7_7 rfl k356 rfl dX7_beginsTerm_33 ?_
      refine q_iconst (v := nI 0) dX7_beginsTerm_36 (by decide) ?_
      refine q_iald k357 rfl (lt357 (by omega)) (by decide) vn dX7_beginsTerm_37 ?_
      refine q_icmp_geN (tgt := 107) (by omega) (by omega) dX7_beginsTerm_38 (by decide) (fun q => ?_) (fun q => ?_)
      · omega
      refine q_aload_n dX7_beginsTerm_41 rfl ?_
      refine q_getR2 (b := 357) fl_RX7_7 rfl k356 rfl dX7_beginsTerm_42 ?_
      refine q_iload_n dX7_beginsTerm_45 rfl ?_
      refine q_bipush (v := nI 6) dX7_beginsTerm_46 (by decide) ?_
      refine q_cS (as := [_, _]) lk_RX7_40 r_at rfl (by decide) (Nat.le_of_ble_eq_true rfl) dX7_beginsTerm_48 ?_
      rintro v J' ⟨rfl, rfl⟩
      refine q_iconst (v := nI 0) dX7_beginsTerm_51 (by decide) ?_
      refine q_iast k357 rfl (lt357 (by omega)) (by decide) dX7_beginsTerm_52 ?_
      have g1 := h.C (c := k) (j := 6) (v := 1) (x := nI 0) hB hk (by omega) rfl
      have f1' : FM 357 I (q_up J 357 (1 + 41 * k + 6) (nI 0)) := hF.up
      generalize q_up J 357 (1 + 41 * k + 6) (nI 0) = K1 at g1 f1' ⊢
      refine q_aload_n dX7_beginsTerm_53 rfl ?_
      refine q_getR2 (b := 357) fl_RX7_7 rfl k356 rfl dX7_beginsTerm_54 ?_
      refine q_iload_n dX7_beginsTerm_57 rfl ?_
      refine q_bipush (v := nI 7) dX7_beginsTerm_58 (by decide) ?_
      refine q_cS (as := [_, _]) lk_RX7_40 r_at rfl (by decide) (Nat.le_of_ble_eq_true rfl) dX7_beginsTerm_60 ?_
      rintro v J' ⟨rfl, rfl⟩
      refine q_iconst (v := -1) dX7_beginsTerm_63 (by decide) ?_
      refine q_iast k357 rfl (lt357 (by omega)) (by decide) dX7_beginsTerm_64 ?_
      have g2 := g1.C (c := k) (j := 7) (v := 0) (x := -1) hB hk (by omega) rfl
      have f2' : FM 357 I (q_up K1 357 (1 + 41 * k + 7) (-1)) := f1'.up
      generalize q_up K1 357 (1 + 41 * k + 7) (-1) = K2 at g2 f2' ⊢
      refine q_aload_n dX7_beginsTerm_65 rfl ?_
      refine q_getR2 (b := 357) fl_RX7_7 rfl k356 rfl dX7_beginsTerm_66 ?_
      refine q_iload_n dX7_beginsTerm_69 rfl ?_
      refine q_bipush (v := nI 8) dX7_beginsTerm_70 (by decide) ?_
      refine q_cS (as := [_, _]) lk_RX7_40 r_at rfl (by decide) (Nat.le_of_ble_eq_true rfl) dX7_beginsTerm_72 ?_
      rintro v J' ⟨rfl, rfl⟩
      refine q_iconst (v := -1) dX7_beginsTerm_75 (by decide) ?_
      refine q_iast k357 rfl (lt357 (by omega)) (by decide) dX7_beginsTerm_76 ?_
      have g3 := g2.C (c := k) (j := 8) (v := 0) (x := -1) hB hk (by omega) rfl
      have f3' : FM 357 I (q_up K2 357 (1 + 41 * k + 8) (-1)) := f2'.up
      generalize q_up K2 357 (1 + 41 * k + 8) (-1) = K3 at g3 f3' ⊢
      refine q_aload_n dX7_beginsTerm_77 rfl ?_
      refine q_getR2 (b := 357) fl_RX7_7 rfl k356 rfl dX7_beginsTerm_78 ?_
      refine q_iload_n dX7_beginsTerm_81 rfl ?_
      refine q_bipush (v := nI 9) dX7_beginsTerm_82 (by decide) ?_
      refine q_cS (as := [_, _]) lk_RX7_40 r_at rfl (by decide) (Nat.le_of_ble_eq_true rfl) dX7_beginsTerm_84 ?_
      rintro v J' ⟨rfl, rfl⟩
      refine q_iconst (v := nI 0) dX7_beginsTerm_87 (by decide) ?_
      refine q_iast k357 rfl (lt357 (by omega)) (by decide) dX7_beginsTerm_88 ?_
      have g4 := g3.C (c := k) (j := 9) (v := 0) (x := nI 0) hB hk (by omega) rfl
      have f4' : FM 357 I (q_up K3 357 (1 + 41 * k + 9) (nI 0)) := f3'.up
      generalize q_up K3 357 (1 + 41 * k + 9) (nI 0) = K4 at g4 f4' ⊢
      refine q_aload_n dX7_beginsTerm_89 rfl ?_
      refine q_getR2 (b := 357) fl_RX7_7 rfl k356 rfl dX7_beginsTerm_90 ?_
      refine q_iload_n dX7_beginsTerm_93 rfl ?_
      refine q_bipush (v := nI 10) dX7_beginsTerm_94 (by decide) ?_
      refine q_cS (as := [_, _]) lk_RX7_40 r_at rfl (by decide) (Nat.le_of_ble_eq_true rfl) dX7_beginsTerm_96 ?_
      rintro v J' ⟨rfl, rfl⟩
      refine q_iconst (v := nI 0) dX7_beginsTerm_99 (by decide) ?_
      refine q_iast k357 rfl (lt357 (by omega)) (by decide) dX7_beginsTerm_100 ?_
      refine q_iinc (ls' := [_, _]) dX7_beginsTerm_101 rfl (nI_add _ 1) rfl ?_
      refine q_goto (tgt := 31) dX7_beginsTerm_104 (by decide) ?_
      have g5 := g4.L (J := q_up K4 357 (1 + 41 * k + 10) (nI 0)) (c := k) (l := []) hB hk q_up_s (fun r v hr => by cases hr) (fun i hi => q_up_n (by omega))
      refine ih (k + 1) _ (by omega) (g5.congr (fun j hj => rfl) (fun j hj => rfl) (fun c hc j hj => ?_) (fun c hc => ?_) (fun p hp j hj => rfl) (fun r hr => rfl)) f4'.up
      · show (if c < k + 1 then (if j = 6 then 1 else if j = 7 ∨ j = 8 ∨ j = 9 then 0 else sC σ c j) else sC σ c j) = f2 (f2 (f2 (f2 (sC (rtk σ k)) k 6 1) k 7 0) k 8 0) k 9 0 c j
        have estk : sC (rtk σ k) c j = if c < k then (if j = 6 then 1 else if j = 7 ∨ j = 8 ∨ j = 9 then 0 else sC σ c j) else sC σ c j := rfl
        simp only [f2_or, estk]
        by_cases q1 : c = k
        · subst q1
          rw [if_pos (Nat.lt_succ_self _)]
          by_cases j6 : j = 6
          · subst j6; simp
          · by_cases j7 : j = 7
            · subst j7; simp
            · by_cases j8 : j = 8
              · subst j8; simp
              · by_cases j9 : j = 9
                · subst j9; simp
                · simp [j6, j7, j8, j9]
        · have : (c < k + 1) = (c < k) := propext (by omega)
          simp [q1, this]
      · show (if c < k + 1 then [] else sL σ c) = f1 (sL (rtk σ k)) k [] c
        have estk : sL (rtk σ k) c = if c < k then [] else sL σ c := rfl
        simp only [f1_or, estk]
        by_cases q1 : c = k
        · subst q1
          rw [if_pos rfl, if_pos (Nat.lt_succ_self _)]
        · have : (c < k + 1) = (c < k) := propext (by omega)
          simp [q1, this]
  refine q_M.of pnX7_beginsTerm (by simp [Value.category]) (Nat.le_of_ble_eq_true rfl) ?_
  refine q_aload_n dX7_beginsTerm_0 rfl ?_
  refine q_getR2 (b := 357) fl_RX7_7 rfl k356 rfl dX7_beginsTerm_1 ?_
  refine q_sipush (v := nI 547) dX7_beginsTerm_4 (by decide) ?_
  refine q_iald k357 rfl (lt357 (by omega)) (by decide) (h.g (j := 1) (by omega)) dX7_beginsTerm_7 ?_
  refine q_if_neN (tgt := 14) (by omega) dX7_beginsTerm_8 (by decide) (fun q => ?_) (fun q => ?_)
  · refine q_aload_n dX7_beginsTerm_14 rfl ?_
    refine q_getR2 (b := 357) fl_RX7_7 rfl k356 rfl dX7_beginsTerm_15 ?_
    refine q_sipush (v := nI 550) dX7_beginsTerm_18 (by decide) ?_
    refine q_dup2 dX7_beginsTerm_21 rfl rfl ?_
    refine q_iald k357 rfl (lt357 (by omega)) (by decide) (h.g (j := 4) (by omega)) dX7_beginsTerm_22 ?_
    refine q_aload_n dX7_beginsTerm_23 rfl ?_
    refine q_cV (as := []) lk_RX7_128 (r_paidNow h hw) (Or.inl ⟨6, by decide, k356, rfl⟩) rfl (by decide) (Nat.le_of_ble_eq_true rfl) dX7_beginsTerm_24 ?_
    rintro v J ⟨rfl, rfl⟩
    refine q_iadd dX7_beginsTerm_27 ?_
    rw [nI_add]
    refine q_iast k357 rfl (lt357 (by omega)) (by decide) dX7_beginsTerm_28 ?_
    refine q_iconst (v := nI 0) dX7_beginsTerm_29 (by decide) ?_
    refine q_istore_n (ls' := [_, _]) dX7_beginsTerm_30 (Nat.le_of_ble_eq_true rfl) rfl ?_
    have h2 : RS (q_up I 357 550 (nI (sG σ 4 + ssum (fun p => sP σ p 5) 30))) _ := h.G (j := 4) (v := sG σ 4 + ssum (fun p => sP σ p 5) 30) hw.B (by omega) rfl
    refine key (by omega) (sN σ 0) 0 _ (by omega) (h2.congr (fun j hj => rfl) (fun j hj => rfl) (fun c hc j hj => ?_) (fun c hc => ?_) (fun p hp j hj => rfl) (fun r hr => rfl)) FM.rf.up
    · show (if c < 0 then (if j = 6 then 1 else if j = 7 ∨ j = 8 ∨ j = 9 then 0 else sC σ c j) else sC σ c j) = sC σ c j
      rw [if_neg (Nat.not_lt_zero _)]
    · show (if c < 0 then [] else sL σ c) = sL σ c
      rw [if_neg (Nat.not_lt_zero _)]
  · have ho : opTerm σ = (-1000002, σ) := by rw [opTerm, if_pos (by omega)]
    rw [ho]
    refine q_ldc (v := -1000002) ct_RX7_110 dX7_beginsTerm_11 ?_
    exact q_iret rfl rfl dX7_beginsTerm_13 ⟨rfl, h, FM.rf⟩
